/-! ===== what is given ===== -/
theorem itr_fold {A : Type} {P : Nat → Bool} {F : A → Nat → A} {a0 : A} : ∀ N, itr (fun i a => if P i = true then F a i else a) N a0 = ((List.range N).filter P).foldl F a0
  | 0 => rfl
  | N + 1 => by
    rw [itr, itr_fold N, List.range_succ, List.filter_append, List.foldl_append]
    cases h : P N
    · simp [h]
    · simp [h]
theorem lp_fold {A T : Type} {c : St} (hB : CB c) {b : A × Int32 → Option ((A × Int32) ⊕ T)} (F : A → Nat → A) (a0 : A) (tt : A → T) (hs : ∀ i k a, (gl c 1)[i]? = some k → k < gn c 2 → bd c k = true → b (a, nI i) = some (.inl (F a k, nI (i + 1)))) (he : ∀ a, b (a, nI (gl c 1).length) = some (.inr (tt a))) {fu : Nat} (hf : (gl c 1).length < fu) : lp b fu (a0, nI 0) = some (tt ((gl c 1).foldl F a0)) := by
  obtain ⟨a', hr, r⟩ := up1 (b := b) (fun i a => (a, nI i)) (fun i a => a = ((gl c 1).take i).foldl F a0) (gl c 1).length (fun i a hi hr => by
    have hg : (gl c 1)[i]? = some (gl c 1)[i] := List.getElem?_eq_getElem hi
    have h2 := (hB.2.1 (gl c 1)[i]).mp (List.getElem_mem hi)
    refine ⟨_, hs i _ a hg h2.1 (bd_ne.mpr h2.2), ?_⟩
    have htk : (gl c 1).take (i + 1) = (gl c 1).take i ++ [(gl c 1)[i]] := by
      rw [List.take_succ, hg]
      rfl
    rw [htk, List.foldl_append, hr]
    rfl) (a := a0) (by simp)
  rw [List.take_length] at hr
  rw [← hr]
  exact r.fin (he a') hf
theorem gl_perm {c : St} (hB : CB c) : (gl c 1).Perm ((List.range (gn c 2)).filter (bd c)) := by
  rw [List.perm_ext_iff_of_nodup hB.1 (List.Nodup.sublist List.filter_sublist List.nodup_range)]
  intro k
  rw [hB.2.1 k, List.mem_filter, List.mem_range, bd_ne]
theorem fold_add {f : Nat → Int32} {l1 l2 : List Nat} (h : l1.Perm l2) (a : Int32) : l1.foldl (fun a k => a + f k) a = l2.foldl (fun a k => a + f k) a :=
  h.foldl_eq' (fun x _ y _ z => by rw [Int32.add_assoc, Int32.add_comm (f x), ← Int32.add_assoc]) a
theorem fold_or {f : Nat → Int32} {l1 l2 : List Nat} (h : l1.Perm l2) (a : Int32) : l1.foldl (fun a k => a ||| f k) a = l2.foldl (fun a k => a ||| f k) a :=
  h.foldl_eq' (fun x _ y _ z => by rw [Int32.or_assoc, Int32.or_comm (f x), ← Int32.or_assoc]) a
theorem fold_pair {f g : Nat → Int32} : ∀ (l : List Nat) (a b : Int32), l.foldl (fun (p : Int32 × Int32) k => (p.1 + f k, p.2 ||| g k)) (a, b) = (l.foldl (fun a k => a + f k) a, l.foldl (fun a k => a ||| g k) b)
  | [], _, _ => rfl
  | k :: l, a, b => fold_pair l _ _
def lnb (c : St) (k : Nat) : Int32 := if gi c 203 k = -1 then 0 else 1 <<< (gi c 203 k &&& 31)
def plc (c : St) (k : Nat) : Int32 := if SPC c k = none then gi c 202 k else 0
def LNS (c : St) : Int32 := (gl c 1).foldl (fun a k => a ||| lnb c k) 0
def PLS (c : St) : Int32 := (gl c 1).foldl (fun a k => a + plc c k) 0
theorem LNS_hi {c : St} (hD : CD c) (hB : CB c) {d : Nat} (h8 : 8 ≤ d) : hb (LNS c) d = false := by
  have key : ∀ (l : List Nat) (a : Int32), (∀ k ∈ l, k < gn c 2) → hb a d = false → hb (l.foldl (fun a k => a ||| lnb c k) a) d = false := by
    intro l
    induction l with
    | nil => intro a _ h; exact h
    | cons k l ih =>
      intro a hl h
      refine ih _ (fun x hx => hl x (List.mem_cons_of_mem _ hx)) ?_
      rw [hb_or, h, Bool.false_or]
      unfold lnb
      rcases (hD k (hl k List.mem_cons_self)).2.2.2.1 with h1 | ⟨ln, h1, h2⟩
      · rw [if_pos h1, hb_0]
      · rw [h2, if_neg (nI_neg1 (by omega))]
        by_cases h32 : d < 32
        · rw [hb_1 (by omega) h32]
          simp
          omega
        · unfold hb
          exact BitVec.getLsbD_of_ge _ _ (by omega)
  exact key _ _ (fun k hk => ((hB.2.1 k).mp hk).1) hb_0
theorem LNS_nI {c : St} (hD : CD c) (hB : CB c) : ∃ x, x < 256 ∧ LNS c = nI x := by
  refine ⟨(LNS c).toBitVec.toNat, ?_, ?_⟩
  · refine Nat.lt_pow_two_of_testBit (n := 8) _ fun i hi => ?_
    exact LNS_hi hD hB hi
  · refine Int32.toBitVec_inj.mp ?_
    rw [nI_bv, BitVec.ofNat_toNat, BitVec.setWidth_eq]
def bcE (a0 : Int32) : Int32 :=
  (fun w1 : Int32 => (fun w3 : Int32 => (fun w5 : Int32 => (fun w7 : Int32 => (fun w9 : Int32 => w9 &&& 63) (w7 + ((Int32.toUInt32 w7 >>> (Int32.toUInt32 16 &&& Int32.toUInt32 31)).toInt32))) (w5 + ((Int32.toUInt32 w5 >>> (Int32.toUInt32 8 &&& Int32.toUInt32 31)).toInt32))) ((w3 + ((Int32.toUInt32 w3 >>> (Int32.toUInt32 4 &&& Int32.toUInt32 31)).toInt32)) &&& 252645135)) ((w1 &&& 858993459) + (((Int32.toUInt32 w1 >>> (Int32.toUInt32 2 &&& Int32.toUInt32 31)).toInt32) &&& 858993459))) (a0 - (((Int32.toUInt32 a0 >>> (Int32.toUInt32 1 &&& Int32.toUInt32 31)).toInt32) &&& 1431655765))
theorem bc_eq {fu : Nat} {a : Int32} {c : St} : f91_bitCount fu a c = some (bcE a) := rfl
def sbE (l : Int32) (N : Nat) : Int32 := itr (fun k s => s + 0 + ((l >>> (nI k &&& 31)) &&& 1)) N 0
theorem bc_sb : ∀ x, x < 256 → bcE (nI x) = sbE (nI x) 16 := by decide +kernel
def w2 : Nat → Int32 := fun e => if e = 2 then 1 else 0
theorem F_given {fu e t : Nat} {c m : St} (a : Int32) (h : INVF e t c m) (hf : 200 ≤ fu) : OKQ w2 (fun x => x = 2) e t c m (f7_given fu a c) (f8_given fu a m) := by
  have hm := (h.m (v := 0)).1
  obtain ⟨hS, hD, hB, hW, hT, hQ, hO⟩ := h.1.1
  have hQ' := hm.1.2.2.2.2.2.1
  have hSl := hm.2.2.2.2.1
  have h24 := hS.2.1
  have hlen := bl_len hB
  have hperm := gl_perm hB
  obtain ⟨mm, hmm⟩ : ∃ mm, mm = zi m 800 0 0 := ⟨_, rfl⟩
  rw [← hmm] at hQ' hSl
  have e0 : (0 : Int32) = nI 0 := rfl
  -- the reference's first loop
  have hj172 : ∀ (x3 : Int32) k (y0 y1 : Int32), f8_given_j172 fu a x3 (nI k) y0 y1 mm = some (.inl (y0 + y1, nI (k + 1))) := fun x3 k y0 y1 => by
    unfold f8_given_j172
    rw [nI_s]
  have hj154 : ∀ (x3 : Int32) k (y0 : Int32) (y1 : Bool), f8_given_j154 fu a x3 (nI k) y0 y1 mm = some (.inl (y0 + b2i y1 + (if a = 1 then (x3 >>> (nI k &&& 31)) &&& 1 else 0), nI (k + 1))) := fun x3 k y0 y1 => by
    unfold f8_given_j154
    by_cases h1 : a = 1
    · rw [if_pos h1, hj172, if_pos h1]
    · rw [if_neg h1, hj172, if_neg h1]
  have hj87 : ∀ k, k < gn c 2 → ∀ (x3 y0 y1 : Int32), f8_given_j87 fu a x3 (nI k) y0 y1 mm = some (.inl (y0 + y1, x3 ||| lnb c k, nI (k + 1))) := fun k hk x3 y0 y1 => by
    unfold f8_given_j87 f8_given_j114 f8_given_j116 lnb
    rw [ar_k _ (by omega) (by omega), (hQ'.2.2.1 k hk).2.2.1]
    by_cases h1 : gi c 203 k = -1
    · rw [if_pos h1, if_pos h1, nI_s]
    · rw [if_neg h1, if_neg h1, ar_k _ (by omega) (by omega), (hQ'.2.2.1 k hk).2.2.1, nI_s]
  have hb34 : ∀ k, k < gn c 2 → ∀ (x2 x3 : Int32), f8_given_b34 fu a x2 x3 (nI k) mm = some (.inl (if bd c k = true then (x2 + (if a = 0 then plc c k else if a = 3 then 1 else 0), x3 ||| lnb c k, nI (k + 1)) else (x2, x3, nI (k + 1)))) := fun k hk x2 x3 => by
    unfold f8_given_b34
    rw [hQ'.1, if_neg (by rw [nI_leN (by omega) (by omega)]; omega), ob1_k (q_isBound hS hD hQ' hk)]
    cases hbd : bd c k
    · rw [if_neg (by simp), if_neg (by simp)]
      unfold f8_given_j116
      rw [nI_s]
    · rw [if_pos rfl, if_pos rfl]
      have hpi : ∀ j, gp c 205 k = some j → bd c j = true := fun j hj => (bd_need hB hk hbd (Or.inl rfl) hj).1
      by_cases h1 : a = 0
      · rw [if_pos h1, if_pos h1, ob1_k (q_spaceOf hS hD hB hW hQ' hk hpi (by omega))]
        unfold plc
        by_cases h2 : SPC c k = none
        · rw [if_pos (by rw [h2]; rfl), if_pos h2, ar_k _ (by omega) (by omega), hj87 k hk, (hQ'.2.2.1 k hk).2.1]
        · rw [if_neg (fun z => h2 ((enc_eqN fun j hj => by have := SPC_lt hD hk hj; omega).mp z)), if_neg h2]
          unfold f8_given_j77
          rw [if_neg (by rw [h1]; decide), hj87 k hk]
      · rw [if_neg h1, if_neg h1]
        unfold f8_given_j77
        by_cases h3 : a = 3
        · rw [if_pos h3, if_pos h3, hj87 k hk]
        · rw [if_neg h3, if_neg h3, hj87 k hk]
  obtain ⟨sf, hsf⟩ : ∃ sf : Nat → Int32, sf = fun k => if a = 0 then plc c k else if a = 3 then 1 else 0 := ⟨_, rfl⟩
  have h34 : lp (fun s8 : Int32 × Int32 × Int32 => f8_given_b34 fu a s8.1 s8.2.1 s8.2.2 mm) fu (0, 0, 0) = (match lp (fun s8 : Int32 × Int32 => f8_given_b125 fu a (LNS c) s8.1 s8.2 mm) fu ((gl c 1).foldl (fun a k => a + sf k) 0, 0) with | none => none | some z => some z) := by
    have r := up1 (b := fun s8 : Int32 × Int32 × Int32 => f8_given_b34 fu a s8.1 s8.2.1 s8.2.2 mm) (fun i (p : Int32 × Int32) => (p.1, p.2, nI i)) (fun i p => p = ((List.range i).filter (bd c)).foldl (fun (p : Int32 × Int32) k => (p.1 + sf k, p.2 ||| lnb c k)) (0, 0)) (gn c 2) (fun i p hi hr => by
      refine ⟨if bd c i = true then (p.1 + sf i, p.2 ||| lnb c i) else p, ?_, ?_⟩
      · show f8_given_b34 fu a p.1 p.2 (nI i) mm = _
        rw [hb34 i hi, hsf]
        cases bd c i
        · rw [if_neg (by simp), if_neg (by simp)]
        · rw [if_pos rfl, if_pos rfl]
      · rw [List.range_succ, List.filter_append, List.foldl_append, ← hr]
        cases hbd : bd c i
        · simp [hbd]
        · simp [hbd]) (a := (0, 0)) (by simp)
    obtain ⟨p, hp, r⟩ := r
    rw [fold_pair] at hp
    have hs1 := (fold_add (f := sf) hperm 0).symm
    have hs2 := (fold_or (f := lnb c) hperm 0).symm
    rw [hs1, hs2] at hp
    have hend : (fun s8 : Int32 × Int32 × Int32 => f8_given_b34 fu a s8.1 s8.2.1 s8.2.2 mm) (p.1, p.2, nI (gn c 2)) = oinr (lp (fun s8 : Int32 × Int32 => f8_given_b125 fu a (LNS c) s8.1 s8.2 mm) fu ((gl c 1).foldl (fun a k => a + sf k) 0, 0)) := by
      show f8_given_b34 fu a p.1 p.2 (nI (gn c 2)) mm = _
      unfold f8_given_b34
      rw [hQ'.1, if_pos (by rw [nI_leN (by omega) (by omega)]; omega), hp]
      rfl
    cases hlp : lp (fun s8 : Int32 × Int32 => f8_given_b125 fu a (LNS c) s8.1 s8.2 mm) fu ((gl c 1).foldl (fun a k => a + sf k) 0, 0) with
    | none =>
      rw [hlp] at hend
      obtain ⟨b, hb⟩ : ∃ b, fu = (b + 1) + gn c 2 := ⟨fu - gn c 2 - 1, by omega⟩
      have := r (b + 1)
      conv => lhs; arg 2; rw [hb]
      rw [show ((0 : Int32), (0 : Int32), (0 : Int32)) = ((0 : Int32), (0 : Int32), nI 0) from rfl, this, lp]
      have hend' : f8_given_b34 fu a p.1 p.2 (nI (gn c 2)) mm = none := hend
      dsimp only
      rw [hend']
    | some z =>
      rw [hlp] at hend
      exact r.fin hend (by omega)
  have h125 : ∀ s0 : Int32, lp (fun s8 : Int32 × Int32 => f8_given_b125 fu a (LNS c) s8.1 s8.2 mm) fu (s0, 0) = some (itr (fun k s => s + b2i (decide (a = 2) && decide (gp c 600 k ≠ none)) + (if a = 1 then (LNS c >>> (nI k &&& 31)) &&& 1 else 0)) 16 s0, mm) := by
    intro s0
    refine lp_up (b := fun s8 : Int32 × Int32 => f8_given_b125 fu a (LNS c) s8.1 s8.2 mm) (fun i s => (s, nI i)) (fun k s => s + b2i (decide (a = 2) && decide (gp c 600 k ≠ none)) + (if a = 1 then (LNS c >>> (nI k &&& 31)) &&& 1 else 0)) 16 (a0 := s0) (fun i hi => ?_) ?_ (by omega)
    · generalize itr _ i _ = s
      show f8_given_b125 fu a (LNS c) s (nI i) mm = _
      unfold f8_given_b125
      rw [if_neg (by rw [show (16 : Int32) = nI 16 from rfl, nI_leN (by omega) (by omega)]; omega)]
      obtain ⟨t1, t2, -⟩ := hSl i hi
      by_cases h2 : a = 2
      · rw [if_pos h2, ar_k _ hi (by omega), t2]
        by_cases h6 : gp c 600 i = none
        · rw [if_pos (by rw [h6]; rfl), hj154]
          simp [h6]
        · rw [if_neg (fun z => h6 ((enc_eqN fun j hj => by have := t1 j hj; omega).mp z)), hj154]
          simp [h2, h6]
      · rw [if_neg h2, hj154]
        simp [h2]
    · show f8_given_b125 fu a (LNS c) _ (nI 16) mm = _
      unfold f8_given_b125
      rw [if_pos (by decide)]
      rfl
  have h8 : inV a 0 3 = true → f8_given fu a m = some (itr (fun k s => s + b2i (decide (a = 2) && decide (gp c 600 k ≠ none)) + (if a = 1 then (LNS c >>> (nI k &&& 31)) &&& 1 else 0)) 16 ((gl c 1).foldl (fun a k => a + sf k) 0), zi m 800 0 0) := by
    intro hin
    unfold f8_given f8_given_j15
    rw [in_8, ob1_k rfl, hin, if_pos rfl, b2i_f, g800, if_pos rfl, ← hmm, h34, h125]
  have hidt : ∀ s0 : Int32, ¬ a = 2 → ¬ a = 1 → itr (fun k s => s + b2i (decide (a = 2) && decide (gp c 600 k ≠ none)) + (if a = 1 then (LNS c >>> (nI k &&& 31)) &&& 1 else 0)) 16 s0 = s0 := by
    intro s0 n2 n1
    have : (fun (k : Nat) (s : Int32) => s + b2i (decide (a = 2) && decide (gp c 600 k ≠ none)) + (if a = 1 then (LNS c >>> (nI k &&& 31)) &&& 1 else 0)) = fun _ s => s := by
      funext k s
      simp [n2, n1, b2i]
    rw [this]
    have hid : ∀ N, itr (fun (_ : Nat) (s : Int32) => s) N s0 = s0 := by
      intro N
      induction N with
      | zero => rfl
      | succ N ih => rw [itr, ih]
    exact hid 16
  have hzero : ¬ a = 0 → ¬ a = 3 → (gl c 1).foldl (fun a k => a + sf k) 0 = 0 := by
    intro n0 n3
    have hsz : sf = fun _ => 0 := by
      rw [hsf]
      funext k
      simp [n0, n3]
    rw [hsz]
    have : ∀ (l : List Nat) (z : Int32), l.foldl (fun a _ => a + 0) z = z := by
      intro l
      induction l with
      | nil => intro z; rfl
      | cons k l ih => intro z; rw [List.foldl_cons, ih, Int32.add_zero]
    exact this _ _
  by_cases a0 : a = 0
  · refine OKQ.kk (z := PLS c) h ?_ ?_
    · unfold f7_given f7_countPlaces
      rw [if_pos a0]
      rw [show lp (fun s8 : Int32 × Int32 => f7_countPlaces_b4 fu s8.1 s8.2 c) fu (0, 0) = some (PLS c) from lp_fold hB (b := fun s8 : Int32 × Int32 => f7_countPlaces_b4 fu s8.1 s8.2 c) (fun a k => a + plc c k) 0 id (fun i k x hk hkn hbd => by
        have hi := (List.getElem?_eq_some_iff.mp hk).1
        show f7_countPlaces_b4 fu x (nI i) c = _
        unfold f7_countPlaces_b4 f7_countPlaces_j41 plc
        rw [if_neg (by rw [nI_leN (by omega) (by omega)]; omega), lg_k (σ := c) (k := 1) _ (by omega) hk (show k < gn c 2 from hkn), ob1_k (q_space hD hkn h24 (by omega))]
        by_cases h2 : SPC c k = none
        · rw [if_pos h2, if_pos h2, nI_s]
        · rw [if_neg h2, if_neg h2, nI_s, Int32.add_zero]) (fun x => by
        show f7_countPlaces_b4 fu x (nI (gl c 1).length) c = _
        unfold f7_countPlaces_b4
        rw [if_pos (by rw [nI_leN (by omega) (by omega)]; omega)]
        rfl) (by omega), ob1_k rfl]
    · rw [h8 (by rw [a0]; decide), hidt _ (by rw [a0]; decide) (by rw [a0]; decide)]
      have : sf = plc c := by
        rw [hsf]
        funext k
        rw [if_pos a0]
      rw [this]
      rfl
  by_cases a1 : a = 1
  · obtain ⟨x, hx, hxe⟩ := LNS_nI hD hB
    refine OKQ.kk (z := bcE (LNS c)) h ?_ ?_
    · unfold f7_given f7_countLines
      rw [if_neg a0, if_pos a1]
      rw [show lp (fun s8 : Int32 × Int32 => f7_countLines_b4 fu s8.1 s8.2 c) fu (0, 0) = some (bcE (LNS c)) from lp_fold hB (b := fun s8 : Int32 × Int32 => f7_countLines_b4 fu s8.1 s8.2 c) (fun a k => a ||| lnb c k) 0 bcE (fun i k x hk hkn hbd => by
        have hi := (List.getElem?_eq_some_iff.mp hk).1
        show f7_countLines_b4 fu x (nI i) c = _
        unfold f7_countLines_b4 f7_countLines_j41 lnb
        rw [if_neg (by rw [nI_leN (by omega) (by omega)]; omega), lg_k (σ := c) (k := 1) _ (by omega) hk (show k < gn c 2 from hkn)]
        by_cases h2 : gi c 203 k = -1
        · rw [if_pos h2, if_pos h2, nI_s, Int32.or_zero]
        · rw [if_neg h2, if_neg h2, nI_s]) (fun x => by
        show f7_countLines_b4 fu x (nI (gl c 1).length) c = _
        unfold f7_countLines_b4
        rw [if_pos (by rw [nI_leN (by omega) (by omega)]; omega), bc_eq]
        rfl) (by omega), ob1_k rfl]
    · rw [h8 (by rw [a1]; decide), hzero a0 (by rw [a1]; decide), hxe, bc_sb x hx]
      have : (fun (k : Nat) (s : Int32) => s + b2i (decide (a = 2) && decide (gp c 600 k ≠ none)) + (if a = 1 then (nI x >>> (nI k &&& 31)) &&& 1 else 0)) = fun k s => s + 0 + ((nI x >>> (nI k &&& 31)) &&& 1) := by
        funext k s
        rw [if_pos a1, a1]
        rfl
      rw [this]
      rfl
  by_cases a2 : a = 2
  · obtain ⟨P, hP⟩ : ∃ P : Nat → Bool, P = fun i => decide (gp c 600 i ≠ none) := ⟨_, rfl⟩
    have l5 := hS.2.2.2.2.2.2.2.2
    refine OKQ.kk (z := itr (fun k (s : Int32) => if P k = true then s + 1 else s) 16 0) h ?_ ?_
    · unfold f7_given f7_countSlots
      rw [if_neg a0, if_neg a1, if_pos a2]
      rw [show lp (fun s8 : Int32 × Int32 => f7_countSlots_b4 fu s8.1 s8.2 c) fu (0, 0) = some (itr (fun k (s : Int32) => if P k = true then s + 1 else s) 16 0) from lp_up (b := fun s8 : Int32 × Int32 => f7_countSlots_b4 fu s8.1 s8.2 c) (fun i a => (a, nI i)) (fun k (s : Int32) => if P k = true then s + 1 else s) 16 (a0 := 0) (fun i hi => by
        generalize itr _ i _ = s
        show f7_countSlots_b4 fu s (nI i) c = _
        have hPi : P i = decide (gp c 600 i ≠ none) := by rw [hP]
        unfold f7_countSlots_b4 f7_countSlots_j35 lt
        rw [l5, List.length_range, if_neg (by rw [nI_leN (by omega) (by omega)]; omega), lg_r (σ := c) (k := 5) _ l5 hi (by omega) (show 16 ≤ 16 from Nat.le_refl _), nI_s]
        dsimp only
        by_cases h6 : gp c 600 i = none
        · rw [if_pos h6]
          simp [hPi, h6]
        · rw [if_neg h6]
          simp [hPi, h6]) (by
        show f7_countSlots_b4 fu _ (nI 16) c = _
        unfold f7_countSlots_b4
        rw [l5, List.length_range, if_pos (by decide)]
        rfl) (by omega), ob1_k rfl]
    · rw [h8 (by rw [a2]; decide), hzero a0 (by rw [a2]; decide)]
      have : (fun (k : Nat) (s : Int32) => s + b2i (decide (a = 2) && decide (gp c 600 k ≠ none)) + (if a = 1 then (LNS c >>> (nI k &&& 31)) &&& 1 else 0)) = fun k s => if P k = true then s + 1 else s := by
        funext k s
        rw [if_neg a1, Int32.add_zero, hP]
        by_cases h6 : gp c 600 k = none
        · simp [h6, b2i]
        · simp [h6, a2, b2i]
      rw [this]
  by_cases a3 : a = 3
  · refine OKQ.kk (z := nI (gl c 1).length) h ?_ ?_
    · unfold f7_given
      rw [if_neg a0, if_neg a1, if_neg a2, if_pos a3]
    · rw [h8 (by rw [a3]; decide), hidt _ a2 a1]
      have hs1 : sf = fun _ => 1 := by
        rw [hsf]
        funext k
        rw [if_neg a0, if_pos a3]
      rw [hs1]
      have : ∀ (l : List Nat) (z : Nat), l.foldl (fun a _ => a + 1) (nI z) = nI (z + l.length) := by
        intro l
        induction l with
        | nil => intro z; rfl
        | cons k l ih => intro z; rw [List.foldl_cons, nI_s, ih, List.length_cons]; congr 1; omega
      have h2 := this (gl c 1) 0
      rw [Nat.zero_add] at h2
      rw [show (0 : Int32) = nI 0 from rfl, h2]
  · refine OKQ.er (x := 2) (z := 0) h ?_ ?_ rfl
    · unfold f7_given
      rw [if_neg a0, if_neg a1, if_neg a2, if_neg a3]
    · have hin : inV a 0 3 = false := by
        cases hv : inV a 0 3
        · rfl
        · obtain ⟨k, -, hk, rfl⟩ := inV_t (lo := 0) (hi := 3) (by omega) (by omega) hv
          have : k = 0 ∨ k = 1 ∨ k = 2 ∨ k = 3 := by omega
          rcases this with rfl | rfl | rfl | rfl
          · exact absurd rfl a0
          · exact absurd rfl a1
          · exact absurd rfl a2
          · exact absurd rfl a3
      unfold f8_given f8_given_j15
      rw [in_8, ob1_k rfl, hin, if_neg (by simp), b2i_t, g800, if_neg (by decide)]
      rfl
