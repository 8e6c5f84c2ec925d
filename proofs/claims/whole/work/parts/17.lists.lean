/-! ===== the JDK's list members, over raw worlds (laid by program) ===== -/
theorem nI_max {a b : Nat} (ha : a < 2 ^ 31) (hb : b < 2 ^ 31) : (if nI a < nI b then nI b else nI a) = nI (max a b) := by
  by_cases h : a < b
  · rw [if_pos (nI_lt h hb), Nat.max_eq_right (Nat.le_of_lt h)]
  · rw [if_neg (nI_nlt (Nat.le_of_not_lt h) ha), Nat.max_eq_left (Nat.le_of_not_lt h)]
theorem nI_min {a b : Nat} (ha : a < 2 ^ 31) (hb : b < 2 ^ 31) : (if nI b < nI a then nI b else nI a) = nI (min a b) := by
  by_cases h : b < a
  · rw [if_pos (nI_lt h ha), Nat.min_eq_right (Nat.le_of_lt h)]
  · rw [if_neg (nI_nlt (Nat.le_of_not_lt h) hb), Nat.min_eq_left (Nat.le_of_not_lt h)]
theorem nI_shr : ∀ k, k < 1001 → nI k >>> ((1 : Int32) &&& 31) = nI (k / 2) := by decide +kernel
/-- an object that a list may hold -/
def OKo (γ : GT) (H : Heap) (y : Nat) : Prop := ∃ (ci : Nat) (fs : List Value) (r : vw_C), vwCl[ci]? = some r ∧ Cond.castable r.1 "java/lang/Object" ∈ NW ∧ va_at (gD γ) vwCl (y, .inr (ci, fs)) H
theorem OKo.kept {γ : GT} {H H1 : Heap} {P : Nat → Prop} {y : Nat} (h : OKo γ H y) (hs : Sm H H1 P) (hy : ¬ P y) : OKo γ H1 y := by
  obtain ⟨ci, fs, r, h1, h2, h3⟩ := h
  exact ⟨ci, fs, r, h1, h2, hs.at h3 hy⟩
theorem OKo.any {γ : GT} {p : Program} {s : State} {m : MethodId} {args : Array Value} {c : Code} {cc : ByteArray} {nL : Nat} {own : String} {H : Heap} {y : Nat} (hX : CX γ p s m args c cc nL own) (h : OKo γ H y) : va_Any "java/lang/Object" s H y := by
  obtain ⟨ci, fs, r, h1, h2, h3⟩ := h
  refine va_rAny hX.2.1 (rs_P h3) (q0 := 0) rfl h1 (fun comp c0 k1 k2 => ?_)
  obtain ⟨c1, t1, f1, f2, f3⟩ := Cond.castable_spec (va_Nw.use (A := args) rfl (hX.2.2.1 _ h2))
  cases k2.symm.trans f1
  cases k1.symm.trans f2
  exact f3
theorem erA {L : List Nat} {i : Nat} (h : i + 1 = L.length) : va_up (fun j => L[j]?) i none = fun j => (L.eraseIdx i)[j]? := by
  funext j
  unfold va_up
  rw [List.getElem?_eraseIdx]
  by_cases h1 : j < i
  · rw [if_pos h1, if_neg (by omega)]
  · rw [if_neg h1]
    by_cases h2 : j = i
    · rw [if_pos h2, List.getElem?_eq_none (by omega)]
    · rw [if_neg h2]
      show L[j]? = L[j + 1]?
      rw [List.getElem?_eq_none (by omega), List.getElem?_eq_none (by omega)]
theorem erB {L : List Nat} {i : Nat} (h : i + 1 < L.length) : va_up (va_cpy (fun j => L[j]?) (fun j => L[j]?) (i + 1) i (L.length - 1 - i)) (L.length - 1) none = fun j => (L.eraseIdx i)[j]? := by
  funext j
  unfold va_up va_cpy
  rw [List.getElem?_eraseIdx]
  by_cases h1 : j < i
  · rw [if_pos h1, if_neg (by omega), if_neg (by omega)]
  · rw [if_neg h1]
    by_cases h2 : j = L.length - 1
    · rw [if_pos h2, List.getElem?_eq_none (by omega)]
    · rw [if_neg h2]
      by_cases h3 : j < L.length - 1
      · rw [if_pos (by omega)]
        exact congrArg (fun k => L[k]?) (by omega)
      · rw [if_neg (by omega)]
        show L[j]? = L[j + 1]?
        rw [List.getElem?_eq_none (by omega), List.getElem?_eq_none (by omega)]

theorem pkK_ck3 : PKV yJ3_checkIndex_8e157 cJ3_checkIndex_8e157 3 (Option.some Jvm.ClassFile.FieldType.int) 3 := ⟨gw_17, gw_290, by decide, by decide, by decide +kernel⟩
set_option maxHeartbeats 1000000 in
theorem K_ck3 (l : Launch) (γ : GT) (H0 : Heap) {i n : Nat} (hi : i < n) (hn : n < 2 ^ 31) : Met l yJ3_checkIndex_8e157 (Cond.code yJ3_checkIndex_8e157 cJ3_checkIndex_8e157 3 (Option.some Jvm.ClassFile.FieldType.int) :: GW) (rmo 1 0 0) (va_Pc [.int (nI i), .int (nI n), .null] (PR γ (fun h => h = H0))) (PI γ (fun h => h = H0) (nI i)) 0 0 (gA γ) := by
  refine va_MetF (cc := cJ3_checkIndex_8e157) (maxL := 3) (ret := (Option.some Jvm.ClassFile.FieldType.int)) (by decide +kernel) rfl ?_
  intro p e s m args below meth c s₁ B hml hv
  obtain ⟨rfl, hU⟩ := hv
  have hX := cx_ofP (own := RJ3) B hml rfl hU
  obtain ⟨hh, -, -⟩ := hU
  subst hh
  have hS : va_S (gA γ) s.heap s.heap [] := va_S.rf
  have hr := B.returns
  have hlocks := B.notSynchronized
  refine (show W p l e (rmo 1 0 0) s m ([.int (nI i), .int (nI n), .null] : List Value).toArray below meth c s.heap [] 0 0 (MQ below (PI γ (fun h => h = s.heap) (nI i)) ([.int (nI i), .int (nI n), .null] : List Value).toArray s 0 0 (gA γ)) (entryFrame m ([.int (nI i), .int (nI n), .null] : List Value).toArray 3) from ?_)
  refine rw_entry (ca1 rfl (ca1 rfl (ca1 rfl ca0))) (Nat.le_of_ble_eq_true rfl) (fun ls hl => ?_)
  refine rw_iload_n hX hl 0 rfl dJ3_checkIndex_8e157_0 rfl ?_
  refine lv_if_lt (x := nI i) (tgt := 9) hX.1.1 hX.1.2.1 dJ3_checkIndex_8e157_1 (by decide) (fun c => absurd c (nI_pos (by omega))) (fun _ => ?_)
  refine rw_iload_n hX hl 0 rfl dJ3_checkIndex_8e157_4 rfl ?_
  refine rw_iload_n hX hl 1 rfl dJ3_checkIndex_8e157_5 rfl ?_
  refine lv_icmp_lt (x := nI i) (y := nI n) (tgt := 16) hX.1.1 hX.1.2.1 dJ3_checkIndex_8e157_6 (by decide) (fun _ => ?_) (fun c => absurd (nI_lt hi hn) c)
  refine rw_iload_n hX hl 0 rfl dJ3_checkIndex_8e157_16 rfl ?_
  exact he_i hX hS hr rfl dJ3_checkIndex_8e157_17 hlocks
theorem pkK_ck : PKV yJ15_checkIndex_7cf53 cJ15_checkIndex_7cf53 2 (Option.some Jvm.ClassFile.FieldType.int) 2 := ⟨gw_16, gw_287, by decide, by decide, by decide +kernel⟩
set_option maxHeartbeats 1000000 in
theorem K_ck (l : Launch) (γ : GT) (H0 : Heap) {i n : Nat} (hi : i < n) (hn : n < 2 ^ 31) : Met l yJ15_checkIndex_7cf53 (Cond.code yJ15_checkIndex_7cf53 cJ15_checkIndex_7cf53 2 (Option.some Jvm.ClassFile.FieldType.int) :: GW) (rmo 2 0 0) (va_Pc [.int (nI i), .int (nI n)] (PR γ (fun h => h = H0))) (PI γ (fun h => h = H0) (nI i)) 0 0 (gA γ) := by
  refine va_MetF (cc := cJ15_checkIndex_7cf53) (maxL := 2) (ret := (Option.some Jvm.ClassFile.FieldType.int)) (by decide +kernel) rfl ?_
  intro p e s m args below meth c s₁ B hml hv
  obtain ⟨rfl, hU⟩ := hv
  have hX := cx_ofP (own := RJ15) B hml rfl hU
  obtain ⟨hh, -, -⟩ := hU
  subst hh
  have hS : va_S (gA γ) s.heap s.heap [] := va_S.rf
  have hr := B.returns
  have hlocks := B.notSynchronized
  refine (show W p l e (rmo 2 0 0) s m ([.int (nI i), .int (nI n)] : List Value).toArray below meth c s.heap [] 0 0 (MQ below (PI γ (fun h => h = s.heap) (nI i)) ([.int (nI i), .int (nI n)] : List Value).toArray s 0 0 (gA γ)) (entryFrame m ([.int (nI i), .int (nI n)] : List Value).toArray 2) from ?_)
  refine rw_entry (ca1 rfl (ca1 rfl ca0)) (Nat.le_of_ble_eq_true rfl) (fun ls hl => ?_)
  refine rw_iload_n hX hl 0 rfl dJ15_checkIndex_7cf53_0 rfl ?_
  refine rw_iload_n hX hl 1 rfl dJ15_checkIndex_7cf53_1 rfl ?_
  refine lv_null hX.1.1 hX.1.2.1 dJ15_checkIndex_7cf53_2 ?_
  refine hc_Si hX hS pkK_ck3 (mc := 0) (ms := 0) ⟨rfl, rfl, (show 1 + 1 ≤ 2 by omega), (show 8 + (3 + 11) + 64 * 1 ≤ 64 * 2 by omega)⟩ (As := [.int (nI i), .int (nI n), .null]) (rest := []) rfl (K_ck3 l γ _ hi hn) gw_288 gw_289 rfl hl ca0 (Nat.le_of_ble_eq_true rfl) dJ15_checkIndex_7cf53_3 ⟨(show 0 + 0 ≤ 0 by omega), (show 0 + 0 ≤ 0 by omega)⟩ (fun H21 locs21 hB21 hS21 => ?_)
  subst hB21
  exact he_i hX hS21 hr rfl dJ15_checkIndex_7cf53_6 hlocks
theorem pkK_ed : PKV yJx4a65c_elementData_915e3 cJx4a65c_elementData_915e3 2 (Option.some (Jvm.ClassFile.FieldType.object "java/lang/Object")) 1 := ⟨gw_4, gw_294, by decide, by decide, by decide +kernel⟩
set_option maxHeartbeats 1000000 in
theorem K_ed (l : Launch) (γ : GT) (H0 : Heap) {a ar i n cap v : Nat} {mc : Int32} {f : Nat → Option Nat} (hat : va_at (gD γ) vwCl (a, .inr (0, [.int mc, .ref ar, .int (nI n)])) H0) (har : va_at (gD γ) vwCl (ar, .inl (gcO γ, cap, .inr (.inr (.inr (.inr f))))) H0) (hf : f i = some v) (hi : i < cap) (hcap : cap ≤ 1000) : Met l yJx4a65c_elementData_915e3 (Cond.code yJx4a65c_elementData_915e3 cJx4a65c_elementData_915e3 2 (Option.some (Jvm.ClassFile.FieldType.object "java/lang/Object")) :: GW) (rmo 1 0 0) (va_Pc [.ref a, .int (nI i)] (PR γ (fun h => h = H0))) (PQ γ (fun r h => r = some v ∧ h = H0)) 0 0 (gA γ) := by
  refine va_MetF (cc := cJx4a65c_elementData_915e3) (maxL := 2) (ret := (Option.some (Jvm.ClassFile.FieldType.object "java/lang/Object"))) (by decide +kernel) rfl ?_
  intro p e s m args below meth c s₁ B hml hv
  obtain ⟨rfl, hU⟩ := hv
  have hX := cx_ofP (own := RJx4a65c) B hml rfl hU
  obtain ⟨hh, -, -⟩ := hU
  subst hh
  have hS : va_S (gA γ) s.heap s.heap [] := va_S.rf
  have hr := B.returns
  have hlocks := B.notSynchronized
  refine (show W p l e (rmo 1 0 0) s m ([.ref a, .int (nI i)] : List Value).toArray below meth c s.heap [] 0 0 (MQ below (PQ γ (fun r h => r = some v ∧ h = s.heap)) ([.ref a, .int (nI i)] : List Value).toArray s 0 0 (gA γ)) (entryFrame m ([.ref a, .int (nI i)] : List Value).toArray 2) from ?_)
  refine rw_entry (ca1 rfl (ca1 rfl ca0)) (Nat.le_of_ble_eq_true rfl) (fun ls hl => ?_)
  refine rw_aload_n hX hl 0 rfl (Or.inr ⟨_, rfl⟩) dJx4a65c_elementData_915e3_0 rfl ?_
  refine hr_get hX (k := 0) (j := 1) hat (C := RJx4a65c) (T := TJx4a65c) (N := 3) rfl (by decide) uw_Jx4a65c gw_47 (fun _ h => h) rfl dJx4a65c_elementData_915e3_1 ?_
  refine rw_iload_n hX hl 1 rfl dJx4a65c_elementData_915e3_4 rfl ?_
  refine hr_aald hX har (vp_in_nI hi (by omega)) (v := some v) (by rw [nI_clamp (by omega)]; exact hf) dJx4a65c_elementData_915e3_5 ?_
  exact he_q hX hS hr (Or.inl ⟨_, rfl⟩) (v := some v) rfl ⟨rfl, rfl⟩ dJx4a65c_elementData_915e3_6 hlocks
theorem pkK_get : PKV yJx4a65c_get_915e3 cJx4a65c_get_915e3 2 (Option.some (Jvm.ClassFile.FieldType.object "java/lang/Object")) 1 := ⟨gw_4, gw_284, by decide, by decide, by decide +kernel⟩
set_option maxHeartbeats 1000000 in
theorem K_get (l : Launch) (γ : GT) (H0 : Heap) {a ar i n cap v : Nat} {mc : Int32} {f : Nat → Option Nat} (hat : va_at (gD γ) vwCl (a, .inr (0, [.int mc, .ref ar, .int (nI n)])) H0) (har : va_at (gD γ) vwCl (ar, .inl (gcO γ, cap, .inr (.inr (.inr (.inr f))))) H0) (hf : f i = some v) (hi : i < cap) (hcap : cap ≤ 1000) (hin : i < n) (hn : n ≤ 1000) : Met l yJx4a65c_get_915e3 (Cond.code yJx4a65c_get_915e3 cJx4a65c_get_915e3 2 (Option.some (Jvm.ClassFile.FieldType.object "java/lang/Object")) :: GW) (rmo 14 0 0) (va_Pc [.ref a, .int (nI i)] (PR γ (fun h => h = H0))) (PQ γ (fun r h => r = some v ∧ h = H0)) 0 0 (gA γ) := by
  refine va_MetF (cc := cJx4a65c_get_915e3) (maxL := 2) (ret := (Option.some (Jvm.ClassFile.FieldType.object "java/lang/Object"))) (by decide +kernel) rfl ?_
  intro p e s m args below meth c s₁ B hml hv
  obtain ⟨rfl, hU⟩ := hv
  have hX := cx_ofP (own := RJx4a65c) B hml rfl hU
  obtain ⟨hh, -, -⟩ := hU
  subst hh
  have hS : va_S (gA γ) s.heap s.heap [] := va_S.rf
  have hr := B.returns
  have hlocks := B.notSynchronized
  refine (show W p l e (rmo 14 0 0) s m ([.ref a, .int (nI i)] : List Value).toArray below meth c s.heap [] 0 0 (MQ below (PQ γ (fun r h => r = some v ∧ h = s.heap)) ([.ref a, .int (nI i)] : List Value).toArray s 0 0 (gA γ)) (entryFrame m ([.ref a, .int (nI i)] : List Value).toArray 2) from ?_)
  refine rw_entry (ca1 rfl (ca1 rfl ca0)) (Nat.le_of_ble_eq_true rfl) (fun ls hl => ?_)
  refine rw_iload_n hX hl 1 rfl dJx4a65c_get_915e3_0 rfl ?_
  refine rw_aload_n hX hl 0 rfl (Or.inr ⟨_, rfl⟩) dJx4a65c_get_915e3_1 rfl ?_
  refine hr_get hX (k := 0) (j := 2) hat (C := RJx4a65c) (T := TJx4a65c) (N := 3) rfl (by decide) uw_Jx4a65c gw_48 (fun _ h => h) rfl dJx4a65c_get_915e3_2 ?_
  refine hc_Si hX hS pkK_ck (mc := 0) (ms := 0) ⟨rfl, rfl, (show 2 + 1 ≤ 14 by omega), (show 8 + (2 + 11) + 64 * 2 ≤ 64 * 14 by omega)⟩ (As := [.int (nI i), .int (nI n)]) (rest := []) rfl (K_ck l γ _ hin (by omega)) gw_285 gw_286 rfl hl ca0 (Nat.le_of_ble_eq_true rfl) dJx4a65c_get_915e3_5 ⟨(show 0 + 0 ≤ 0 by omega), (show 0 + 0 ≤ 0 by omega)⟩ (fun H21 locs21 hB21 hS21 => ?_)
  subst hB21
  refine lv_pop hX.1.1 hX.1.2.1 dJx4a65c_get_915e3_8 rfl ?_
  refine rw_aload_n hX hl 0 rfl (Or.inr ⟨_, rfl⟩) dJx4a65c_get_915e3_9 rfl ?_
  refine rw_iload_n hX hl 1 rfl dJx4a65c_get_915e3_10 rfl ?_
  refine hc_Vq hX hS21 pkK_ed (mc := 0) (ms := 0) ⟨rfl, rfl, (show 1 + 1 ≤ 14 by omega), (show 8 + (2 + 11) + 64 * 1 ≤ 64 * 14 by omega)⟩ (As := [.int (nI i)]) (rest := []) rfl (K_ed l γ _ hat har hf hi hcap) gw_291 gw_292 gw_293 (va_recv hX.2.1 (rs_P hat) (q0 := 0) (ci := 0) (q := (RJx4a65c, TJx4a65c, 3)) rfl rfl) rfl hl ca0 (Nat.le_of_ble_eq_true rfl) dJx4a65c_get_915e3_11 ⟨(show 0 + 0 ≤ 0 by omega), (show 0 + 0 ≤ 0 by omega)⟩ (fun r22 H22 locs22 hB22 hS22 => ?_)
  obtain ⟨rfl, rfl⟩ := hB22
  exact he_q hX hS22 hr (Or.inl ⟨_, rfl⟩) (v := some v) rfl ⟨rfl, rfl⟩ dJx4a65c_get_915e3_14 hlocks
theorem pkK_size : PKV yJx4a65c_size_8abf5 cJx4a65c_size_8abf5 1 (Option.some Jvm.ClassFile.FieldType.int) 0 := ⟨gw_4, gw_212, by decide, by decide, by decide +kernel⟩
set_option maxHeartbeats 1000000 in
theorem K_size (l : Launch) (γ : GT) (H0 : Heap) {a ar n : Nat} {mc : Int32} (hat : va_at (gD γ) vwCl (a, .inr (0, [.int mc, .ref ar, .int (nI n)])) H0) : Met l yJx4a65c_size_8abf5 (Cond.code yJx4a65c_size_8abf5 cJx4a65c_size_8abf5 1 (Option.some Jvm.ClassFile.FieldType.int) :: GW) (rmo 14 0 0) (va_Pc [.ref a] (PR γ (fun h => h = H0))) (PI γ (fun h => h = H0) (nI n)) 0 0 (gA γ) := by
  refine va_MetF (cc := cJx4a65c_size_8abf5) (maxL := 1) (ret := (Option.some Jvm.ClassFile.FieldType.int)) (by decide +kernel) rfl ?_
  intro p e s m args below meth c s₁ B hml hv
  obtain ⟨rfl, hU⟩ := hv
  have hX := cx_ofP (own := RJx4a65c) B hml rfl hU
  obtain ⟨hh, -, -⟩ := hU
  subst hh
  have hS : va_S (gA γ) s.heap s.heap [] := va_S.rf
  have hr := B.returns
  have hlocks := B.notSynchronized
  refine (show W p l e (rmo 14 0 0) s m ([.ref a] : List Value).toArray below meth c s.heap [] 0 0 (MQ below (PI γ (fun h => h = s.heap) (nI n)) ([.ref a] : List Value).toArray s 0 0 (gA γ)) (entryFrame m ([.ref a] : List Value).toArray 1) from ?_)
  refine rw_entry (ca1 rfl ca0) (Nat.le_of_ble_eq_true rfl) (fun ls hl => ?_)
  refine rw_aload_n hX hl 0 rfl (Or.inr ⟨_, rfl⟩) dJx4a65c_size_8abf5_0 rfl ?_
  refine hr_get hX (k := 0) (j := 2) hat (C := RJx4a65c) (T := TJx4a65c) (N := 3) rfl (by decide) uw_Jx4a65c gw_48 (fun _ h => h) rfl dJx4a65c_size_8abf5_1 ?_
  exact he_i hX hS hr rfl dJx4a65c_size_8abf5_4 hlocks
theorem pkK_nl : PKV yJ8_newLength_cabcc cJ8_newLength_cabcc 4 (Option.some Jvm.ClassFile.FieldType.int) 3 := ⟨gw_7, gw_108, by decide, by decide, by decide +kernel⟩
set_option maxHeartbeats 1000000 in
theorem K_nl (l : Launch) (γ : GT) (H0 : Heap) {x y z k : Nat} (hx : x ≤ 1000) (hy : y ≤ 1000) (hz : z ≤ 1000) (hk : x + max y z = k) (h0 : 0 < k) : Met l yJ8_newLength_cabcc (Cond.code yJ8_newLength_cabcc cJ8_newLength_cabcc 4 (Option.some Jvm.ClassFile.FieldType.int) :: GW) (rmo 2 0 0) (va_Pc [.int (nI x), .int (nI y), .int (nI z)] (PR γ (fun h => h = H0))) (PI γ (fun h => h = H0) (nI k)) 0 0 (gA γ) := by
  refine va_MetF (cc := cJ8_newLength_cabcc) (maxL := 4) (ret := (Option.some Jvm.ClassFile.FieldType.int)) (by decide +kernel) rfl ?_
  intro p e s m args below meth c s₁ B hml hv
  obtain ⟨rfl, hU⟩ := hv
  have hX := cx_ofP (own := RJ8) B hml rfl hU
  obtain ⟨hh, -, -⟩ := hU
  subst hh
  have hS : va_S (gA γ) s.heap s.heap [] := va_S.rf
  have hr := B.returns
  have hlocks := B.notSynchronized
  refine (show W p l e (rmo 2 0 0) s m ([.int (nI x), .int (nI y), .int (nI z)] : List Value).toArray below meth c s.heap [] 0 0 (MQ below (PI γ (fun h => h = s.heap) (nI k)) ([.int (nI x), .int (nI y), .int (nI z)] : List Value).toArray s 0 0 (gA γ)) (entryFrame m ([.int (nI x), .int (nI y), .int (nI z)] : List Value).toArray 4) from ?_)
  refine rw_entry (ca1 rfl (ca1 rfl (ca1 rfl ca0))) (Nat.le_of_ble_eq_true rfl) (fun ls hl => ?_)
  have hk2 : k ≤ 2000 := by have := Nat.max_le.mpr ⟨hy, hz⟩; omega
  refine rw_iload_n hX hl 0 rfl dJ8_newLength_cabcc_0 rfl ?_
  refine rw_iload_n hX hl 1 rfl dJ8_newLength_cabcc_1 rfl ?_
  refine rw_iload_n hX hl 2 rfl dJ8_newLength_cabcc_2 rfl ?_
  refine va_mmax hX.1.1 hX.1.2.1 (hl.1.1.trans hX.1.2.2.1.symm).symm hX.1.2.2.2.1 (hX.1.2.2.2.2 _ gw_109) (hX.1.2.2.2.2 _ gw_110) (hX.1.2.2.2.2 _ gw_8) (hX.1.2.2.2.2 _ gw_111) (Nat.le_of_ble_eq_true rfl) (Nat.le_of_ble_eq_true rfl) (Nat.le_of_ble_eq_true rfl) (Nat.le_of_ble_eq_true rfl) dJ8_newLength_cabcc_3 ?_
  rw [nI_max (by omega) (by omega)]
  refine lv_iadd (x := (nI x)) (y := (nI (max y z))) hX.1.1 hX.1.2.1 dJ8_newLength_cabcc_6 ?_
  rw [nI_add, hk]
  refine rw_istore_n (lv' := [(3, .int (nI k)), (0, .int (nI x)), (1, .int (nI y)), (2, .int (nI z))]) hX hl (by decide) rfl dJ8_newLength_cabcc_7 rfl (fun ls hl => ?_)
  refine lv_iconst (v := 0) hX.1.1 hX.1.2.1 dJ8_newLength_cabcc_8 (by decide) ?_
  refine rw_iload_n hX hl 0 rfl dJ8_newLength_cabcc_9 rfl ?_
  refine lv_icmp_ge (x := 0) (y := nI k) (tgt := 21) hX.1.1 hX.1.2.1 dJ8_newLength_cabcc_10 (by decide) (fun c => absurd c (nI_nle h0 (by omega))) (fun _ => ?_)
  refine rw_iload_n hX hl 0 rfl dJ8_newLength_cabcc_13 rfl ?_
  refine lv_ldc (v := 2147483639) hX.1.1 hX.1.2.1 hX.1.2.2.2.1 (hX.1.2.2.2.2 _ gw_112) dJ8_newLength_cabcc_14 ?_
  refine lv_icmp_gt (x := nI k) (y := 2147483639) (tgt := 21) hX.1.1 hX.1.2.1 dJ8_newLength_cabcc_16 (by decide) (fun c => absurd c (nI_nlt (a := 2147483639) (b := k) (by omega) (by omega))) (fun _ => ?_)
  refine rw_iload_n hX hl 0 rfl dJ8_newLength_cabcc_19 rfl ?_
  exact he_i hX hS hr rfl dJ8_newLength_cabcc_20 hlocks
theorem pkK_cp3 : PKV yJ7_copyOf_6403c cJ7_copyOf_6403c 4 (Option.some (Jvm.ClassFile.FieldType.array (Jvm.ClassFile.FieldType.object "java/lang/Object"))) 3 := ⟨gw_9, gw_137, by decide, by decide, by decide +kernel⟩
set_option maxHeartbeats 1000000 in
theorem K_cp3 (l : Launch) (γ : GT) (H0 : Heap) {ar cap N : Nat} {f : Nat → Option Nat} (har : va_at (gD γ) vwCl (ar, .inl (gcO γ, cap, .inr (.inr (.inr (.inr f))))) H0) (hel : ∀ i y, f i = some y → OKo γ H0 y) (hz : ∀ i, cap ≤ i → f i = none) (hcN : cap ≤ N) (hN : N ≤ 230) : Met l yJ7_copyOf_6403c (Cond.code yJ7_copyOf_6403c cJ7_copyOf_6403c 4 (Option.some (Jvm.ClassFile.FieldType.array (Jvm.ClassFile.FieldType.object "java/lang/Object"))) :: GW) (rmo 3 1 230) (va_Pc [.ref ar, .int (nI N), .ref (gS γ 99 0)] (PR γ (fun h => h = H0))) (PQ γ (fun r h => ∃ q, r = some q ∧ H0.size ≤ q ∧ va_at (gD γ) vwCl (q, .inl (gcO γ, N, .inr (.inr (.inr (.inr f))))) h ∧ Sm H0 h (fun _ => False))) 1 230 (gA γ) := by
  refine va_MetF (cc := cJ7_copyOf_6403c) (maxL := 4) (ret := (Option.some (Jvm.ClassFile.FieldType.array (Jvm.ClassFile.FieldType.object "java/lang/Object")))) (by decide +kernel) rfl ?_
  intro p e s m args below meth c s₁ B hml hv
  obtain ⟨rfl, hU⟩ := hv
  have hX := cx_ofP (own := RJ7) B hml rfl hU
  obtain ⟨hh, -, -⟩ := hU
  subst hh
  have hS : va_S (gA γ) s.heap s.heap [] := va_S.rf
  have hr := B.returns
  have hlocks := B.notSynchronized
  refine (show W p l e (rmo 3 1 230) s m ([.ref ar, .int (nI N), .ref (gS γ 99 0)] : List Value).toArray below meth c s.heap [] 0 0 (MQ below (PQ γ (fun r h => ∃ q, r = some q ∧ s.heap.size ≤ q ∧ va_at (gD γ) vwCl (q, .inl (gcO γ, N, .inr (.inr (.inr (.inr f))))) h ∧ Sm s.heap h (fun _ => False))) ([.ref ar, .int (nI N), .ref (gS γ 99 0)] : List Value).toArray s 1 230 (gA γ)) (entryFrame m ([.ref ar, .int (nI N), .ref (gS γ 99 0)] : List Value).toArray 4) from ?_)
  refine rw_entry (ca1 rfl (ca1 rfl (ca1 rfl ca0))) (Nat.le_of_ble_eq_true rfl) (fun ls hl => ?_)
  refine rw_aload_n hX hl 2 rfl (Or.inr ⟨_, rfl⟩) dJ7_copyOf_6403c_0 rfl ?_
  refine va_ldcM hX.1.1 hX.1.2.1 hX.1.2.2.2.1 (hX.1.2.2.2.2 _ gw_138) hX.2.2.2.2.2.1.2 dJ7_copyOf_6403c_1 ?_
  refine lv_acmp_ne (rx := some (gS γ 99 0)) (ry := some (gS γ 99 0)) (tgt := 13) hX.1.1 hX.1.2.1 dJ7_copyOf_6403c_3 (by decide) (fun c => absurd rfl c) (fun _ => ?_)
  refine rw_iload_n hX hl 1 rfl dJ7_copyOf_6403c_6 rfl ?_
  refine hr_newq hX hS (N' := N) gw_140 (nI_pos (by omega)) (nI_clamp (by omega)) (by omega) ⟨(show 0 + 1 ≤ 1 by omega), (show 0 + N ≤ 230 by omega)⟩ dJ7_copyOf_6403c_7 (fun H1 hat1 hsm1 hz1 hS1 => ?_)
  have hlt : ar < s.heap.size := har.lt
  have har1 := hsm1.at har id
  refine lv_goto (tgt := 24) hX.1.1 hX.1.2.1 dJ7_copyOf_6403c_10 (by decide) ?_
  refine rw_astore_n (lv' := [(3, .ref (s.heap.size)), (0, .ref ar), (1, .int (nI N)), (2, .ref (gS γ 99 0))]) hX hl (by decide) rfl (Or.inr ⟨_, rfl⟩) dJ7_copyOf_6403c_24 rfl (fun ls hl => ?_)
  refine rw_aload_n hX hl 1 rfl (Or.inr ⟨_, rfl⟩) dJ7_copyOf_6403c_25 rfl ?_
  refine lv_iconst (v := 0) hX.1.1 hX.1.2.1 dJ7_copyOf_6403c_26 (by decide) ?_
  refine rw_aload_n hX hl 0 rfl (Or.inr ⟨_, rfl⟩) dJ7_copyOf_6403c_27 rfl ?_
  refine lv_iconst (v := 0) hX.1.1 hX.1.2.1 dJ7_copyOf_6403c_28 (by decide) ?_
  refine rw_aload_n hX hl 1 rfl (Or.inr ⟨_, rfl⟩) dJ7_copyOf_6403c_29 rfl ?_
  refine hr_alen hX har1 (v := nI cap) rfl dJ7_copyOf_6403c_30 ?_
  refine rw_iload_n hX hl 2 rfl dJ7_copyOf_6403c_31 rfl ?_
  refine va_mmin hX.1.1 hX.1.2.1 (hl.1.1.trans hX.1.2.2.1.symm).symm hX.1.2.2.2.1 (hX.1.2.2.2.2 _ gw_141) (hX.1.2.2.2.2 _ gw_142) (hX.1.2.2.2.2 _ gw_8) (hX.1.2.2.2.2 _ gw_143) (Nat.le_of_ble_eq_true rfl) (Nat.le_of_ble_eq_true rfl) (Nat.le_of_ble_eq_true rfl) (show 0 + N ≤ 230 by omega) dJ7_copyOf_6403c_32 ?_
  rw [nI_min (by omega) (by omega), Nat.min_eq_left hcN]
  refine hr_copy hX hS1 hl (b := ar) gw_144 gw_146 gw_145 gw_10 har1 hat1 hX.2.2.2.2.2.2.2.2.2.2.2 har1 (by omega) (fun _ z => by cases z) (by decide) (by decide) (nI_pos (by omega)) (by rw [nI_clamp (by omega)]; show 0 + cap ≤ cap; omega) (by rw [nI_clamp (by omega)]; show 0 + cap ≤ N; omega) (fun i _ y hy => (OKo.kept (hel _ y hy) hsm1 id).any hX) (Nat.le_of_ble_eq_true rfl) (Nat.le_of_ble_eq_true rfl) dJ7_copyOf_6403c_35 (fun H2 locs2 hat2 har2 hsm2 hz2 hS2 => ?_)
  have hfe : va_cpy f (fun _ => none) (0 : Int32).toNatClampNeg (0 : Int32).toNatClampNeg (nI cap).toNatClampNeg = f := by
    funext k; rw [nI_clamp (by omega)]; unfold va_cpy
    by_cases hk : k < cap
    · rw [if_pos ⟨Nat.zero_le _, by show k < 0 + cap; omega⟩]; exact congrArg f (by show 0 + (k - 0) = k; omega)
    · rw [if_neg (fun z => hk (by have : k < 0 + cap := z.2; omega))]; exact (hz k (by omega)).symm
  rw [hfe] at hat2
  refine rw_aload_n hX hl 0 rfl (Or.inr ⟨_, rfl⟩) dJ7_copyOf_6403c_38 rfl ?_
  have hsm3 : Sm s.heap H2 (fun _ => False) := ⟨by omega, fun q hq _ => ?_⟩
  · refine (W.widen (k := 1) (n := 230) (by omega) (by omega) ?_)
    exact he_q hX hS2 hr (Or.inr ⟨_, rfl⟩) (v := some (s.heap.size)) rfl ⟨_, rfl, Nat.le_refl _, hat2, hsm3⟩ dJ7_copyOf_6403c_39 hlocks
  · by_cases hqa : q = ar
    · subst hqa; exact har2.trans har.symm
    · exact (hsm2.2 q (by omega) (fun z => by rcases z with z | z; omega; exact hqa z)).trans (hsm1.2 q hq id)
theorem pkK_cp2 : PKV yJ7_copyOf_1904c cJ7_copyOf_1904c 2 (Option.some (Jvm.ClassFile.FieldType.array (Jvm.ClassFile.FieldType.object "java/lang/Object"))) 2 := ⟨gw_9, gw_118, by decide, by decide, by decide +kernel⟩
set_option maxHeartbeats 1000000 in
theorem K_cp2 (l : Launch) (γ : GT) (H0 : Heap) {ar cap N : Nat} {f : Nat → Option Nat} (har : va_at (gD γ) vwCl (ar, .inl (gcO γ, cap, .inr (.inr (.inr (.inr f))))) H0) (hel : ∀ i y, f i = some y → OKo γ H0 y) (hz : ∀ i, cap ≤ i → f i = none) (hcN : cap ≤ N) (hN : N ≤ 230) : Met l yJ7_copyOf_1904c (Cond.code yJ7_copyOf_1904c cJ7_copyOf_1904c 2 (Option.some (Jvm.ClassFile.FieldType.array (Jvm.ClassFile.FieldType.object "java/lang/Object"))) :: GW) (rmo 4 1 230) (va_Pc [.ref ar, .int (nI N)] (PR γ (fun h => h = H0))) (PQ γ (fun r h => ∃ q, r = some q ∧ H0.size ≤ q ∧ va_at (gD γ) vwCl (q, .inl (gcO γ, N, .inr (.inr (.inr (.inr f))))) h ∧ Sm H0 h (fun _ => False))) 1 230 (gA γ) := by
  refine va_MetF (cc := cJ7_copyOf_1904c) (maxL := 2) (ret := (Option.some (Jvm.ClassFile.FieldType.array (Jvm.ClassFile.FieldType.object "java/lang/Object")))) (by decide +kernel) rfl ?_
  intro p e s m args below meth c s₁ B hml hv
  obtain ⟨rfl, hU⟩ := hv
  have hX := cx_ofP (own := RJ7) B hml rfl hU
  obtain ⟨hh, -, -⟩ := hU
  subst hh
  have hS : va_S (gA γ) s.heap s.heap [] := va_S.rf
  have hr := B.returns
  have hlocks := B.notSynchronized
  refine (show W p l e (rmo 4 1 230) s m ([.ref ar, .int (nI N)] : List Value).toArray below meth c s.heap [] 0 0 (MQ below (PQ γ (fun r h => ∃ q, r = some q ∧ s.heap.size ≤ q ∧ va_at (gD γ) vwCl (q, .inl (gcO γ, N, .inr (.inr (.inr (.inr f))))) h ∧ Sm s.heap h (fun _ => False))) ([.ref ar, .int (nI N)] : List Value).toArray s 1 230 (gA γ)) (entryFrame m ([.ref ar, .int (nI N)] : List Value).toArray 2) from ?_)
  refine rw_entry (ca1 rfl (ca1 rfl ca0)) (Nat.le_of_ble_eq_true rfl) (fun ls hl => ?_)
  refine rw_aload_n hX hl 0 rfl (Or.inr ⟨_, rfl⟩) dJ7_copyOf_1904c_0 rfl ?_
  refine rw_iload_n hX hl 1 rfl dJ7_copyOf_1904c_1 rfl ?_
  refine rw_aload_n hX hl 0 rfl (Or.inr ⟨_, rfl⟩) dJ7_copyOf_1904c_2 rfl ?_
  refine va_getC hX.1.1 hX.1.2.1 (hl.1.1.trans hX.1.2.2.1.symm).symm hX.1.2.2.2.1 (hX.1.2.2.2.2 _ gw_119) (va_Nw.use rfl (hX.2.2.1 _ nw_1362)) (hX.1.2.2.2.2 _ gw_1361) (hX.1.2.2.2.2 _ gw_120) (hX.1.2.2.2.2 _ gw_134) hX.2.2.2.2.2.1.2 ⟨_, har, rfl, va_nmO (hX.2.1.2 3 (gcO γ, .object "java/lang/Object") rfl).2 (by decide +kernel)⟩ (Nat.le_of_ble_eq_true rfl) (Nat.le_of_ble_eq_true rfl) dJ7_copyOf_1904c_3 ?_
  refine hc_Sq hX hS pkK_cp3 (mc := 1) (ms := 230) ⟨rfl, rfl, (show 3 + 1 ≤ 4 by omega), (show 8 + (4 + 11) + 64 * 3 ≤ 64 * 4 by omega)⟩ (As := [.ref ar, .int (nI N), .ref (gS γ 99 0)]) (rest := []) rfl (K_cp3 l γ _ har hel hz hcN hN) gw_135 gw_136 rfl hl ca0 (Nat.le_of_ble_eq_true rfl) dJ7_copyOf_1904c_6 ⟨(show 0 + 1 ≤ 1 by omega), (show 0 + 230 ≤ 230 by omega)⟩ (fun r21 H21 locs21 hB21 hS21 => ?_)
  obtain ⟨q, rfl, hq, hat2, hsm2⟩ := hB21
  exact he_q hX hS21 hr (Or.inr ⟨_, rfl⟩) (v := some q) rfl ⟨_, rfl, hq, hat2, hsm2⟩ dJ7_copyOf_1904c_9 hlocks
theorem pkK_gri : PKV yJx4a65c_grow_92f84 cJx4a65c_grow_92f84 4 (Option.some (Jvm.ClassFile.FieldType.array (Jvm.ClassFile.FieldType.object "java/lang/Object"))) 1 := ⟨gw_4, gw_105, by decide, by decide, by decide +kernel⟩
set_option maxHeartbeats 1000000 in
theorem K_gri (l : Launch) (γ : GT) (H0 : Heap) {a ar cap : Nat} {mc : Int32} {f : Nat → Option Nat} (hat : va_at (gD γ) vwCl (a, .inr (0, [.int mc, .ref ar, .int (nI cap)])) H0) (hA : gB γ ≤ a) (har : LA γ ar cap f H0) (hel : ∀ i y, f i = some y → OKo γ H0 y) (hz : ∀ i, cap ≤ i → f i = none) (hcap : cap < 150) (h0 : cap = 0 → ar = gE γ) : Met l yJx4a65c_grow_92f84 (Cond.code yJx4a65c_grow_92f84 cJx4a65c_grow_92f84 4 (Option.some (Jvm.ClassFile.FieldType.array (Jvm.ClassFile.FieldType.object "java/lang/Object"))) :: GW) (rmo 5 1 230) (va_Pc [.ref a, .int (nI (cap + 1))] (PR γ (fun h => h = H0))) (PQ γ (fun r h => ∃ q cap', r = some q ∧ cap < cap' ∧ cap' ≤ 1000 ∧ H0.size ≤ q ∧ va_at (gD γ) vwCl (a, .inr (0, [.int mc, .ref q, .int (nI cap)])) h ∧ va_at (gD γ) vwCl (q, .inl (gcO γ, cap', .inr (.inr (.inr (.inr f))))) h ∧ Sm H0 h (fun x => x = a))) 1 230 (gA γ) := by
  refine va_MetF (cc := cJx4a65c_grow_92f84) (maxL := 4) (ret := (Option.some (Jvm.ClassFile.FieldType.array (Jvm.ClassFile.FieldType.object "java/lang/Object")))) (by decide +kernel) rfl ?_
  intro p e s m args below meth c s₁ B hml hv
  obtain ⟨rfl, hU⟩ := hv
  have hX := cx_ofP (own := RJx4a65c) B hml rfl hU
  obtain ⟨hh, -, -⟩ := hU
  subst hh
  have hS : va_S (gA γ) s.heap s.heap [] := va_S.rf
  have hr := B.returns
  have hlocks := B.notSynchronized
  refine (show W p l e (rmo 5 1 230) s m ([.ref a, .int (nI (cap + 1))] : List Value).toArray below meth c s.heap [] 0 0 (MQ below (PQ γ (fun r h => ∃ q cap', r = some q ∧ cap < cap' ∧ cap' ≤ 1000 ∧ s.heap.size ≤ q ∧ va_at (gD γ) vwCl (a, .inr (0, [.int mc, .ref q, .int (nI cap)])) h ∧ va_at (gD γ) vwCl (q, .inl (gcO γ, cap', .inr (.inr (.inr (.inr f))))) h ∧ Sm s.heap h (fun x => x = a))) ([.ref a, .int (nI (cap + 1))] : List Value).toArray s 1 230 (gA γ)) (entryFrame m ([.ref a, .int (nI (cap + 1))] : List Value).toArray 4) from ?_)
  refine rw_entry (ca1 rfl (ca1 rfl ca0)) (Nat.le_of_ble_eq_true rfl) (fun ls hl => ?_)
  refine rw_aload_n hX hl 0 rfl (Or.inr ⟨_, rfl⟩) dJx4a65c_grow_92f84_0 rfl ?_
  refine hr_get hX (k := 0) (j := 1) hat (C := RJx4a65c) (T := TJx4a65c) (N := 3) rfl (by decide) uw_Jx4a65c gw_47 (fun _ h => h) rfl dJx4a65c_grow_92f84_1 ?_
  refine hr_alenL hX har (v := nI cap) rfl dJx4a65c_grow_92f84_4 ?_
  refine rw_istore_n (lv' := [(2, .int (nI cap)), (0, .ref a), (1, .int (nI (cap + 1)))]) hX hl (by decide) rfl dJx4a65c_grow_92f84_5 rfl (fun ls hl => ?_)
  refine rw_iload_n hX hl 0 rfl dJx4a65c_grow_92f84_6 rfl ?_
  have hcs : gB γ ≤ s.heap.size := hX.2.2.2.2.2.2.2.2.2.2.2
  have halt : a < s.heap.size := hat.lt
  refine lv_if_gt (x := nI cap) (tgt := 20) hX.1.1 hX.1.2.1 dJx4a65c_grow_92f84_7 (by decide) (fun c => ?_) (fun c => ?_)
  · have hpos : 0 < cap := Nat.pos_of_ne_zero (fun z => by subst z; exact absurd c (by decide))
    refine rw_iload_n hX hl 0 rfl dJx4a65c_grow_92f84_20 rfl ?_
    refine rw_iload_n hX hl 2 rfl dJx4a65c_grow_92f84_21 rfl ?_
    refine rw_iload_n hX hl 0 rfl dJx4a65c_grow_92f84_22 rfl ?_
    refine lv_isub (x := (nI (cap + 1))) (y := (nI cap)) hX.1.1 hX.1.2.1 dJx4a65c_grow_92f84_23 ?_
    rw [pk_sub (by omega), show cap + 1 - cap = 1 by omega]
    refine rw_iload_n hX hl 0 rfl dJx4a65c_grow_92f84_24 rfl ?_
    refine lv_iconst (v := 1) hX.1.1 hX.1.2.1 dJx4a65c_grow_92f84_25 (by decide) ?_
    refine lv_ishr (x := (nI cap)) (y := 1) hX.1.1 hX.1.2.1 dJx4a65c_grow_92f84_26 ?_
    rw [nI_shr cap (by omega)]
    obtain ⟨k, hk⟩ : ∃ k, cap + max 1 (cap / 2) = k := ⟨_, rfl⟩
    have hk2 : cap < k ∧ k ≤ 230 := by have h3 : max 1 (cap / 2) ≤ 75 := Nat.max_le.mpr ⟨by omega, by omega⟩; have h4 := Nat.le_max_left 1 (cap / 2); omega
    refine hc_Si hX hS pkK_nl (mc := 0) (ms := 0) ⟨rfl, rfl, (show 2 + 1 ≤ 5 by omega), (show 8 + (4 + 11) + 64 * 2 ≤ 64 * 5 by omega)⟩ (As := [.int (nI cap), .int (nI 1), .int (nI (cap / 2))]) (rest := []) rfl (K_nl l γ _ (by omega) (by omega) (by omega) hk (by omega)) gw_106 gw_107 rfl hl ca0 (Nat.le_of_ble_eq_true rfl) dJx4a65c_grow_92f84_27 ⟨(show 0 + 0 ≤ 1 by omega), (show 0 + 0 ≤ 230 by omega)⟩ (fun H21 locs21 hB21 hS21 => ?_)
    subst hB21
    refine rw_istore_n (lv' := [(3, .int (nI k)), (2, .int (nI cap)), (0, .ref a), (1, .int (nI (cap + 1)))]) hX hl (by decide) rfl dJx4a65c_grow_92f84_30 rfl (fun ls hl => ?_)
    refine rw_aload_n hX hl 2 rfl (Or.inr ⟨_, rfl⟩) dJx4a65c_grow_92f84_31 rfl ?_
    refine rw_aload_n hX hl 2 rfl (Or.inr ⟨_, rfl⟩) dJx4a65c_grow_92f84_32 rfl ?_
    refine hr_get hX (k := 0) (j := 1) hat (C := RJx4a65c) (T := TJx4a65c) (N := 3) rfl (by decide) uw_Jx4a65c gw_47 (fun _ h => h) rfl dJx4a65c_grow_92f84_33 ?_
    refine rw_iload_n hX hl 0 rfl dJx4a65c_grow_92f84_36 rfl ?_
    refine hc_Sq hX hS21 pkK_cp2 (mc := 1) (ms := 230) ⟨rfl, rfl, (show 4 + 1 ≤ 5 by omega), (show 8 + (2 + 11) + 64 * 4 ≤ 64 * 5 by omega)⟩ (As := [.ref ar, .int (nI k)]) (rest := [.ref a]) rfl (K_cp2 l γ _ (har.1 (by omega)) hel hz (by omega) (by omega)) gw_116 gw_117 rfl hl (ca1 rfl ca0) (Nat.le_of_ble_eq_true rfl) dJx4a65c_grow_92f84_37 ⟨(show 0 + 1 ≤ 1 by omega), (show 0 + 230 ≤ 230 by omega)⟩ (fun r22 H22 locs22 hB22 hS22 => ?_)
    obtain ⟨q, rfl, hq, hat2, hsm2⟩ := hB22
    have hatb := hsm2.at hat id
    refine lv_dup_x1 hX.1.1 hX.1.2.1 dJx4a65c_grow_92f84_40 rfl rfl ?_
    refine hr_put hX hS22 (k := 0) (j := 1) (v := .ref q) hatb hA (C := RJx4a65c) (T := TJx4a65c) (N := 3) rfl (by decide) uw_Jx4a65c tyJx4a65c tyJx4a65c_ok nmJx4a65c gw_47 (fun _ h => h) rfl rfl rfl rfl (Nat.le_of_ble_eq_true rfl) dJx4a65c_grow_92f84_41 (fun H23 locs23 hat23 hsm23 hz23 hS23 => ?_)
    have hqa : q ≠ a := by omega
    exact he_q hX hS23 hr (Or.inr ⟨_, rfl⟩) (v := some q) rfl ⟨q, k, rfl, hk2.1, by omega, hq, hat23, hsm23.at hat2 hqa, hsm2.trans hsm23 (fun _ _ z => z.elim) (fun _ _ z => z)⟩ dJx4a65c_grow_92f84_44 hlocks
  · have hz0 : cap = 0 := by
      by_cases hp : cap = 0
      · exact hp
      · exact absurd (nI_lt (a := 0) (by omega) (by omega)) c
    have hE := h0 hz0
    subst hz0
    refine rw_aload_n hX hl 1 rfl (Or.inr ⟨_, rfl⟩) dJx4a65c_grow_92f84_10 rfl ?_
    refine hr_get hX (k := 0) (j := 1) hat (C := RJx4a65c) (T := TJx4a65c) (N := 3) rfl (by decide) uw_Jx4a65c gw_47 (fun _ h => h) rfl dJx4a65c_grow_92f84_11 ?_
    refine va_gets hX.1.1 hX.1.2.1 hX.2.2.2.2.2.2.2.2.1 hS hX.1.2.2.2.1 (hX.1.2.2.2.2 _ gw_45) (fun _ h => h) dJx4a65c_grow_92f84_14 ?_
    refine lv_acmp_eq (rx := some ar) (ry := some (gE γ)) (tgt := 45) hX.1.1 hX.1.2.1 dJx4a65c_grow_92f84_17 (by decide) (fun _ => ?_) (fun c => absurd (congrArg some hE) c)
    refine rw_aload_n hX hl 1 rfl (Or.inr ⟨_, rfl⟩) dJx4a65c_grow_92f84_45 rfl ?_
    refine lv_bipush (v := 10) hX.1.1 hX.1.2.1 dJx4a65c_grow_92f84_46 (by decide) ?_
    refine rw_iload_n hX hl 2 rfl dJx4a65c_grow_92f84_48 rfl ?_
    refine va_mmax hX.1.1 hX.1.2.1 (hl.1.1.trans hX.1.2.2.1.symm).symm hX.1.2.2.2.1 (hX.1.2.2.2.2 _ gw_147) (hX.1.2.2.2.2 _ gw_110) (hX.1.2.2.2.2 _ gw_8) (hX.1.2.2.2.2 _ gw_111) (Nat.le_of_ble_eq_true rfl) (Nat.le_of_ble_eq_true rfl) (Nat.le_of_ble_eq_true rfl) (Nat.le_of_ble_eq_true rfl) dJx4a65c_grow_92f84_49 ?_
    rw [show (if (10 : Int32) < nI (0 + 1) then nI (0 + 1) else (10 : Int32)) = nI 10 by decide]
    refine hr_newq hX hS (N' := 10) gw_148 (by decide) (by decide) (by decide) ⟨(show 0 + 1 ≤ 1 by omega), (show 0 + 10 ≤ 230 by omega)⟩ dJx4a65c_grow_92f84_52 (fun H1 hat1 hsm1 hz1 hS1 => ?_)
    have hatb := hsm1.at hat id
    have hfe : (fun _ => none) = f := by funext k; exact (hz k (Nat.zero_le _)).symm
    rw [hfe] at hat1
    refine lv_dup_x1 hX.1.1 hX.1.2.1 dJx4a65c_grow_92f84_55 rfl rfl ?_
    refine hr_put hX hS1 (k := 0) (j := 1) (v := .ref (s.heap.size)) hatb hA (C := RJx4a65c) (T := TJx4a65c) (N := 3) rfl (by decide) uw_Jx4a65c tyJx4a65c tyJx4a65c_ok nmJx4a65c gw_47 (fun _ h => h) rfl rfl rfl rfl (Nat.le_of_ble_eq_true rfl) dJx4a65c_grow_92f84_56 (fun H24 locs24 hat24 hsm24 hz24 hS24 => ?_)
    have hqa : s.heap.size ≠ a := by omega
    refine W.widen (k := 1) (n := 230) (by omega) (by omega) ?_
    exact he_q hX hS24 hr (Or.inr ⟨_, rfl⟩) (v := some (s.heap.size)) rfl ⟨s.heap.size, 10, rfl, by omega, by omega, Nat.le_refl _, hat24, hsm24.at hat1 hqa, hsm1.trans hsm24 (fun _ _ z => z.elim) (fun _ _ z => z)⟩ dJx4a65c_grow_92f84_59 hlocks
theorem pkK_gr : PKV yJx4a65c_grow_d5877 cJx4a65c_grow_d5877 1 (Option.some (Jvm.ClassFile.FieldType.array (Jvm.ClassFile.FieldType.object "java/lang/Object"))) 0 := ⟨gw_4, gw_101, by decide, by decide, by decide +kernel⟩
set_option maxHeartbeats 1000000 in
theorem K_gr (l : Launch) (γ : GT) (H0 : Heap) {a ar cap : Nat} {mc : Int32} {f : Nat → Option Nat} (hat : va_at (gD γ) vwCl (a, .inr (0, [.int mc, .ref ar, .int (nI cap)])) H0) (hA : gB γ ≤ a) (har : LA γ ar cap f H0) (hel : ∀ i y, f i = some y → OKo γ H0 y) (hz : ∀ i, cap ≤ i → f i = none) (hcap : cap < 150) (h0 : cap = 0 → ar = gE γ) : Met l yJx4a65c_grow_d5877 (Cond.code yJx4a65c_grow_d5877 cJx4a65c_grow_d5877 1 (Option.some (Jvm.ClassFile.FieldType.array (Jvm.ClassFile.FieldType.object "java/lang/Object"))) :: GW) (rmo 6 1 230) (va_Pc [.ref a] (PR γ (fun h => h = H0))) (PQ γ (fun r h => ∃ q cap', r = some q ∧ cap < cap' ∧ cap' ≤ 1000 ∧ H0.size ≤ q ∧ va_at (gD γ) vwCl (a, .inr (0, [.int mc, .ref q, .int (nI cap)])) h ∧ va_at (gD γ) vwCl (q, .inl (gcO γ, cap', .inr (.inr (.inr (.inr f))))) h ∧ Sm H0 h (fun x => x = a))) 1 230 (gA γ) := by
  refine va_MetF (cc := cJx4a65c_grow_d5877) (maxL := 1) (ret := (Option.some (Jvm.ClassFile.FieldType.array (Jvm.ClassFile.FieldType.object "java/lang/Object")))) (by decide +kernel) rfl ?_
  intro p e s m args below meth c s₁ B hml hv
  obtain ⟨rfl, hU⟩ := hv
  have hX := cx_ofP (own := RJx4a65c) B hml rfl hU
  obtain ⟨hh, -, -⟩ := hU
  subst hh
  have hS : va_S (gA γ) s.heap s.heap [] := va_S.rf
  have hr := B.returns
  have hlocks := B.notSynchronized
  refine (show W p l e (rmo 6 1 230) s m ([.ref a] : List Value).toArray below meth c s.heap [] 0 0 (MQ below (PQ γ (fun r h => ∃ q cap', r = some q ∧ cap < cap' ∧ cap' ≤ 1000 ∧ s.heap.size ≤ q ∧ va_at (gD γ) vwCl (a, .inr (0, [.int mc, .ref q, .int (nI cap)])) h ∧ va_at (gD γ) vwCl (q, .inl (gcO γ, cap', .inr (.inr (.inr (.inr f))))) h ∧ Sm s.heap h (fun x => x = a))) ([.ref a] : List Value).toArray s 1 230 (gA γ)) (entryFrame m ([.ref a] : List Value).toArray 1) from ?_)
  refine rw_entry (ca1 rfl ca0) (Nat.le_of_ble_eq_true rfl) (fun ls hl => ?_)
  refine rw_aload_n hX hl 0 rfl (Or.inr ⟨_, rfl⟩) dJx4a65c_grow_d5877_0 rfl ?_
  refine rw_aload_n hX hl 0 rfl (Or.inr ⟨_, rfl⟩) dJx4a65c_grow_d5877_1 rfl ?_
  refine hr_get hX (k := 0) (j := 2) hat (C := RJx4a65c) (T := TJx4a65c) (N := 3) rfl (by decide) uw_Jx4a65c gw_48 (fun _ h => h) rfl dJx4a65c_grow_d5877_2 ?_
  refine lv_iconst (v := 1) hX.1.1 hX.1.2.1 dJx4a65c_grow_d5877_5 (by decide) ?_
  refine lv_iadd (x := (nI cap)) (y := 1) hX.1.1 hX.1.2.1 dJx4a65c_grow_d5877_6 ?_
  rw [nI_1]
  refine hc_Vq hX hS pkK_gri (mc := 1) (ms := 230) ⟨rfl, rfl, (show 5 + 1 ≤ 6 by omega), (show 8 + (4 + 11) + 64 * 5 ≤ 64 * 6 by omega)⟩ (As := [.int (nI (cap + 1))]) (rest := []) rfl (K_gri l γ _ hat hA har hel hz hcap h0) gw_102 gw_104 gs_2 (va_recv hX.2.1 (rs_P hat) (q0 := 0) (ci := 0) (q := (RJx4a65c, TJx4a65c, 3)) rfl rfl) rfl hl ca0 (Nat.le_of_ble_eq_true rfl) dJx4a65c_grow_d5877_7 ⟨(show 0 + 1 ≤ 1 by omega), (show 0 + 230 ≤ 230 by omega)⟩ (fun r21 H21 locs21 hB21 hS21 => ?_)
  obtain ⟨q, cap', rfl, h1, h2, h3, h4, h5, h6⟩ := hB21
  exact he_q hX hS21 hr (Or.inr ⟨_, rfl⟩) (v := some q) rfl ⟨q, cap', rfl, h1, h2, h3, h4, h5, h6⟩ dJx4a65c_grow_d5877_10 hlocks
theorem pkK_add3 : PKV yJx4a65c_add_72be8 cJx4a65c_add_72be8 4 (Option.none : Option Jvm.ClassFile.FieldType) 3 := ⟨gw_4, gw_97, by decide, by decide, by decide +kernel⟩
set_option maxHeartbeats 1000000 in
theorem K_add3 (l : Launch) (γ : GT) (H0 : Heap) {a v ar n cap : Nat} {mc : Int32} {f : Nat → Option Nat} (hat : va_at (gD γ) vwCl (a, .inr (0, [.int mc, .ref ar, .int (nI n)])) H0) (hA : gB γ ≤ a) (har : LA γ ar cap f H0) (hne : ar ≠ a) (hel : ∀ i y, f i = some y → OKo γ H0 y) (hz : ∀ i, n ≤ i → f i = none) (hn : n < 150) (hnc : n ≤ cap) (hcap : cap ≤ 1000) (h0 : cap = 0 → ar = gE γ) (hAr : 0 < cap → gB γ ≤ ar) (hv : OKo γ H0 v) (hva : v ≠ a) : Met l yJx4a65c_add_72be8 (Cond.code yJx4a65c_add_72be8 cJx4a65c_add_72be8 4 (Option.none : Option Jvm.ClassFile.FieldType) :: GW) (rmo 7 1 230) (va_Pc [.ref a, .ref v, .ref ar, .int (nI n)] (PR γ (fun h => h = H0))) (PV γ (fun h => ∃ q cap', n < cap' ∧ cap' ≤ 1000 ∧ (q = ar ∧ 0 < cap ∨ H0.size ≤ q) ∧ va_at (gD γ) vwCl (a, .inr (0, [.int mc, .ref q, .int (nI (n + 1))])) h ∧ va_at (gD γ) vwCl (q, .inl (gcO γ, cap', .inr (.inr (.inr (.inr (va_up f n (some v))))))) h ∧ Sm H0 h (fun x => x = a ∨ (0 < cap ∧ x = ar)))) 1 230 (gA γ) := by
  refine va_MetF (cc := cJx4a65c_add_72be8) (maxL := 4) (ret := (Option.none : Option Jvm.ClassFile.FieldType)) (by decide +kernel) rfl ?_
  intro p e s m args below meth c s₁ B hml hv
  obtain ⟨rfl, hU⟩ := hv
  have hX := cx_ofP (own := RJx4a65c) B hml rfl hU
  obtain ⟨hh, -, -⟩ := hU
  subst hh
  have hS : va_S (gA γ) s.heap s.heap [] := va_S.rf
  have hr := B.returns
  have hlocks := B.notSynchronized
  refine (show W p l e (rmo 7 1 230) s m ([.ref a, .ref v, .ref ar, .int (nI n)] : List Value).toArray below meth c s.heap [] 0 0 (MQ below (PV γ (fun h => ∃ q cap', n < cap' ∧ cap' ≤ 1000 ∧ (q = ar ∧ 0 < cap ∨ s.heap.size ≤ q) ∧ va_at (gD γ) vwCl (a, .inr (0, [.int mc, .ref q, .int (nI (n + 1))])) h ∧ va_at (gD γ) vwCl (q, .inl (gcO γ, cap', .inr (.inr (.inr (.inr (va_up f n (some v))))))) h ∧ Sm s.heap h (fun x => x = a ∨ (0 < cap ∧ x = ar)))) ([.ref a, .ref v, .ref ar, .int (nI n)] : List Value).toArray s 1 230 (gA γ)) (entryFrame m ([.ref a, .ref v, .ref ar, .int (nI n)] : List Value).toArray 4) from ?_)
  refine rw_entry (ca1 rfl (ca1 rfl (ca1 rfl (ca1 rfl ca0)))) (Nat.le_of_ble_eq_true rfl) (fun ls hl => ?_)
  refine rw_iload_n hX hl 3 rfl dJx4a65c_add_72be8_0 rfl ?_
  refine rw_aload_n hX hl 2 rfl (Or.inr ⟨_, rfl⟩) dJx4a65c_add_72be8_1 rfl ?_
  refine hr_alenL hX har (v := nI cap) rfl dJx4a65c_add_72be8_2 ?_
  have halt : a < s.heap.size := hat.lt
  have hgb : gB γ ≤ s.heap.size := hX.2.2.2.2.2.2.2.2.2.2.2
  obtain ⟨ci, fs, rr, hv1, hv2, hv3⟩ := hv
  refine lv_icmp_ne (x := nI n) (y := nI cap) (tgt := 11) hX.1.1 hX.1.2.1 dJx4a65c_add_72be8_3 (by decide) (fun c => ?_) (fun c => ?_)
  · have hlt : n < cap := Nat.lt_of_le_of_ne hnc (fun z => c (by rw [z]))
    refine rw_aload_n hX hl 2 rfl (Or.inr ⟨_, rfl⟩) dJx4a65c_add_72be8_11 rfl ?_
    refine rw_iload_n hX hl 3 rfl dJx4a65c_add_72be8_12 rfl ?_
    refine rw_aload_n hX hl 1 rfl (Or.inr ⟨_, rfl⟩) dJx4a65c_add_72be8_13 rfl ?_
    refine hr_aast hX hS (har.1 (by omega)) (hAr (by omega)) hv3 hv1 hv2 (vp_in_nI hlt (by omega)) dJx4a65c_add_72be8_14 (fun H1 locs1 hat1 hsm1 hz1 hS1 => ?_)
    rw [nI_clamp (by omega)] at hat1
    have hatb := hsm1.at hat (Ne.symm hne)
    refine rw_aload_n hX hl 0 rfl (Or.inr ⟨_, rfl⟩) dJx4a65c_add_72be8_15 rfl ?_
    refine rw_iload_n hX hl 3 rfl dJx4a65c_add_72be8_16 rfl ?_
    refine lv_iconst (v := 1) hX.1.1 hX.1.2.1 dJx4a65c_add_72be8_17 (by decide) ?_
    refine lv_iadd (x := (nI n)) (y := 1) hX.1.1 hX.1.2.1 dJx4a65c_add_72be8_18 ?_
    rw [nI_1]
    refine hr_put hX hS1 (k := 0) (j := 2) (v := .int (nI (n + 1))) hatb hA (C := RJx4a65c) (T := TJx4a65c) (N := 3) rfl (by decide) uw_Jx4a65c tyJx4a65c tyJx4a65c_ok nmJx4a65c gw_48 (fun _ h => h) rfl rfl rfl rfl (Nat.le_of_ble_eq_true rfl) dJx4a65c_add_72be8_19 (fun H21 locs21 hat21 hsm21 hz21 hS21 => ?_)
    refine W.widen (k := 1) (n := 230) (by omega) (by omega) ?_
    exact he_v hX hS21 hr ⟨ar, cap, hlt, hcap, Or.inl ⟨rfl, by omega⟩, hat21, hsm21.at hat1 hne, hsm1.trans hsm21 (fun _ _ z => Or.inr ⟨by omega, z⟩) (fun _ _ z => Or.inl z)⟩ dJx4a65c_add_72be8_22 hlocks
  · have hec : n = cap := (nI_eq (by omega) (by omega)).mp c
    subst hec
    refine rw_aload_n hX hl 0 rfl (Or.inr ⟨_, rfl⟩) dJx4a65c_add_72be8_6 rfl ?_
    refine hc_Vq hX hS pkK_gr (mc := 1) (ms := 230) ⟨rfl, rfl, (show 6 + 1 ≤ 7 by omega), (show 8 + (1 + 11) + 64 * 6 ≤ 64 * 7 by omega)⟩ (As := []) (rest := []) rfl (K_gr l γ _ hat hA har hel hz hn h0) gw_98 gw_100 gs_1 (va_recv hX.2.1 (rs_P hat) (q0 := 0) (ci := 0) (q := (RJx4a65c, TJx4a65c, 3)) rfl rfl) rfl hl ca0 (Nat.le_of_ble_eq_true rfl) dJx4a65c_add_72be8_7 ⟨(show 0 + 1 ≤ 1 by omega), (show 0 + 230 ≤ 230 by omega)⟩ (fun r22 H22 locs22 hB22 hS22 => ?_)
    obtain ⟨q, cap', rfl, g1, g2, g3, g4, g5, g6⟩ := hB22
    refine rw_astore_n (lv' := [(2, .ref q), (0, .ref a), (1, .ref v), (3, .int (nI n))]) hX hl (by decide) rfl (Or.inr ⟨_, rfl⟩) dJx4a65c_add_72be8_10 rfl (fun ls hl => ?_)
    refine rw_aload_n hX hl 0 rfl (Or.inr ⟨_, rfl⟩) dJx4a65c_add_72be8_11 rfl ?_
    refine rw_iload_n hX hl 3 rfl dJx4a65c_add_72be8_12 rfl ?_
    refine rw_aload_n hX hl 2 rfl (Or.inr ⟨_, rfl⟩) dJx4a65c_add_72be8_13 rfl ?_
    refine hr_aast hX hS22 g5 (Nat.le_trans hgb g3) (g6.at hv3 hva) hv1 hv2 (vp_in_nI g1 (by omega)) dJx4a65c_add_72be8_14 (fun H1 locs1 hat1 hsm1 hz1 hS1 => ?_)
    rw [nI_clamp (by omega)] at hat1
    have hqa : q ≠ a := by omega
    have hatb := hsm1.at g4 (Ne.symm hqa)
    refine rw_aload_n hX hl 1 rfl (Or.inr ⟨_, rfl⟩) dJx4a65c_add_72be8_15 rfl ?_
    refine rw_iload_n hX hl 3 rfl dJx4a65c_add_72be8_16 rfl ?_
    refine lv_iconst (v := 1) hX.1.1 hX.1.2.1 dJx4a65c_add_72be8_17 (by decide) ?_
    refine lv_iadd (x := (nI n)) (y := 1) hX.1.1 hX.1.2.1 dJx4a65c_add_72be8_18 ?_
    rw [nI_1]
    refine hr_put hX hS1 (k := 0) (j := 2) (v := .int (nI (n + 1))) hatb hA (C := RJx4a65c) (T := TJx4a65c) (N := 3) rfl (by decide) uw_Jx4a65c tyJx4a65c tyJx4a65c_ok nmJx4a65c gw_48 (fun _ h => h) rfl rfl rfl rfl (Nat.le_of_ble_eq_true rfl) dJx4a65c_add_72be8_19 (fun H23 locs23 hat23 hsm23 hz23 hS23 => ?_)
    exact he_v hX hS23 hr ⟨q, cap', g1, g2, Or.inr g3, hat23, hsm23.at hat1 hqa, (g6.trans hsm1 (P := fun x => x = a ∨ q = x) (fun _ _ z => Or.inl z) (fun _ _ z => Or.inr z.symm)).trans hsm23 (fun x hx z => by rcases z with z | z; exact Or.inl z; exact absurd hx (by omega)) (fun _ _ z => Or.inl z)⟩ dJx4a65c_add_72be8_22 hlocks
theorem pkK_add : PKV yJx4a65c_add_9ea2d cJx4a65c_add_9ea2d 2 (Option.some Jvm.ClassFile.FieldType.boolean) 1 := ⟨gw_4, gw_93, by decide, by decide, by decide +kernel⟩
set_option maxHeartbeats 1000000 in
theorem K_add (l : Launch) (γ : GT) (H0 : Heap) {a v ar n cap : Nat} {mc : Int32} {f : Nat → Option Nat} (hat : va_at (gD γ) vwCl (a, .inr (0, [.int mc, .ref ar, .int (nI n)])) H0) (hA : gB γ ≤ a) (har : LA γ ar cap f H0) (hne : ar ≠ a) (hel : ∀ i y, f i = some y → OKo γ H0 y) (hz : ∀ i, n ≤ i → f i = none) (hn : n < 150) (hnc : n ≤ cap) (hcap : cap ≤ 1000) (h0 : cap = 0 → ar = gE γ) (hAr : 0 < cap → gB γ ≤ ar) (hv : OKo γ H0 v) (hva : v ≠ a) (hya : ∀ i y, f i = some y → y ≠ a) : Met l yJx4a65c_add_9ea2d (Cond.code yJx4a65c_add_9ea2d cJx4a65c_add_9ea2d 2 (Option.some Jvm.ClassFile.FieldType.boolean) :: GW) (rmo 14 1 230) (va_Pc [.ref a, .ref v] (PR γ (fun h => h = H0))) (PI γ (fun h => ∃ q cap', n < cap' ∧ cap' ≤ 1000 ∧ (q = ar ∧ 0 < cap ∨ H0.size ≤ q) ∧ va_at (gD γ) vwCl (a, .inr (0, [.int (mc + 1), .ref q, .int (nI (n + 1))])) h ∧ va_at (gD γ) vwCl (q, .inl (gcO γ, cap', .inr (.inr (.inr (.inr (va_up f n (some v))))))) h ∧ Sm H0 h (fun x => x = a ∨ (0 < cap ∧ x = ar))) 1) 1 230 (gA γ) := by
  refine va_MetF (cc := cJx4a65c_add_9ea2d) (maxL := 2) (ret := (Option.some Jvm.ClassFile.FieldType.boolean)) (by decide +kernel) rfl ?_
  intro p e s m args below meth c s₁ B hml hv
  obtain ⟨rfl, hU⟩ := hv
  have hX := cx_ofP (own := RJx4a65c) B hml rfl hU
  obtain ⟨hh, -, -⟩ := hU
  subst hh
  have hS : va_S (gA γ) s.heap s.heap [] := va_S.rf
  have hr := B.returns
  have hlocks := B.notSynchronized
  refine (show W p l e (rmo 14 1 230) s m ([.ref a, .ref v] : List Value).toArray below meth c s.heap [] 0 0 (MQ below (PI γ (fun h => ∃ q cap', n < cap' ∧ cap' ≤ 1000 ∧ (q = ar ∧ 0 < cap ∨ s.heap.size ≤ q) ∧ va_at (gD γ) vwCl (a, .inr (0, [.int (mc + 1), .ref q, .int (nI (n + 1))])) h ∧ va_at (gD γ) vwCl (q, .inl (gcO γ, cap', .inr (.inr (.inr (.inr (va_up f n (some v))))))) h ∧ Sm s.heap h (fun x => x = a ∨ (0 < cap ∧ x = ar))) 1) ([.ref a, .ref v] : List Value).toArray s 1 230 (gA γ)) (entryFrame m ([.ref a, .ref v] : List Value).toArray 2) from ?_)
  refine rw_entry (ca1 rfl (ca1 rfl ca0)) (Nat.le_of_ble_eq_true rfl) (fun ls hl => ?_)
  refine rw_aload_n hX hl 0 rfl (Or.inr ⟨_, rfl⟩) dJx4a65c_add_9ea2d_0 rfl ?_
  refine lv_dup hX.1.1 hX.1.2.1 dJx4a65c_add_9ea2d_1 rfl ?_
  refine hr_get hX (k := 0) (j := 0) hat (C := RJx4a65c) (T := TJx4a65c) (N := 3) rfl (by decide) uw_Jx4a65c gw_50 (u_same (hX.1.2.2.2.2 _ gw_51)) rfl dJx4a65c_add_9ea2d_2 ?_
  refine lv_iconst (v := 1) hX.1.1 hX.1.2.1 dJx4a65c_add_9ea2d_5 (by decide) ?_
  refine lv_iadd (x := mc) (y := 1) hX.1.1 hX.1.2.1 dJx4a65c_add_9ea2d_6 ?_
  rw [show mc + 1 = mc + 1 from rfl]
  refine hr_put hX hS (k := 0) (j := 0) (v := .int (mc + 1)) hat hA (C := RJx4a65c) (T := TJx4a65c) (N := 3) rfl (by decide) uw_Jx4a65c tyJx4a65c tyJx4a65c_ok nmJx4a65c gw_50 (u_same (hX.1.2.2.2.2 _ gw_51)) rfl rfl rfl rfl (Nat.le_of_ble_eq_true rfl) dJx4a65c_add_9ea2d_7 (fun H21 locs21 hat21 hsm21 hz21 hS21 => ?_)
  have halt : a < s.heap.size := hat.lt
  refine rw_aload_n hX hl 0 rfl (Or.inr ⟨_, rfl⟩) dJx4a65c_add_9ea2d_10 rfl ?_
  refine rw_aload_n hX hl 1 rfl (Or.inr ⟨_, rfl⟩) dJx4a65c_add_9ea2d_11 rfl ?_
  refine rw_aload_n hX hl 0 rfl (Or.inr ⟨_, rfl⟩) dJx4a65c_add_9ea2d_12 rfl ?_
  refine hr_get hX (k := 0) (j := 1) hat21 (C := RJx4a65c) (T := TJx4a65c) (N := 3) rfl (by decide) uw_Jx4a65c gw_47 (fun _ h => h) rfl dJx4a65c_add_9ea2d_13 ?_
  refine rw_aload_n hX hl 0 rfl (Or.inr ⟨_, rfl⟩) dJx4a65c_add_9ea2d_16 rfl ?_
  refine hr_get hX (k := 0) (j := 2) hat21 (C := RJx4a65c) (T := TJx4a65c) (N := 3) rfl (by decide) uw_Jx4a65c gw_48 (fun _ h => h) rfl dJx4a65c_add_9ea2d_17 ?_
  refine hc_Vv hX hS21 pkK_add3 (mc := 1) (ms := 230) ⟨rfl, rfl, (show 7 + 1 ≤ 14 by omega), (show 8 + (4 + 11) + 64 * 7 ≤ 64 * 14 by omega)⟩ (As := [.ref v, .ref ar, .int (nI n)]) (rest := []) rfl (K_add3 l γ _ hat21 hA (hsm21.la har hne) hne (fun i y hy => OKo.kept (hel i y hy) hsm21 (hya i y hy)) hz hn hnc hcap h0 hAr (hv.kept hsm21 hva) hva) gw_94 gw_96 gs_0 (va_recv hX.2.1 (rs_P hat21) (q0 := 0) (ci := 0) (q := (RJx4a65c, TJx4a65c, 3)) rfl rfl) rfl hl ca0 (Nat.le_of_ble_eq_true rfl) dJx4a65c_add_9ea2d_20 ⟨(show 0 + 1 ≤ 1 by omega), (show 0 + 230 ≤ 230 by omega)⟩ (fun H22 locs22 hB22 hS22 => ?_)
  obtain ⟨q, cap', g1, g2, g3, g4, g5, g6⟩ := hB22
  refine lv_iconst (v := 1) hX.1.1 hX.1.2.1 dJx4a65c_add_9ea2d_23 (by decide) ?_
  exact he_z hX hS22 hr ⟨q, cap', g1, g2, g3.imp_right (fun z => Nat.le_trans hsm21.1 z), g4, g5, hsm21.trans g6 (fun _ _ z => Or.inl z) (fun _ _ z => z)⟩ dJx4a65c_add_9ea2d_24 hlocks
theorem pkK_fr : PKV yJx4a65c_fastRemove_b59b0 cJx4a65c_fastRemove_b59b0 4 (Option.none : Option Jvm.ClassFile.FieldType) 2 := ⟨gw_4, gw_502, by decide, by decide, by decide +kernel⟩
set_option maxHeartbeats 1000000 in
theorem K_fr (l : Launch) (γ : GT) (H0 : Heap) {a ar i cap : Nat} {mc : Int32} {L : List Nat} (hat : va_at (gD γ) vwCl (a, .inr (0, [.int mc, .ref ar, .int (nI L.length)])) H0) (hA : gB γ ≤ a) (har : va_at (gD γ) vwCl (ar, .inl (gcO γ, cap, .inr (.inr (.inr (.inr (fun j => L[j]?)))))) H0) (hne : ar ≠ a) (hAr : gB γ ≤ ar) (hel : ∀ (i : Nat) y, L[i]? = some y → OKo γ H0 y) (hya : ∀ (i : Nat) y, L[i]? = some y → y ≠ a) (hi : i < L.length) (hnc : L.length ≤ cap) (hcap : cap ≤ 1000) : Met l yJx4a65c_fastRemove_b59b0 (Cond.code yJx4a65c_fastRemove_b59b0 cJx4a65c_fastRemove_b59b0 4 (Option.none : Option Jvm.ClassFile.FieldType) :: GW) (rmo 3 0 0) (va_Pc [.ref a, .ref ar, .int (nI i)] (PR γ (fun h => h = H0))) (PV γ (fun h =>  va_at (gD γ) vwCl (a, .inr (0, [.int (mc + 1), .ref ar, .int (nI (L.length - 1))])) h ∧ va_at (gD γ) vwCl (ar, .inl (gcO γ, cap, .inr (.inr (.inr (.inr (fun j => (L.eraseIdx i)[j]?)))))) h ∧ Sm H0 h (fun x => x = a ∨ x = ar))) 0 0 (gA γ) := by
  refine va_MetF (cc := cJx4a65c_fastRemove_b59b0) (maxL := 4) (ret := (Option.none : Option Jvm.ClassFile.FieldType)) (by decide +kernel) rfl ?_
  intro p e s m args below meth c s₁ B hml hv
  obtain ⟨rfl, hU⟩ := hv
  have hX := cx_ofP (own := RJx4a65c) B hml rfl hU
  obtain ⟨hh, -, -⟩ := hU
  subst hh
  have hS : va_S (gA γ) s.heap s.heap [] := va_S.rf
  have hr := B.returns
  have hlocks := B.notSynchronized
  refine (show W p l e (rmo 3 0 0) s m ([.ref a, .ref ar, .int (nI i)] : List Value).toArray below meth c s.heap [] 0 0 (MQ below (PV γ (fun h =>  va_at (gD γ) vwCl (a, .inr (0, [.int (mc + 1), .ref ar, .int (nI (L.length - 1))])) h ∧ va_at (gD γ) vwCl (ar, .inl (gcO γ, cap, .inr (.inr (.inr (.inr (fun j => (L.eraseIdx i)[j]?)))))) h ∧ Sm s.heap h (fun x => x = a ∨ x = ar))) ([.ref a, .ref ar, .int (nI i)] : List Value).toArray s 0 0 (gA γ)) (entryFrame m ([.ref a, .ref ar, .int (nI i)] : List Value).toArray 4) from ?_)
  refine rw_entry (ca1 rfl (ca1 rfl (ca1 rfl ca0))) (Nat.le_of_ble_eq_true rfl) (fun ls hl => ?_)
  refine rw_aload_n hX hl 0 rfl (Or.inr ⟨_, rfl⟩) dJx4a65c_fastRemove_b59b0_0 rfl ?_
  refine lv_dup hX.1.1 hX.1.2.1 dJx4a65c_fastRemove_b59b0_1 rfl ?_
  refine hr_get hX (k := 0) (j := 0) hat (C := RJx4a65c) (T := TJx4a65c) (N := 3) rfl (by decide) uw_Jx4a65c gw_50 (u_same (hX.1.2.2.2.2 _ gw_51)) rfl dJx4a65c_fastRemove_b59b0_2 ?_
  refine lv_iconst (v := 1) hX.1.1 hX.1.2.1 dJx4a65c_fastRemove_b59b0_5 (by decide) ?_
  refine lv_iadd (x := mc) (y := 1) hX.1.1 hX.1.2.1 dJx4a65c_fastRemove_b59b0_6 ?_
  rw [show mc + 1 = mc + 1 from rfl]
  refine hr_putL hX hS (k := 0) (j := 0) (v := .int (mc + 1)) hat hA (C := RJx4a65c) (T := TJx4a65c) (N := 3) rfl (by decide) uw_Jx4a65c tyJx4a65c tyJx4a65c_ok nmJx4a65c gw_50 (u_same (hX.1.2.2.2.2 _ gw_51)) rfl rfl rfl rfl (Nat.le_of_ble_eq_true rfl) dJx4a65c_fastRemove_b59b0_7 (fun H21 locs21 hat21 hsm21 hz21 hS21 hlo21 => ?_)
  have har1 := hsm21.at har hne
  refine rw_aload_n hX hl 0 rfl (Or.inr ⟨_, rfl⟩) dJx4a65c_fastRemove_b59b0_10 rfl ?_
  refine hr_get hX (k := 0) (j := 2) hat21 (C := RJx4a65c) (T := TJx4a65c) (N := 3) rfl (by decide) uw_Jx4a65c gw_48 (fun _ h => h) rfl dJx4a65c_fastRemove_b59b0_11 ?_
  refine lv_iconst (v := 1) hX.1.1 hX.1.2.1 dJx4a65c_fastRemove_b59b0_14 (by decide) ?_
  have hsub : nI L.length - 1 = nI (L.length - 1) := pk_sub (b := 1) (by omega)
  refine lv_isub (x := (nI L.length)) (y := 1) hX.1.1 hX.1.2.1 dJx4a65c_fastRemove_b59b0_15 ?_
  rw [hsub]
  refine lv_dup hX.1.1 hX.1.2.1 dJx4a65c_fastRemove_b59b0_16 rfl ?_
  refine rw_istore_n (lv' := [(3, .int (nI (L.length - 1))), (0, .ref a), (1, .ref ar), (2, .int (nI i))]) hX hl (by decide) rfl dJx4a65c_fastRemove_b59b0_17 rfl (fun ls hl => ?_)
  refine rw_iload_n hX hl 3 rfl dJx4a65c_fastRemove_b59b0_18 rfl ?_
  refine lv_icmp_le (x := nI (L.length - 1)) (y := nI i) (tgt := 34) hX.1.1 hX.1.2.1 dJx4a65c_fastRemove_b59b0_19 (by decide) (fun c => ?_) (fun c => ?_)
  · have hie : i + 1 = L.length := by
      by_cases hq : i + 1 = L.length
      · exact hq
      · exact absurd c (nI_ge (by omega) (by omega))
    have hsm9 : Sm s.heap H21 (fun x => x = a ∨ x = ar) := ⟨hsm21.1, fun q h1 h2 => hsm21.2 q h1 (fun z => h2 (Or.inl z))⟩
    refine rw_aload_n hX hl 2 rfl (Or.inr ⟨_, rfl⟩) dJx4a65c_fastRemove_b59b0_34 rfl ?_
    refine rw_aload_n hX hl 1 rfl (Or.inr ⟨_, rfl⟩) dJx4a65c_fastRemove_b59b0_35 rfl ?_
    refine rw_iload_n hX hl 0 rfl dJx4a65c_fastRemove_b59b0_36 rfl ?_
    refine lv_dup_x1 hX.1.1 hX.1.2.1 dJx4a65c_fastRemove_b59b0_37 rfl rfl ?_
    refine hr_put hX hS21 (k := 0) (j := 2) (v := .int (nI (L.length - 1))) hat21 hA (C := RJx4a65c) (T := TJx4a65c) (N := 3) rfl (by decide) uw_Jx4a65c tyJx4a65c tyJx4a65c_ok nmJx4a65c gw_48 (fun _ h => h) rfl rfl rfl rfl (Nat.le_of_ble_eq_true rfl) dJx4a65c_fastRemove_b59b0_38 (fun H22 locs22 hat22 hsm22 hz22 hS22 => ?_)
    have harx := hsm22.at har1 hne
    refine lv_null hX.1.1 hX.1.2.1 dJx4a65c_fastRemove_b59b0_41 ?_
    refine hr_aastN hX hS22 harx hAr (vp_in_nI (by omega) (by omega)) dJx4a65c_fastRemove_b59b0_42 (fun H8 locs8 hat8 hsm8 hz8 hS8 => ?_)
    rw [nI_clamp (by omega)] at hat8
    rw [show L.length - 1 = i by omega, erA hie] at hat8
    exact he_v hX hS8 hr ⟨hsm8.at hat22 (Ne.symm hne), hat8, (hsm9.trans hsm22 (P := fun x => x = a ∨ x = ar) (fun _ _ z => z) (fun _ _ z => Or.inl z)).trans hsm8 (fun _ _ z => z) (fun _ _ z => Or.inr z)⟩ dJx4a65c_fastRemove_b59b0_43 hlocks
  · have hie : i + 1 < L.length := by
      by_cases hq : i + 1 < L.length
      · exact hq
      · exact absurd (nI_le (by omega) (by omega)) c
    refine rw_aload_n hX hl 2 rfl (Or.inr ⟨_, rfl⟩) dJx4a65c_fastRemove_b59b0_22 rfl ?_
    refine rw_iload_n hX hl 3 rfl dJx4a65c_fastRemove_b59b0_23 rfl ?_
    refine lv_iconst (v := 1) hX.1.1 hX.1.2.1 dJx4a65c_fastRemove_b59b0_24 (by decide) ?_
    refine lv_iadd (x := (nI i)) (y := 1) hX.1.1 hX.1.2.1 dJx4a65c_fastRemove_b59b0_25 ?_
    rw [nI_1]
    refine rw_aload_n hX hl 2 rfl (Or.inr ⟨_, rfl⟩) dJx4a65c_fastRemove_b59b0_26 rfl ?_
    refine rw_iload_n hX hl 3 rfl dJx4a65c_fastRemove_b59b0_27 rfl ?_
    refine rw_iload_n hX hl 0 rfl dJx4a65c_fastRemove_b59b0_28 rfl ?_
    refine rw_iload_n hX hl 3 rfl dJx4a65c_fastRemove_b59b0_29 rfl ?_
    refine lv_isub (x := (nI (L.length - 1))) (y := (nI i)) hX.1.1 hX.1.2.1 dJx4a65c_fastRemove_b59b0_30 ?_
    rw [pk_sub (by omega)]
    refine hr_copy hX hS21 hl (b := a) gw_503 gw_146 gw_145 gw_10 har1 har1 hAr hat21 (Ne.symm hne) hlo21 (nI_pos (by omega)) (nI_pos (by omega)) (nI_pos (by omega)) (by rw [nI_clamp (by omega), nI_clamp (by omega)]; omega) (by rw [nI_clamp (by omega), nI_clamp (by omega)]; omega) (fun j _ y hy => (OKo.kept (hel _ y hy) hsm21 (hya _ y hy)).any hX) (Nat.le_of_ble_eq_true rfl) (Nat.le_of_ble_eq_true rfl) dJx4a65c_fastRemove_b59b0_31 (fun H6 locs6 hat6 hatl6 hsm6 hz6 hS6 => ?_)
    rw [nI_clamp (by omega), nI_clamp (by omega), nI_clamp (by omega)] at hat6
    have hsm9 : Sm s.heap H6 (fun x => x = a ∨ x = ar) := hsm21.trans hsm6 (fun _ _ z => Or.inl z) (fun _ _ z => z.symm)
    refine rw_aload_n hX hl 2 rfl (Or.inr ⟨_, rfl⟩) dJx4a65c_fastRemove_b59b0_34 rfl ?_
    refine rw_aload_n hX hl 1 rfl (Or.inr ⟨_, rfl⟩) dJx4a65c_fastRemove_b59b0_35 rfl ?_
    refine rw_iload_n hX hl 0 rfl dJx4a65c_fastRemove_b59b0_36 rfl ?_
    refine lv_dup_x1 hX.1.1 hX.1.2.1 dJx4a65c_fastRemove_b59b0_37 rfl rfl ?_
    refine hr_put hX hS6 (k := 0) (j := 2) (v := .int (nI (L.length - 1))) hatl6 hA (C := RJx4a65c) (T := TJx4a65c) (N := 3) rfl (by decide) uw_Jx4a65c tyJx4a65c tyJx4a65c_ok nmJx4a65c gw_48 (fun _ h => h) rfl rfl rfl rfl (Nat.le_of_ble_eq_true rfl) dJx4a65c_fastRemove_b59b0_38 (fun H23 locs23 hat23 hsm23 hz23 hS23 => ?_)
    have harx := hsm23.at hat6 hne
    refine lv_null hX.1.1 hX.1.2.1 dJx4a65c_fastRemove_b59b0_41 ?_
    refine hr_aastN hX hS23 harx hAr (vp_in_nI (by omega) (by omega)) dJx4a65c_fastRemove_b59b0_42 (fun H8 locs8 hat8 hsm8 hz8 hS8 => ?_)
    rw [nI_clamp (by omega)] at hat8
    rw [erB hie] at hat8
    exact he_v hX hS8 hr ⟨hsm8.at hat23 (Ne.symm hne), hat8, (hsm9.trans hsm23 (P := fun x => x = a ∨ x = ar) (fun _ _ z => z) (fun _ _ z => Or.inl z)).trans hsm8 (fun _ _ z => z) (fun _ _ z => Or.inr z)⟩ dJx4a65c_fastRemove_b59b0_43 hlocks
theorem pkK_rem : PKV yJx4a65c_remove_915e3 cJx4a65c_remove_915e3 4 (Option.some (Jvm.ClassFile.FieldType.object "java/lang/Object")) 1 := ⟨gw_4, gw_498, by decide, by decide, by decide +kernel⟩
set_option maxHeartbeats 1000000 in
theorem K_rem (l : Launch) (γ : GT) (H0 : Heap) {a ar i cap v : Nat} {mc : Int32} {L : List Nat} (hat : va_at (gD γ) vwCl (a, .inr (0, [.int mc, .ref ar, .int (nI L.length)])) H0) (hA : gB γ ≤ a) (har : va_at (gD γ) vwCl (ar, .inl (gcO γ, cap, .inr (.inr (.inr (.inr (fun j => L[j]?)))))) H0) (hne : ar ≠ a) (hAr : gB γ ≤ ar) (hel : ∀ (i : Nat) y, L[i]? = some y → OKo γ H0 y) (hya : ∀ (i : Nat) y, L[i]? = some y → y ≠ a) (hi : i < L.length) (hnc : L.length ≤ cap) (hcap : cap ≤ 1000) (hf : L[i]? = some v) : Met l yJx4a65c_remove_915e3 (Cond.code yJx4a65c_remove_915e3 cJx4a65c_remove_915e3 4 (Option.some (Jvm.ClassFile.FieldType.object "java/lang/Object")) :: GW) (rmo 14 0 0) (va_Pc [.ref a, .int (nI i)] (PR γ (fun h => h = H0))) (PQ γ (fun r h => r = some v ∧ va_at (gD γ) vwCl (a, .inr (0, [.int (mc + 1), .ref ar, .int (nI (L.length - 1))])) h ∧ va_at (gD γ) vwCl (ar, .inl (gcO γ, cap, .inr (.inr (.inr (.inr (fun j => (L.eraseIdx i)[j]?)))))) h ∧ Sm H0 h (fun x => x = a ∨ x = ar))) 0 0 (gA γ) := by
  refine va_MetF (cc := cJx4a65c_remove_915e3) (maxL := 4) (ret := (Option.some (Jvm.ClassFile.FieldType.object "java/lang/Object"))) (by decide +kernel) rfl ?_
  intro p e s m args below meth c s₁ B hml hv
  obtain ⟨rfl, hU⟩ := hv
  have hX := cx_ofP (own := RJx4a65c) B hml rfl hU
  obtain ⟨hh, -, -⟩ := hU
  subst hh
  have hS : va_S (gA γ) s.heap s.heap [] := va_S.rf
  have hr := B.returns
  have hlocks := B.notSynchronized
  refine (show W p l e (rmo 14 0 0) s m ([.ref a, .int (nI i)] : List Value).toArray below meth c s.heap [] 0 0 (MQ below (PQ γ (fun r h => r = some v ∧ va_at (gD γ) vwCl (a, .inr (0, [.int (mc + 1), .ref ar, .int (nI (L.length - 1))])) h ∧ va_at (gD γ) vwCl (ar, .inl (gcO γ, cap, .inr (.inr (.inr (.inr (fun j => (L.eraseIdx i)[j]?)))))) h ∧ Sm s.heap h (fun x => x = a ∨ x = ar))) ([.ref a, .int (nI i)] : List Value).toArray s 0 0 (gA γ)) (entryFrame m ([.ref a, .int (nI i)] : List Value).toArray 4) from ?_)
  refine rw_entry (ca1 rfl (ca1 rfl ca0)) (Nat.le_of_ble_eq_true rfl) (fun ls hl => ?_)
  refine rw_iload_n hX hl 1 rfl dJx4a65c_remove_915e3_0 rfl ?_
  refine rw_aload_n hX hl 0 rfl (Or.inr ⟨_, rfl⟩) dJx4a65c_remove_915e3_1 rfl ?_
  refine hr_get hX (k := 0) (j := 2) hat (C := RJx4a65c) (T := TJx4a65c) (N := 3) rfl (by decide) uw_Jx4a65c gw_48 (fun _ h => h) rfl dJx4a65c_remove_915e3_2 ?_
  refine hc_Si hX hS pkK_ck (mc := 0) (ms := 0) ⟨rfl, rfl, (show 2 + 1 ≤ 14 by omega), (show 8 + (2 + 11) + 64 * 2 ≤ 64 * 14 by omega)⟩ (As := [.int (nI i), .int (nI L.length)]) (rest := []) rfl (K_ck l γ _ hi (by omega)) gw_285 gw_286 rfl hl ca0 (Nat.le_of_ble_eq_true rfl) dJx4a65c_remove_915e3_5 ⟨(show 0 + 0 ≤ 0 by omega), (show 0 + 0 ≤ 0 by omega)⟩ (fun H21 locs21 hB21 hS21 => ?_)
  subst hB21
  refine lv_pop hX.1.1 hX.1.2.1 dJx4a65c_remove_915e3_8 rfl ?_
  refine rw_aload_n hX hl 0 rfl (Or.inr ⟨_, rfl⟩) dJx4a65c_remove_915e3_9 rfl ?_
  refine hr_get hX (k := 0) (j := 1) hat (C := RJx4a65c) (T := TJx4a65c) (N := 3) rfl (by decide) uw_Jx4a65c gw_47 (fun _ h => h) rfl dJx4a65c_remove_915e3_10 ?_
  refine rw_astore_n (lv' := [(2, .ref ar), (0, .ref a), (1, .int (nI i))]) hX hl (by decide) rfl (Or.inr ⟨_, rfl⟩) dJx4a65c_remove_915e3_13 rfl (fun ls hl => ?_)
  refine rw_aload_n hX hl 0 rfl (Or.inr ⟨_, rfl⟩) dJx4a65c_remove_915e3_14 rfl ?_
  refine rw_iload_n hX hl 2 rfl dJx4a65c_remove_915e3_15 rfl ?_
  refine hr_aald hX har (vp_in_nI (by omega) (by omega)) (v := some v) (by rw [nI_clamp (by omega)]; exact hf) dJx4a65c_remove_915e3_16 ?_
  refine rw_astore_n (lv' := [(3, .ref v), (2, .ref ar), (0, .ref a), (1, .int (nI i))]) hX hl (by decide) rfl (Or.inr ⟨_, rfl⟩) dJx4a65c_remove_915e3_17 rfl (fun ls hl => ?_)
  refine rw_aload_n hX hl 2 rfl (Or.inr ⟨_, rfl⟩) dJx4a65c_remove_915e3_18 rfl ?_
  refine rw_aload_n hX hl 1 rfl (Or.inr ⟨_, rfl⟩) dJx4a65c_remove_915e3_19 rfl ?_
  refine rw_iload_n hX hl 3 rfl dJx4a65c_remove_915e3_20 rfl ?_
  refine hc_Vv hX hS21 pkK_fr (mc := 0) (ms := 0) ⟨rfl, rfl, (show 3 + 1 ≤ 14 by omega), (show 8 + (4 + 11) + 64 * 3 ≤ 64 * 14 by omega)⟩ (As := [.ref ar, .int (nI i)]) (rest := []) rfl (K_fr l γ _ hat hA har hne hAr hel hya hi hnc hcap) gw_499 gw_501 gs_24 (va_recv hX.2.1 (rs_P hat) (q0 := 0) (ci := 0) (q := (RJx4a65c, TJx4a65c, 3)) rfl rfl) rfl hl ca0 (Nat.le_of_ble_eq_true rfl) dJx4a65c_remove_915e3_21 ⟨(show 0 + 0 ≤ 0 by omega), (show 0 + 0 ≤ 0 by omega)⟩ (fun H22 locs22 hB22 hS22 => ?_)
  obtain ⟨g1, g2, g3⟩ := hB22
  refine rw_aload_n hX hl 0 rfl (Or.inr ⟨_, rfl⟩) dJx4a65c_remove_915e3_24 rfl ?_
  exact he_q hX hS22 hr (Or.inl ⟨_, rfl⟩) (v := some v) rfl ⟨rfl, g1, g2, g3⟩ dJx4a65c_remove_915e3_25 hlocks
theorem pkK_ci : PKV yJxa1e45_init_da8c8 cJxa1e45_init_da8c8 1 (Option.none : Option Jvm.ClassFile.FieldType) 0 := ⟨gw_2, gw_43, by decide, by decide, by decide +kernel⟩
set_option maxHeartbeats 1000000 in
theorem K_ci (l : Launch) (γ : GT) (H0 : Heap) {a : Nat} : Met l yJxa1e45_init_da8c8 (Cond.code yJxa1e45_init_da8c8 cJxa1e45_init_da8c8 1 (Option.none : Option Jvm.ClassFile.FieldType) :: GW) (rmo 2 0 0) (va_Pc [.ref a] (PR γ (fun h => h = H0))) (PV γ (fun h => h = H0)) 0 0 (gA γ) := by
  refine va_MetF (cc := cJxa1e45_init_da8c8) (maxL := 1) (ret := (Option.none : Option Jvm.ClassFile.FieldType)) (by decide +kernel) rfl ?_
  intro p e s m args below meth c s₁ B hml hv
  obtain ⟨rfl, hU⟩ := hv
  have hX := cx_ofP (own := RJxa1e45) B hml rfl hU
  obtain ⟨hh, -, -⟩ := hU
  subst hh
  have hS : va_S (gA γ) s.heap s.heap [] := va_S.rf
  have hr := B.returns
  have hlocks := B.notSynchronized
  refine (show W p l e (rmo 2 0 0) s m ([.ref a] : List Value).toArray below meth c s.heap [] 0 0 (MQ below (PV γ (fun h => h = s.heap)) ([.ref a] : List Value).toArray s 0 0 (gA γ)) (entryFrame m ([.ref a] : List Value).toArray 1) from ?_)
  refine rw_entry (ca1 rfl ca0) (Nat.le_of_ble_eq_true rfl) (fun ls hl => ?_)
  refine rw_aload_n hX hl 0 rfl (Or.inr ⟨_, rfl⟩) dJxa1e45_init_da8c8_0 rfl ?_
  refine W.objInit hX.1.1 hX.1.2.1 hX.1.2.2.2.1 (hX.1.2.2.2.2 _ gw_44) (hX.1.2.2.2.2 _ gw_31) (hX.1.2.2.2.2 _ gw_32) rfl (hl.1.1.trans hX.1.2.2.1.symm) rfl dJxa1e45_init_da8c8_1 (Nat.le_of_ble_eq_true rfl) (Nat.le_of_ble_eq_true rfl) ?_
  exact he_v hX hS hr rfl dJxa1e45_init_da8c8_4 hlocks
theorem pkK_bi : PKV yJxc12de_init_da8c8 cJxc12de_init_da8c8 1 (Option.none : Option Jvm.ClassFile.FieldType) 0 := ⟨gw_3, gw_40, by decide, by decide, by decide +kernel⟩
set_option maxHeartbeats 1000000 in
theorem K_bi (l : Launch) (γ : GT) (H0 : Heap) {a : Nat} {v1 v2 : Value} (hat : va_at (gD γ) vwCl (a, .inr (0, [.int 0, v1, v2])) H0) (hA : gB γ ≤ a) : Met l yJxc12de_init_da8c8 (Cond.code yJxc12de_init_da8c8 cJxc12de_init_da8c8 1 (Option.none : Option Jvm.ClassFile.FieldType) :: GW) (rmo 3 0 0) (va_Pc [.ref a] (PR γ (fun h => h = H0))) (PV γ (fun h => va_at (gD γ) vwCl (a, .inr (0, [.int 0, v1, v2])) h ∧ Sm H0 h (fun x => x = a) ∧ h.size = H0.size)) 0 0 (gA γ) := by
  refine va_MetF (cc := cJxc12de_init_da8c8) (maxL := 1) (ret := (Option.none : Option Jvm.ClassFile.FieldType)) (by decide +kernel) rfl ?_
  intro p e s m args below meth c s₁ B hml hv
  obtain ⟨rfl, hU⟩ := hv
  have hX := cx_ofP (own := RJxc12de) B hml rfl hU
  obtain ⟨hh, -, -⟩ := hU
  subst hh
  have hS : va_S (gA γ) s.heap s.heap [] := va_S.rf
  have hr := B.returns
  have hlocks := B.notSynchronized
  refine (show W p l e (rmo 3 0 0) s m ([.ref a] : List Value).toArray below meth c s.heap [] 0 0 (MQ below (PV γ (fun h => va_at (gD γ) vwCl (a, .inr (0, [.int 0, v1, v2])) h ∧ Sm s.heap h (fun x => x = a) ∧ h.size = s.heap.size)) ([.ref a] : List Value).toArray s 0 0 (gA γ)) (entryFrame m ([.ref a] : List Value).toArray 1) from ?_)
  refine rw_entry (ca1 rfl ca0) (Nat.le_of_ble_eq_true rfl) (fun ls hl => ?_)
  refine rw_aload_n hX hl 0 rfl (Or.inr ⟨_, rfl⟩) dJxc12de_init_da8c8_0 rfl ?_
  refine hc_I hX hS pkK_ci (mc := 0) (ms := 0) ⟨rfl, rfl, (show 2 + 1 ≤ 3 by omega), (show 8 + (1 + 11) + 64 * 2 ≤ 64 * 3 by omega)⟩ (As := []) (rest := []) rfl (K_ci l γ _) gw_41 gw_42 rfl rfl hl ca0 (Nat.le_of_ble_eq_true rfl) dJxc12de_init_da8c8_1 ⟨(show 0 + 0 ≤ 0 by omega), (show 0 + 0 ≤ 0 by omega)⟩ (fun H21 locs21 hB21 hS21 => ?_)
  subst hB21
  refine rw_aload_n hX hl 0 rfl (Or.inr ⟨_, rfl⟩) dJxc12de_init_da8c8_4 rfl ?_
  refine lv_iconst (v := 0) hX.1.1 hX.1.2.1 dJxc12de_init_da8c8_5 (by decide) ?_
  refine hr_put hX hS21 (k := 0) (j := 0) (v := .int 0) hat hA (C := RJx4a65c) (T := TJx4a65c) (N := 3) rfl (by decide) uw_Jx4a65c tyJx4a65c tyJx4a65c_ok nmJx4a65c gw_49 (fun _ h => h) rfl rfl rfl rfl (Nat.le_of_ble_eq_true rfl) dJxc12de_init_da8c8_6 (fun H22 locs22 hat22 hsm22 hz22 hS22 => ?_)
  exact he_v hX hS22 hr ⟨hat22, hsm22, hz22⟩ dJxc12de_init_da8c8_9 hlocks
theorem pkK_ai : PKV yJx4a65c_init_da8c8 cJx4a65c_init_da8c8 1 (Option.none : Option Jvm.ClassFile.FieldType) 0 := ⟨gw_4, gw_37, by decide, by decide, by decide +kernel⟩
set_option maxHeartbeats 1000000 in
theorem K_ai (l : Launch) (γ : GT) (H0 : Heap) {a : Nat} {v1 v2 : Value} (hat : va_at (gD γ) vwCl (a, .inr (0, [.int 0, v1, v2])) H0) (hA : gB γ ≤ a) : Met l yJx4a65c_init_da8c8 (Cond.code yJx4a65c_init_da8c8 cJx4a65c_init_da8c8 1 (Option.none : Option Jvm.ClassFile.FieldType) :: GW) (rmo 4 0 0) (va_Pc [.ref a] (PR γ (fun h => h = H0))) (PV γ (fun h => va_at (gD γ) vwCl (a, .inr (0, [.int 0, .ref (gE γ), v2])) h ∧ Sm H0 h (fun x => x = a) ∧ h.size = H0.size)) 0 0 (gA γ) := by
  refine va_MetF (cc := cJx4a65c_init_da8c8) (maxL := 1) (ret := (Option.none : Option Jvm.ClassFile.FieldType)) (by decide +kernel) rfl ?_
  intro p e s m args below meth c s₁ B hml hv
  obtain ⟨rfl, hU⟩ := hv
  have hX := cx_ofP (own := RJx4a65c) B hml rfl hU
  obtain ⟨hh, -, -⟩ := hU
  subst hh
  have hS : va_S (gA γ) s.heap s.heap [] := va_S.rf
  have hr := B.returns
  have hlocks := B.notSynchronized
  refine (show W p l e (rmo 4 0 0) s m ([.ref a] : List Value).toArray below meth c s.heap [] 0 0 (MQ below (PV γ (fun h => va_at (gD γ) vwCl (a, .inr (0, [.int 0, .ref (gE γ), v2])) h ∧ Sm s.heap h (fun x => x = a) ∧ h.size = s.heap.size)) ([.ref a] : List Value).toArray s 0 0 (gA γ)) (entryFrame m ([.ref a] : List Value).toArray 1) from ?_)
  refine rw_entry (ca1 rfl ca0) (Nat.le_of_ble_eq_true rfl) (fun ls hl => ?_)
  refine rw_aload_n hX hl 0 rfl (Or.inr ⟨_, rfl⟩) dJx4a65c_init_da8c8_0 rfl ?_
  refine hc_I hX hS pkK_bi (mc := 0) (ms := 0) ⟨rfl, rfl, (show 3 + 1 ≤ 4 by omega), (show 8 + (1 + 11) + 64 * 3 ≤ 64 * 4 by omega)⟩ (As := []) (rest := []) rfl (K_bi l γ _ hat hA) gw_38 gw_39 rfl rfl hl ca0 (Nat.le_of_ble_eq_true rfl) dJx4a65c_init_da8c8_1 ⟨(show 0 + 0 ≤ 0 by omega), (show 0 + 0 ≤ 0 by omega)⟩ (fun H21 locs21 hB21 hS21 => ?_)
  obtain ⟨g1, g2, g3⟩ := hB21
  refine rw_aload_n hX hl 0 rfl (Or.inr ⟨_, rfl⟩) dJx4a65c_init_da8c8_4 rfl ?_
  refine va_gets hX.1.1 hX.1.2.1 hX.2.2.2.2.2.2.2.2.1 hS21 hX.1.2.2.2.1 (hX.1.2.2.2.2 _ gw_45) (fun _ h => h) dJx4a65c_init_da8c8_5 ?_
  refine hr_put hX hS21 (k := 0) (j := 1) (v := .ref (gE γ)) g1 hA (C := RJx4a65c) (T := TJx4a65c) (N := 3) rfl (by decide) uw_Jx4a65c tyJx4a65c tyJx4a65c_ok nmJx4a65c gw_47 (fun _ h => h) rfl rfl rfl rfl (Nat.le_of_ble_eq_true rfl) dJx4a65c_init_da8c8_8 (fun H22 locs22 hat22 hsm22 hz22 hS22 => ?_)
  exact he_v hX hS22 hr ⟨hat22, g2.trans hsm22 (fun _ _ z => z) (fun _ _ z => z), hz22.trans g3⟩ dJx4a65c_init_da8c8_11 hlocks
