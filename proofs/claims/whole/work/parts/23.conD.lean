/-! ===== the class's constructor, over a raw world (laid by program) ===== -/
theorem HW.app {γ : GT} {A A2 : Nat → Prop} {ws ws2 : va_W} {H H2 : Heap} (h : HW γ A ws H) (h2 : HW γ A2 ws2 H2) (hsm : Sm H H2 (fun _ => False)) (k1 : ∀ q, A2 q → H.size ≤ q) (k2 : ∀ q, H.size ≤ q → A q) : HW γ A (ws ++ ws2) H2 := by
  refine ⟨(h.1.kept fun k q hk => hsm.2 q.1 (h.1 k q hk).lt id).app h2.1, va_D.app h.2 (h2.2.weaken fun _ q _ z => k2 _ (k1 _ z)) (fun i j p q hp hq e => ?_)⟩
  have h3 := (h.1 i p hp).lt
  have h4 := k1 _ (h2.2.2 j q hq)
  omega
theorem HW.putP {γ : GT} {A P : Nat → Prop} {ws : va_W} {H H1 : Heap} {x x' : va_E} {k a : Nat} (h : HW γ A ws H) (hk : ws[k]? = some (a, x)) (hat : va_at (gD γ) vwCl (a, x') H1) (hsm : Sm H H1 P) (hP : ∀ (j : Nat) (c : Nat × va_E), ws[j]? = some c → c.1 ≠ a → ¬ P c.1) : HW γ A (ws.set k (a, x')) H1 := by
  refine ⟨fun j q hq => ?_, h.2.set hk⟩
  by_cases hjk : k = j
  · subst hjk
    rw [List.getElem?_set_self (List.getElem?_eq_some_iff.mp hk).1] at hq
    cases hq
    exact hat
  · rw [List.getElem?_set_ne hjk] at hq
    exact (h.1 j q hq).kept (hsm.2 q.1 (h.1 j q hq).lt (hP j q hq (fun z => hjk (h.2.1 k j _ _ hk hq z.symm))))
section HR3
variable {p : Program} {l : Launch} {e : Env} {R : Room} {s : State} {m : MethodId} {args : Array Value} {below : List Frame} {meth : Method} {c : Code} {H : Heap} {locs : List Loc} {cells slots : Nat} {Q : State → Prop}
variable {pc : Nat} {ls : Array Slot} {rest : List Value} {cc : ByteArray} {γ : GT} {nL : Nat} {own : String} {lv : List (Nat × Value)}
variable {y : MethodName} {bytes : ByteArray} {maxL mc ms n index : Nat} {ret : Option FieldType} {rm : Room} {C host : String} {b : Addr} {As : List Value} {st0 : List Value}
theorem hc_IN (hX : CX γ p s m args c cc nL own) (hS : va_S (gA γ) s.heap H locs) (pk : PKV y bytes maxL none n) (hrm : rm.cells = mc ∧ rm.slots = ms ∧ rm.frames + 1 ≤ R.frames ∧ 8 + (maxL + 11) + rm.locals ≤ R.locals) (hst : st0 = (As.reverse ++ .ref b :: rest)) {B : Heap → Prop} (hM : Met l y (Cond.code y bytes maxL none :: GW) rm (va_Pc (.ref b :: As) (PR γ (fun h => h = H))) (PV γ B) mc ms (gA γ))
    (wl : Cond.methodLinkNest own index y host ∈ NW) (wi : Cond.instanceMethod y ∈ GW) (hy1 : y.name = "<init>") (hn : As.length = n) (hls : lh ls nL lv) (hcat : ∀ v ∈ rest, v.category = 1) (hl8 : rest.length ≤ 8) (hd : decode cc pc = .ok (.invokespecial index, 3)) (hf : cells + mc ≤ R.cells ∧ slots + ms ≤ R.slots)
    (kk : ∀ (H1 : Heap) (locs1 : List Loc), B H1 → va_S (gA γ) s.heap H1 locs1 → W p l e R s m args below meth c H1 locs1 (cells + mc) (slots + ms) Q (F0 m (pc + 3) ls rest)) : W p l e R s m args below meth c H locs cells slots Q (F0 m pc ls st0) := by
  subst hst
  exact va_callv (va_runIN hX.1 hM ⟨rw_BN hX pk hrm wl, hy1, hX.1.2.2.2.2 _ wi⟩ ⟨blindP, hw_pre hX hS⟩ rfl hn hls.1.1 rfl (lv_room (cats_le hcat hl8)) hd hf) hS (fun _ _ h => h) (fun _ h => h) fun _ t H1 locs1 ht _ _ hB _ _ hS => kk H1 locs1 (by rw [← ht]; exact hB) hS
end HR3
/-- the class's cells when it is new: its lists, its strikes, its log; n slots in the sixth list, whose array is ar -/
def dmW (γ : GT) (a : Nat) (q : Nat → Nat) (ar n : Nat) : va_W := [(a, .inr (7, [.ref (q 0), .ref (q 1), .ref (q 2), .ref (q 3), .ref (q 4), .ref (q 5), .ref (q 6), .ref (q 7), .int 0, .int 0, .int 0])), (q 0, .inr (0, [.int 0, .ref (gE γ), .int 0])), (q 1, .inr (0, [.int 0, .ref (gE γ), .int 0])), (q 2, .inr (0, [.int 0, .ref (gE γ), .int 0])), (q 3, .inr (0, [.int 0, .ref (gE γ), .int 0])), (q 4, .inr (0, [.int 0, .ref (gE γ), .int 0])), (q 5, .inr (0, [.int (nI n), .ref ar, .int (nI n)])), (q 6, .inl (gcI γ, 8, .inl fun _ => 0)), (q 7, .inr (4, [.ref (q 8), .ref (q 9), .int 0])), (q 8, .inl (gcI γ, 20, .inl fun _ => 0)), (q 9, .inl (gcI γ, 20, .inl fun _ => 0))]
/-- the slots' list with n slots: its array, the slots, all from z on -/
def dmS (γ : GT) (z ar cap : Nat) (L : List Nat) (H : Heap) : Prop :=
  LA γ ar cap (fun j => L[j]?) H ∧ L.length ≤ cap ∧ cap ≤ 1000 ∧ (cap = 0 → ar = gE γ) ∧ (0 < cap → z ≤ ar) ∧ (∀ (j : Nat) y, L[j]? = some y → va_at (gD γ) vwCl (y, .inr (6, [.null, .int 0])) H ∧ z ≤ y ∧ y ≠ ar) ∧ L.Nodup
theorem pkK_dm : PKV yX6_init cX6_init 2 (Option.none : Option Jvm.ClassFile.FieldType) 0 := ⟨gw_1, gw_29, by decide, by decide, by decide +kernel⟩
set_option maxHeartbeats 8000000 in
set_option maxRecDepth 100000 in
theorem K_dm (l : Launch) (γ : GT) (H0 : Heap) {a : Nat} (hat : va_at (gD γ) vwCl (a, .inr (7, [.null, .null, .null, .null, .null, .null, .null, .null, .int 0, .int 0, .int 0])) H0) (hA : gB γ ≤ a) : Met l yX6_init (Cond.code yX6_init cX6_init 2 (Option.none : Option Jvm.ClassFile.FieldType) :: GW) (rmo 16 42 3781) (va_Pc [.ref a] (PR γ (fun h => h = H0))) (PV γ (fun h => ∃ (q : Nat → Nat) (z ar cap : Nat) (L : List Nat), L.length = 16 ∧ HW γ (fun x => x = a ∨ H0.size ≤ x) (dmW γ a q ar 16) h ∧ dmS γ z ar cap L h ∧ (∀ (k : Nat) (c : Nat × va_E), (dmW γ a q ar 16)[k]? = some c → c.1 < z) ∧ H0.size ≤ z ∧ Sm H0 h (fun x => x = a))) 42 3781 (gA γ) := by
  refine Met.ofW (cc := cX6_init) (maxL := 2) (ret := (Option.none : Option Jvm.ClassFile.FieldType)) (by decide +kernel) rfl ?_
  intro p e s m args below meth c s₁ B hml hv
  obtain ⟨rfl, hU⟩ := hv
  have hX := cx_ofP (own := RX6) B hml rfl hU
  obtain ⟨hh, -, -⟩ := hU
  subst hh
  have hS : va_S (gA γ) s.heap s.heap [] := va_S.rf
  have hr := B.returns
  have hlocks := B.notSynchronized
  refine (show W p l e (rmo 16 42 3781) s m ([.ref a] : List Value).toArray below meth c s.heap [] 0 0 (MQ below (PV γ (fun h => ∃ (q : Nat → Nat) (z ar cap : Nat) (L : List Nat), L.length = 16 ∧ HW γ (fun x => x = a ∨ s.heap.size ≤ x) (dmW γ a q ar 16) h ∧ dmS γ z ar cap L h ∧ (∀ (k : Nat) (c : Nat × va_E), (dmW γ a q ar 16)[k]? = some c → c.1 < z) ∧ s.heap.size ≤ z ∧ Sm s.heap h (fun x => x = a))) ([.ref a] : List Value).toArray s 42 3781 (gA γ)) (entryFrame m ([.ref a] : List Value).toArray 2) from ?_)
  refine rw_entry (ca1 rfl ca0) (Nat.le_of_ble_eq_true rfl) (fun ls hl => ?_)
  have hin := (name_of_methodNamed B.named B.method).1
  have hgb : gB γ ≤ s.heap.size := hX.2.2.2.2.2.2.2.2.2.2.2
  have hW0 : HW γ (fun q => q = a ∨ s.heap.size ≤ q) [(a, .inr (7, [.null, .null, .null, .null, .null, .null, .null, .null, .int 0, .int 0, .int 0]))] s.heap := ⟨rs_P hat, ⟨fun i j p q h1 h2 _ => by have := (List.getElem?_eq_some_iff.mp h1).1; have := (List.getElem?_eq_some_iff.mp h2).1; simp at *; omega, fun k q h => by have hk : k < 1 := (List.getElem?_eq_some_iff.mp h).1; rw [show k = 0 by omega] at h; cases h; exact Or.inl rfl⟩⟩
  have hsm0 : Sm s.heap s.heap (fun q => q = a) := Sm.rf
  have halt : a < s.heap.size := hat.lt
  refine rw_aload_n hX hl 0 rfl (Or.inr ⟨_, rfl⟩) dX6_init_0 rfl ?_
  refine W.objInit hX.1.1 hX.1.2.1 hX.1.2.2.2.1 (hX.1.2.2.2.2 _ gw_30) (hX.1.2.2.2.2 _ gw_31) (hX.1.2.2.2.2 _ gw_32) rfl (hl.1.1.trans hX.1.2.2.1.symm) rfl dX6_init_1 (Nat.le_of_ble_eq_true rfl) (Nat.le_of_ble_eq_true rfl) ?_
  refine rw_aload_n hX hl 0 rfl (Or.inr ⟨_, rfl⟩) dX6_init_4 rfl ?_
  refine hr_new hX hS (ci := 0) (fs := [.int 0, .null, .int 0]) (C := RJx4a65c) (T := TJx4a65c) (N := 3) rfl uw_Jx4a65c tyJx4a65c tyJx4a65c_ok (fun j hj => match j, hj with | 0, _ => rfl | 1, _ => rfl | 2, _ => rfl) gw_33 gw_34 gw_4 ⟨(show 0 + 1 ≤ 42 by omega), (show 0 + 3 ≤ 3781 by omega)⟩ dX6_init_5 (fun H21 hat21 hsm21 hz21 hS21 => ?_)
  refine lv_dup hX.1.1 hX.1.2.1 dX6_init_8 rfl ?_
  refine hc_I hX hS21 pkK_ai (mc := 0) (ms := 0) ⟨rfl, rfl, (show 4 + 1 ≤ 16 by omega), (show 8 + (1 + 11) + 64 * 4 ≤ 64 * 16 by omega)⟩ (As := []) (rest := [.ref (s.heap.size), .ref a]) rfl (K_ai l γ _ hat21 (by show gB γ ≤ _; omega)) gw_35 gw_36 rfl rfl hl (ca1 rfl (ca1 rfl ca0)) (Nat.le_of_ble_eq_true rfl) dX6_init_9 ⟨(show 1 + 0 ≤ 42 by omega), (show 3 + 0 ≤ 3781 by omega)⟩ (fun H22 locs22 hB22 hS22 => ?_)
  obtain ⟨hat22, hsm22, hz22⟩ := hB22
  replace hsm22 := hsm21.trans hsm22 (P := fun _ => False) (fun _ _ z => z) (fun x hx z => absurd hx (by have : x = s.heap.size := z; omega))
  have hWp := HW.push hW0 hat22 hsm22 (Or.inr (by omega))
  refine hr_putF hX hS22 (k := 7) (j := 0) (v := .ref (s.heap.size)) (hWp.at 0 rfl) hA (C := RX6) (T := TX6) (N := 11) rfl (by decide) uw_X6 tyX6 tyX6_ok nmX6 gw_149 rfl rfl hin rfl rfl rfl rfl (Nat.le_of_ble_eq_true rfl) dX6_init_12 (fun H23 locs23 hat23 hsm23 hz23 hS23 => ?_)
  have hW23 : HW γ (fun q => q = a ∨ s.heap.size ≤ q) [(a, .inr (7, [.ref (s.heap.size), .null, .null, .null, .null, .null, .null, .null, .int 0, .int 0, .int 0])), (s.heap.size, .inr (0, [.int 0, .ref (gE γ), .int 0]))] H23 := hWp.put (k := 0) rfl hat23 hsm23
  clear hWp
  replace hsm23 : Sm s.heap H23 (fun q => q = a) := (hsm0.trans hsm22 (P := fun q => q = a) (fun _ _ z => z) (fun _ _ z => z.elim)).trans hsm23 (fun _ _ z => z) (fun _ _ z => z)
  have hle23 : s.heap.size ≤ H23.size := by omega
  refine rw_aload_n hX hl 0 rfl (Or.inr ⟨_, rfl⟩) dX6_init_15 rfl ?_
  refine hr_new hX hS23 (ci := 0) (fs := [.int 0, .null, .int 0]) (C := RJx4a65c) (T := TJx4a65c) (N := 3) rfl uw_Jx4a65c tyJx4a65c tyJx4a65c_ok (fun j hj => match j, hj with | 0, _ => rfl | 1, _ => rfl | 2, _ => rfl) gw_33 gw_34 gw_4 ⟨(show 1 + 1 ≤ 42 by omega), (show 3 + 3 ≤ 3781 by omega)⟩ dX6_init_16 (fun H24 hat24 hsm24 hz24 hS24 => ?_)
  refine lv_dup hX.1.1 hX.1.2.1 dX6_init_19 rfl ?_
  refine hc_I hX hS24 pkK_ai (mc := 0) (ms := 0) ⟨rfl, rfl, (show 4 + 1 ≤ 16 by omega), (show 8 + (1 + 11) + 64 * 4 ≤ 64 * 16 by omega)⟩ (As := []) (rest := [.ref (H23.size), .ref a]) rfl (K_ai l γ _ hat24 (by show gB γ ≤ _; omega)) gw_35 gw_36 rfl rfl hl (ca1 rfl (ca1 rfl ca0)) (Nat.le_of_ble_eq_true rfl) dX6_init_20 ⟨(show 2 + 0 ≤ 42 by omega), (show 6 + 0 ≤ 3781 by omega)⟩ (fun H25 locs25 hB25 hS25 => ?_)
  obtain ⟨hat25, hsm25, hz25⟩ := hB25
  replace hsm25 := hsm24.trans hsm25 (P := fun _ => False) (fun _ _ z => z) (fun x hx z => absurd hx (by have : x = H23.size := z; omega))
  have hWp := HW.push hW23 hat25 hsm25 (Or.inr (by omega))
  refine hr_putF hX hS25 (k := 7) (j := 1) (v := .ref (H23.size)) (hWp.at 0 rfl) hA (C := RX6) (T := TX6) (N := 11) rfl (by decide) uw_X6 tyX6 tyX6_ok nmX6 gw_150 rfl rfl hin rfl rfl rfl rfl (Nat.le_of_ble_eq_true rfl) dX6_init_23 (fun H26 locs26 hat26 hsm26 hz26 hS26 => ?_)
  have hW26 : HW γ (fun q => q = a ∨ s.heap.size ≤ q) [(a, .inr (7, [.ref (s.heap.size), .ref (H23.size), .null, .null, .null, .null, .null, .null, .int 0, .int 0, .int 0])), (s.heap.size, .inr (0, [.int 0, .ref (gE γ), .int 0])), (H23.size, .inr (0, [.int 0, .ref (gE γ), .int 0]))] H26 := hWp.put (k := 0) rfl hat26 hsm26
  clear hWp
  replace hsm26 : Sm s.heap H26 (fun q => q = a) := (hsm23.trans hsm25 (P := fun q => q = a) (fun _ _ z => z) (fun _ _ z => z.elim)).trans hsm26 (fun _ _ z => z) (fun _ _ z => z)
  have hle26 : s.heap.size ≤ H26.size := by omega
  refine rw_aload_n hX hl 0 rfl (Or.inr ⟨_, rfl⟩) dX6_init_26 rfl ?_
  refine hr_new hX hS26 (ci := 0) (fs := [.int 0, .null, .int 0]) (C := RJx4a65c) (T := TJx4a65c) (N := 3) rfl uw_Jx4a65c tyJx4a65c tyJx4a65c_ok (fun j hj => match j, hj with | 0, _ => rfl | 1, _ => rfl | 2, _ => rfl) gw_33 gw_34 gw_4 ⟨(show 2 + 1 ≤ 42 by omega), (show 6 + 3 ≤ 3781 by omega)⟩ dX6_init_27 (fun H27 hat27 hsm27 hz27 hS27 => ?_)
  refine lv_dup hX.1.1 hX.1.2.1 dX6_init_30 rfl ?_
  refine hc_I hX hS27 pkK_ai (mc := 0) (ms := 0) ⟨rfl, rfl, (show 4 + 1 ≤ 16 by omega), (show 8 + (1 + 11) + 64 * 4 ≤ 64 * 16 by omega)⟩ (As := []) (rest := [.ref (H26.size), .ref a]) rfl (K_ai l γ _ hat27 (by show gB γ ≤ _; omega)) gw_35 gw_36 rfl rfl hl (ca1 rfl (ca1 rfl ca0)) (Nat.le_of_ble_eq_true rfl) dX6_init_31 ⟨(show 3 + 0 ≤ 42 by omega), (show 9 + 0 ≤ 3781 by omega)⟩ (fun H28 locs28 hB28 hS28 => ?_)
  obtain ⟨hat28, hsm28, hz28⟩ := hB28
  replace hsm28 := hsm27.trans hsm28 (P := fun _ => False) (fun _ _ z => z) (fun x hx z => absurd hx (by have : x = H26.size := z; omega))
  have hWp := HW.push hW26 hat28 hsm28 (Or.inr (by omega))
  refine hr_putF hX hS28 (k := 7) (j := 2) (v := .ref (H26.size)) (hWp.at 0 rfl) hA (C := RX6) (T := TX6) (N := 11) rfl (by decide) uw_X6 tyX6 tyX6_ok nmX6 gw_151 rfl rfl hin rfl rfl rfl rfl (Nat.le_of_ble_eq_true rfl) dX6_init_34 (fun H29 locs29 hat29 hsm29 hz29 hS29 => ?_)
  have hW29 : HW γ (fun q => q = a ∨ s.heap.size ≤ q) [(a, .inr (7, [.ref (s.heap.size), .ref (H23.size), .ref (H26.size), .null, .null, .null, .null, .null, .int 0, .int 0, .int 0])), (s.heap.size, .inr (0, [.int 0, .ref (gE γ), .int 0])), (H23.size, .inr (0, [.int 0, .ref (gE γ), .int 0])), (H26.size, .inr (0, [.int 0, .ref (gE γ), .int 0]))] H29 := hWp.put (k := 0) rfl hat29 hsm29
  clear hWp
  replace hsm29 : Sm s.heap H29 (fun q => q = a) := (hsm26.trans hsm28 (P := fun q => q = a) (fun _ _ z => z) (fun _ _ z => z.elim)).trans hsm29 (fun _ _ z => z) (fun _ _ z => z)
  have hle29 : s.heap.size ≤ H29.size := by omega
  refine rw_aload_n hX hl 0 rfl (Or.inr ⟨_, rfl⟩) dX6_init_37 rfl ?_
  refine hr_new hX hS29 (ci := 0) (fs := [.int 0, .null, .int 0]) (C := RJx4a65c) (T := TJx4a65c) (N := 3) rfl uw_Jx4a65c tyJx4a65c tyJx4a65c_ok (fun j hj => match j, hj with | 0, _ => rfl | 1, _ => rfl | 2, _ => rfl) gw_33 gw_34 gw_4 ⟨(show 3 + 1 ≤ 42 by omega), (show 9 + 3 ≤ 3781 by omega)⟩ dX6_init_38 (fun H30 hat30 hsm30 hz30 hS30 => ?_)
  refine lv_dup hX.1.1 hX.1.2.1 dX6_init_41 rfl ?_
  refine hc_I hX hS30 pkK_ai (mc := 0) (ms := 0) ⟨rfl, rfl, (show 4 + 1 ≤ 16 by omega), (show 8 + (1 + 11) + 64 * 4 ≤ 64 * 16 by omega)⟩ (As := []) (rest := [.ref (H29.size), .ref a]) rfl (K_ai l γ _ hat30 (by show gB γ ≤ _; omega)) gw_35 gw_36 rfl rfl hl (ca1 rfl (ca1 rfl ca0)) (Nat.le_of_ble_eq_true rfl) dX6_init_42 ⟨(show 4 + 0 ≤ 42 by omega), (show 12 + 0 ≤ 3781 by omega)⟩ (fun H31 locs31 hB31 hS31 => ?_)
  obtain ⟨hat31, hsm31, hz31⟩ := hB31
  replace hsm31 := hsm30.trans hsm31 (P := fun _ => False) (fun _ _ z => z) (fun x hx z => absurd hx (by have : x = H29.size := z; omega))
  have hWp := HW.push hW29 hat31 hsm31 (Or.inr (by omega))
  refine hr_putF hX hS31 (k := 7) (j := 3) (v := .ref (H29.size)) (hWp.at 0 rfl) hA (C := RX6) (T := TX6) (N := 11) rfl (by decide) uw_X6 tyX6 tyX6_ok nmX6 gw_152 rfl rfl hin rfl rfl rfl rfl (Nat.le_of_ble_eq_true rfl) dX6_init_45 (fun H32 locs32 hat32 hsm32 hz32 hS32 => ?_)
  have hW32 : HW γ (fun q => q = a ∨ s.heap.size ≤ q) [(a, .inr (7, [.ref (s.heap.size), .ref (H23.size), .ref (H26.size), .ref (H29.size), .null, .null, .null, .null, .int 0, .int 0, .int 0])), (s.heap.size, .inr (0, [.int 0, .ref (gE γ), .int 0])), (H23.size, .inr (0, [.int 0, .ref (gE γ), .int 0])), (H26.size, .inr (0, [.int 0, .ref (gE γ), .int 0])), (H29.size, .inr (0, [.int 0, .ref (gE γ), .int 0]))] H32 := hWp.put (k := 0) rfl hat32 hsm32
  clear hWp
  replace hsm32 : Sm s.heap H32 (fun q => q = a) := (hsm29.trans hsm31 (P := fun q => q = a) (fun _ _ z => z) (fun _ _ z => z.elim)).trans hsm32 (fun _ _ z => z) (fun _ _ z => z)
  have hle32 : s.heap.size ≤ H32.size := by omega
  refine rw_aload_n hX hl 0 rfl (Or.inr ⟨_, rfl⟩) dX6_init_48 rfl ?_
  refine hr_new hX hS32 (ci := 0) (fs := [.int 0, .null, .int 0]) (C := RJx4a65c) (T := TJx4a65c) (N := 3) rfl uw_Jx4a65c tyJx4a65c tyJx4a65c_ok (fun j hj => match j, hj with | 0, _ => rfl | 1, _ => rfl | 2, _ => rfl) gw_33 gw_34 gw_4 ⟨(show 4 + 1 ≤ 42 by omega), (show 12 + 3 ≤ 3781 by omega)⟩ dX6_init_49 (fun H33 hat33 hsm33 hz33 hS33 => ?_)
  refine lv_dup hX.1.1 hX.1.2.1 dX6_init_52 rfl ?_
  refine hc_I hX hS33 pkK_ai (mc := 0) (ms := 0) ⟨rfl, rfl, (show 4 + 1 ≤ 16 by omega), (show 8 + (1 + 11) + 64 * 4 ≤ 64 * 16 by omega)⟩ (As := []) (rest := [.ref (H32.size), .ref a]) rfl (K_ai l γ _ hat33 (by show gB γ ≤ _; omega)) gw_35 gw_36 rfl rfl hl (ca1 rfl (ca1 rfl ca0)) (Nat.le_of_ble_eq_true rfl) dX6_init_53 ⟨(show 5 + 0 ≤ 42 by omega), (show 15 + 0 ≤ 3781 by omega)⟩ (fun H34 locs34 hB34 hS34 => ?_)
  obtain ⟨hat34, hsm34, hz34⟩ := hB34
  replace hsm34 := hsm33.trans hsm34 (P := fun _ => False) (fun _ _ z => z) (fun x hx z => absurd hx (by have : x = H32.size := z; omega))
  have hWp := HW.push hW32 hat34 hsm34 (Or.inr (by omega))
  refine hr_putF hX hS34 (k := 7) (j := 4) (v := .ref (H32.size)) (hWp.at 0 rfl) hA (C := RX6) (T := TX6) (N := 11) rfl (by decide) uw_X6 tyX6 tyX6_ok nmX6 gw_153 rfl rfl hin rfl rfl rfl rfl (Nat.le_of_ble_eq_true rfl) dX6_init_56 (fun H35 locs35 hat35 hsm35 hz35 hS35 => ?_)
  have hW35 : HW γ (fun q => q = a ∨ s.heap.size ≤ q) [(a, .inr (7, [.ref (s.heap.size), .ref (H23.size), .ref (H26.size), .ref (H29.size), .ref (H32.size), .null, .null, .null, .int 0, .int 0, .int 0])), (s.heap.size, .inr (0, [.int 0, .ref (gE γ), .int 0])), (H23.size, .inr (0, [.int 0, .ref (gE γ), .int 0])), (H26.size, .inr (0, [.int 0, .ref (gE γ), .int 0])), (H29.size, .inr (0, [.int 0, .ref (gE γ), .int 0])), (H32.size, .inr (0, [.int 0, .ref (gE γ), .int 0]))] H35 := hWp.put (k := 0) rfl hat35 hsm35
  clear hWp
  replace hsm35 : Sm s.heap H35 (fun q => q = a) := (hsm32.trans hsm34 (P := fun q => q = a) (fun _ _ z => z) (fun _ _ z => z.elim)).trans hsm35 (fun _ _ z => z) (fun _ _ z => z)
  have hle35 : s.heap.size ≤ H35.size := by omega
  refine rw_aload_n hX hl 0 rfl (Or.inr ⟨_, rfl⟩) dX6_init_59 rfl ?_
  refine hr_new hX hS35 (ci := 0) (fs := [.int 0, .null, .int 0]) (C := RJx4a65c) (T := TJx4a65c) (N := 3) rfl uw_Jx4a65c tyJx4a65c tyJx4a65c_ok (fun j hj => match j, hj with | 0, _ => rfl | 1, _ => rfl | 2, _ => rfl) gw_33 gw_34 gw_4 ⟨(show 5 + 1 ≤ 42 by omega), (show 15 + 3 ≤ 3781 by omega)⟩ dX6_init_60 (fun H36 hat36 hsm36 hz36 hS36 => ?_)
  refine lv_dup hX.1.1 hX.1.2.1 dX6_init_63 rfl ?_
  refine hc_I hX hS36 pkK_ai (mc := 0) (ms := 0) ⟨rfl, rfl, (show 4 + 1 ≤ 16 by omega), (show 8 + (1 + 11) + 64 * 4 ≤ 64 * 16 by omega)⟩ (As := []) (rest := [.ref (H35.size), .ref a]) rfl (K_ai l γ _ hat36 (by show gB γ ≤ _; omega)) gw_35 gw_36 rfl rfl hl (ca1 rfl (ca1 rfl ca0)) (Nat.le_of_ble_eq_true rfl) dX6_init_64 ⟨(show 6 + 0 ≤ 42 by omega), (show 18 + 0 ≤ 3781 by omega)⟩ (fun H37 locs37 hB37 hS37 => ?_)
  obtain ⟨hat37, hsm37, hz37⟩ := hB37
  replace hsm37 := hsm36.trans hsm37 (P := fun _ => False) (fun _ _ z => z) (fun x hx z => absurd hx (by have : x = H35.size := z; omega))
  have hWp := HW.push hW35 hat37 hsm37 (Or.inr (by omega))
  refine hr_putF hX hS37 (k := 7) (j := 5) (v := .ref (H35.size)) (hWp.at 0 rfl) hA (C := RX6) (T := TX6) (N := 11) rfl (by decide) uw_X6 tyX6 tyX6_ok nmX6 gw_154 rfl rfl hin rfl rfl rfl rfl (Nat.le_of_ble_eq_true rfl) dX6_init_67 (fun H38 locs38 hat38 hsm38 hz38 hS38 => ?_)
  have hW38 : HW γ (fun q => q = a ∨ s.heap.size ≤ q) [(a, .inr (7, [.ref (s.heap.size), .ref (H23.size), .ref (H26.size), .ref (H29.size), .ref (H32.size), .ref (H35.size), .null, .null, .int 0, .int 0, .int 0])), (s.heap.size, .inr (0, [.int 0, .ref (gE γ), .int 0])), (H23.size, .inr (0, [.int 0, .ref (gE γ), .int 0])), (H26.size, .inr (0, [.int 0, .ref (gE γ), .int 0])), (H29.size, .inr (0, [.int 0, .ref (gE γ), .int 0])), (H32.size, .inr (0, [.int 0, .ref (gE γ), .int 0])), (H35.size, .inr (0, [.int 0, .ref (gE γ), .int 0]))] H38 := hWp.put (k := 0) rfl hat38 hsm38
  clear hWp
  replace hsm38 : Sm s.heap H38 (fun q => q = a) := (hsm35.trans hsm37 (P := fun q => q = a) (fun _ _ z => z) (fun _ _ z => z.elim)).trans hsm38 (fun _ _ z => z) (fun _ _ z => z)
  have hle38 : s.heap.size ≤ H38.size := by omega
  refine rw_aload_n hX hl 0 rfl (Or.inr ⟨_, rfl⟩) dX6_init_70 rfl ?_
  refine lv_bipush (v := 8) hX.1.1 hX.1.2.1 dX6_init_71 (by decide) ?_
  refine hr_newI hX hS38 (N' := 8) gw_76 (by decide) (by decide) (by decide) ⟨(show 6 + 1 ≤ 42 by omega), (show 18 + 8 ≤ 3781 by omega)⟩ dX6_init_73 (fun H39 hat39 hsm39 hz39 hS39 => ?_)
  have hle39 : s.heap.size ≤ H39.size := by omega
  have hWp := HW.push hW38 hat39 hsm39 (Or.inr (by omega))
  refine hr_putF hX hS39 (k := 7) (j := 6) (v := .ref (H38.size)) (hWp.at 0 rfl) hA (C := RX6) (T := TX6) (N := 11) rfl (by decide) uw_X6 tyX6 tyX6_ok nmX6 gw_155 rfl rfl hin rfl rfl rfl rfl (Nat.le_of_ble_eq_true rfl) dX6_init_75 (fun H40 locs40 hat40 hsm40 hz40 hS40 => ?_)
  have hW40 : HW γ (fun q => q = a ∨ s.heap.size ≤ q) [(a, .inr (7, [.ref (s.heap.size), .ref (H23.size), .ref (H26.size), .ref (H29.size), .ref (H32.size), .ref (H35.size), .ref (H38.size), .null, .int 0, .int 0, .int 0])), (s.heap.size, .inr (0, [.int 0, .ref (gE γ), .int 0])), (H23.size, .inr (0, [.int 0, .ref (gE γ), .int 0])), (H26.size, .inr (0, [.int 0, .ref (gE γ), .int 0])), (H29.size, .inr (0, [.int 0, .ref (gE γ), .int 0])), (H32.size, .inr (0, [.int 0, .ref (gE γ), .int 0])), (H35.size, .inr (0, [.int 0, .ref (gE γ), .int 0])), (H38.size, .inl (gcI γ, 8, .inl fun _ => 0))] H40 := hWp.put (k := 0) rfl hat40 hsm40
  clear hWp
  replace hsm40 : Sm s.heap H40 (fun q => q = a) := (hsm38.trans hsm39 (P := fun q => q = a) (fun _ _ z => z) (fun _ _ z => z.elim)).trans hsm40 (fun _ _ z => z) (fun _ _ z => z)
  have hle40 : s.heap.size ≤ H40.size := by omega
  refine rw_aload_n hX hl 0 rfl (Or.inr ⟨_, rfl⟩) dX6_init_78 rfl ?_
  refine hr_new hX hS40 (ci := 4) (fs := [.null, .null, .int 0]) (C := RX3) (T := TX3) (N := 3) rfl uw_X3 tyX3 tyX3_ok (fun j hj => match j, hj with | 0, _ => rfl | 1, _ => rfl | 2, _ => rfl) gw_59 gw_60 gw_5 ⟨(show 7 + 1 ≤ 42 by omega), (show 26 + 3 ≤ 3781 by omega)⟩ dX6_init_79 (fun H41 hat41 hsm41 hz41 hS41 => ?_)
  refine lv_dup hX.1.1 hX.1.2.1 dX6_init_82 rfl ?_
  refine hc_IN hX hS41 pkK_lg (mc := 2) (ms := 40) ⟨rfl, rfl, (show 3 + 1 ≤ 16 by omega), (show 8 + (1 + 11) + 64 * 3 ≤ 64 * 16 by omega)⟩ (As := []) (rest := [.ref (H40.size), .ref a]) rfl (K_lg l γ _ hat41 (by show gB γ ≤ _; omega)) nw_61 gw_62 rfl rfl hl (ca1 rfl (ca1 rfl ca0)) (Nat.le_of_ble_eq_true rfl) dX6_init_83 ⟨(show 8 + 2 ≤ 42 by omega), (show 29 + 40 ≤ 3781 by omega)⟩ (fun H42 locs42 hB42 hS42 => ?_)
  obtain ⟨kk, uu, hG, hsm42⟩ := hB42
  replace hsm42 := hsm41.trans hsm42 (P := fun _ => False) (fun _ _ z => z) (fun x hx z => absurd hx (by have : x = H40.size := z; omega))
  have hWp : HW γ (fun q => q = a ∨ s.heap.size ≤ q) [(a, .inr (7, [.ref (s.heap.size), .ref (H23.size), .ref (H26.size), .ref (H29.size), .ref (H32.size), .ref (H35.size), .ref (H38.size), .null, .int 0, .int 0, .int 0])), (s.heap.size, .inr (0, [.int 0, .ref (gE γ), .int 0])), (H23.size, .inr (0, [.int 0, .ref (gE γ), .int 0])), (H26.size, .inr (0, [.int 0, .ref (gE γ), .int 0])), (H29.size, .inr (0, [.int 0, .ref (gE γ), .int 0])), (H32.size, .inr (0, [.int 0, .ref (gE γ), .int 0])), (H35.size, .inr (0, [.int 0, .ref (gE γ), .int 0])), (H38.size, .inl (gcI γ, 8, .inl fun _ => 0)), (H40.size, .inr (4, [.ref kk, .ref uu, .int 0])), (kk, .inl (gcI γ, 20, .inl fun _ => 0)), (uu, .inl (gcI γ, 20, .inl fun _ => 0))] H42 := HW.app hW40 hG hsm42 (fun x z => by rcases z with z | z <;> omega) (fun x z => Or.inr (by omega))
  have hszn : H40.size ≤ H42.size := hsm42.1
  refine hr_putF hX hS42 (k := 7) (j := 7) (v := .ref (H40.size)) (hWp.at 0 rfl) hA (C := RX6) (T := TX6) (N := 11) rfl (by decide) uw_X6 tyX6 tyX6_ok nmX6 gw_156 rfl rfl hin rfl rfl rfl rfl (Nat.le_of_ble_eq_true rfl) dX6_init_86 (fun H43 locs43 hat43 hsm43 hz43 hS43 => ?_)
  obtain ⟨qq, hq⟩ : ∃ qq : Nat → Nat, qq = fun i => match i with | 0 => s.heap.size | 1 => H23.size | 2 => H26.size | 3 => H29.size | 4 => H32.size | 5 => H35.size | 6 => H38.size | 7 => H40.size | 8 => kk | 9 => uu | _ => 0 := ⟨_, rfl⟩
  have hV : HW γ (fun q => q = a ∨ s.heap.size ≤ q) (dmW γ a qq (gE γ) 0) H43 := by rw [hq]; exact hWp.put (k := 0) rfl hat43 hsm43
  have hle : s.heap.size ≤ H43.size := by omega
  have hsmE : Sm s.heap H43 (fun q => q = a) := (hsm40.trans hsm42 (P := fun q => q = a) (fun _ _ z => z) (fun _ _ z => z.elim)).trans hsm43 (fun _ _ z => z) (fun _ _ z => z)
  have hlow : ∀ (k : Nat) (c : Nat × va_E), (dmW γ a qq (gE γ) 0)[k]? = some c → c.1 < H43.size := fun k c hk => (hV.1 k c hk).lt
  clear hq hWp
  have hgE : LA γ (gE γ) 0 (fun j => ([] : List Nat)[j]?) H43 := by
    have h10 := hX.2.2.2.2.2.2.2.2.2.1
    have h11 : gE γ < gB γ := hX.2.2.2.2.2.2.2.2.2.2.1
    exact ⟨fun c => absurd c (by omega), fun _ => h10.kept (hS43.2.1 _ h10.lt (Nat.not_le.mpr h11))⟩
  obtain ⟨z, hz⟩ : ∃ z, H43.size = z := ⟨_, rfl⟩
  rw [hz] at hlow hle
  have L1 : ∀ (n i : Nat), i + n = 16 → ∀ (H : Heap) (locs : List Loc) (ls : Array Slot) (ar cap : Nat) (L : List Nat) (cells slots : Nat), cells + 2 * n ≤ 42 → slots + 232 * n ≤ 3781 → L.length = i → HW γ (fun q => q = a ∨ s.heap.size ≤ q) (dmW γ a qq ar i) H → dmS γ z ar cap L H → (∀ (k : Nat) (c : Nat × va_E), (dmW γ a qq ar i)[k]? = some c → c.1 < z) → z ≤ H.size → Sm s.heap H (fun q => q = a) → va_S (gA γ) s.heap H locs → lh ls 2 [(1, .int (nI i)), (0, .ref a)] → W p l e (rmo 16 42 3781) s m ([.ref a] : List Value).toArray below meth c H locs cells slots (MQ below (PV γ (fun h => ∃ (q : Nat → Nat) (z ar cap : Nat) (L : List Nat), L.length = 16 ∧ HW γ (fun x => x = a ∨ s.heap.size ≤ x) (dmW γ a q ar 16) h ∧ dmS γ z ar cap L h ∧ (∀ (k : Nat) (c : Nat × va_E), (dmW γ a q ar 16)[k]? = some c → c.1 < z) ∧ s.heap.size ≤ z ∧ Sm s.heap h (fun x => x = a))) ([.ref a] : List Value).toArray s 42 3781 (gA γ)) (F0 m 91 ls []) := by
    intro n
    induction n with
    | zero =>
      intro i hi H locs ls ar cap L cells slots hc1 hc2 hL hV hD hlow hzH hsm hS hl
      have hi : i = 16 := by omega
      subst hi
      refine rw_iload_n hX hl 0 rfl dX6_init_91 rfl ?_
      refine lv_bipush (v := 16) hX.1.1 hX.1.2.1 dX6_init_92 (by decide) ?_
      refine lv_icmp_ge (x := nI 16) (y := 16) (tgt := 118) hX.1.1 hX.1.2.1 dX6_init_94 (by decide) (fun _ => ?_) (fun c => absurd (by decide) c)
      refine W.widen (k := 42) (n := 3781) (by omega) (by omega) ?_
      exact he_v hX hS hr ⟨qq, z, ar, cap, L, hL, hV, hD, hlow, hle, hsm⟩ dX6_init_118 hlocks
    | succ n ih =>
      intro i hi H locs ls ar cap L cells slots hc1 hc2 hL hV hD hlow hzH hsm hS hl
      obtain ⟨har, hlc, hcap, h0, hza, hLy, hnd⟩ := hD
      subst hL
      refine rw_iload_n hX hl 0 rfl dX6_init_91 rfl ?_
      refine lv_bipush (v := 16) hX.1.1 hX.1.2.1 dX6_init_92 (by decide) ?_
      refine lv_icmp_ge (x := nI L.length) (y := 16) (tgt := 118) hX.1.1 hX.1.2.1 dX6_init_94 (by decide) (fun c => absurd c (nI_ge (a := L.length) (b := 16) (by omega) (by omega))) (fun _ => ?_)
      refine rw_aload_n hX hl 1 rfl (Or.inr ⟨_, rfl⟩) dX6_init_97 rfl ?_
      refine hr_get hX (k := 7) (j := 5) (hV.at 0 rfl) (C := RX6) (T := TX6) (N := 11) rfl (by decide) uw_X6 gw_154 (fun _ h => h) rfl dX6_init_98 ?_
      refine hr_new hX hS (ci := 6) (fs := [.null, .int 0]) (C := RX5) (T := TX5) (N := 2) rfl uw_X5 tyX5 tyX5_ok (fun j hj => match j, hj with | 0, _ => rfl | 1, _ => rfl) gw_77 gw_78 gw_6 ⟨(show cells + 1 ≤ 42 by omega), (show slots + 2 ≤ 3781 by omega)⟩ dX6_init_101 (fun H44 hat44 hsm44 hz44 hS44 => ?_)
      refine lv_dup hX.1.1 hX.1.2.1 dX6_init_104 rfl ?_
      refine hc_IN hX hS44 pkK_sl (mc := 0) (ms := 0) ⟨rfl, rfl, (show 2 + 1 ≤ 16 by omega), (show 8 + (1 + 11) + 64 * 2 ≤ 64 * 16 by omega)⟩ (As := []) (rest := [.ref (H.size), .ref (qq 5)]) rfl (K_sl l γ _) nw_79 gw_80 rfl rfl hl (ca1 rfl (ca1 rfl ca0)) (Nat.le_of_ble_eq_true rfl) dX6_init_105 ⟨(show cells + 1 + 0 ≤ 42 by omega), (show slots + 2 + 0 ≤ 3781 by omega)⟩ (fun H45 locs45 hB45 hS45 => ?_)
      subst hB45
      have hVk := hV.1.kept (H1 := H45) (fun k q hk => hsm44.2 q.1 (hV.1 k q hk).lt id)
      have h5 : va_at (gD γ) vwCl (qq 5, .inr (0, [.int (nI L.length), .ref ar, .int (nI L.length)])) H45 := hVk 6 _ rfl
      have hark := hsm44.la har id
      have hlow5 : qq 5 < z := hlow 6 _ rfl
      have hgz : gB γ ≤ z := Nat.le_trans hgb hle
      have hA5 : gB γ ≤ qq 5 := by rcases hV.in 6 rfl with y | y; exact Nat.le_trans hA (Nat.le_of_eq y.symm); exact Nat.le_trans hgb y
      have hEB : gE γ < gB γ := hX.2.2.2.2.2.2.2.2.2.2.1
      have hne : ar ≠ qq 5 := by
        by_cases hc : cap = 0
        · rw [h0 hc]; omega
        · have := hza (by omega); omega
      have harlt : ar < H.size := har.lt
      have hLy1 : ∀ (j : Nat) y, L[j]? = some y → OKo γ H45 y := fun j y hy => ⟨6, _, _, rfl, nw_1349, hsm44.at (hLy j y hy).1 id⟩
      refine hc_Vi hX hS45 pkK_add (mc := 1) (ms := 230) ⟨rfl, rfl, (show 14 + 1 ≤ 16 by omega), (show 8 + (2 + 11) + 64 * 14 ≤ 64 * 16 by omega)⟩ (As := [.ref (H.size)]) (rest := []) rfl (K_add l γ _ (a := qq 5) (v := H.size) (n := L.length) (f := fun j => L[j]?) h5 hA5 hark hne hLy1 (fun j hj => List.getElem?_eq_none hj) (by omega) hlc hcap h0 (fun hc => Nat.le_trans hgz (hza hc)) ⟨6, _, _, rfl, nw_1349, hat44⟩ (by omega) (fun j y hy => by have := (hLy j y hy).2.1; omega)) gw_90 gw_91 gw_92 (va_recv hX.2.1 (rs_P h5) (q0 := 0) (ci := 0) (q := (RJx4a65c, TJx4a65c, 3)) rfl rfl) rfl hl ca0 (Nat.le_of_ble_eq_true rfl) dX6_init_108 ⟨(show cells + 1 + 0 + 1 ≤ 42 by omega), (show slots + 2 + 0 + 230 ≤ 3781 by omega)⟩ (fun H46 locs46 hB46 hS46 => ?_)
      obtain ⟨q2, cap', g1, g2, g3, g4, g5, g6⟩ := hB46
      refine lv_pop hX.1.1 hX.1.2.1 dX6_init_111 rfl ?_
      refine rw_iinc (k := 0) (v := (nI (L.length + 1))) (lv' := [(1, .int (nI (L.length + 1))), (0, .ref a)]) hX hl rfl ((congrArg (fun q => nI L.length + q) (show Int32.ofInt 1 = 1 by decide)).trans (nI_1 _)) (by decide) rfl dX6_init_112 (fun ls hl => ?_)
      refine lv_goto (tgt := 91) hX.1.1 hX.1.2.1 dX6_init_115 (by decide) ?_
      have hq2 : q2 = ar ∧ 0 < cap ∨ H45.size ≤ q2 := g3
      have hsz : H.size + 1 = H45.size := hz44.symm
      have hLn : (L ++ [H.size]).length = L.length + 1 := by rw [List.length_append]; rfl
      have hof : ∀ (j : Nat) y, L[j]? = some y → y < H.size := fun j y hy => (hLy j y hy).1.lt
      have he : va_up (fun j : Nat => L[j]?) L.length (some (H.size)) = fun j : Nat => (L ++ [H.size])[j]? := by
        funext j; unfold va_up
        by_cases hj : j = L.length
        · rw [if_pos hj, hj, List.getElem?_append_right (Nat.le_refl _), Nat.sub_self]; rfl
        · rw [if_neg hj]
          by_cases h2 : j < L.length
          · rw [List.getElem?_append_left h2]
          · rw [List.getElem?_eq_none (by rw [hLn]; omega)]; exact List.getElem?_eq_none (by omega)
      rw [he] at g5
      have hVn : HW γ (fun q => q = a ∨ s.heap.size ≤ q) (dmW γ a qq q2 (L.length + 1)) H46 := by
        refine HW.putP (k := 6) (x := .inr (0, [.int (nI L.length), .ref ar, .int (nI L.length)])) (⟨hVk, hV.2⟩ : HW γ _ (dmW γ a qq ar L.length) H45) rfl ?_ g6 (fun j c hj hc z1 => ?_)
        · rw [show nI (L.length + 1) = nI L.length + 1 from (nI_1 _).symm] at g4 ⊢; exact g4
        · rcases z1 with z1 | ⟨z2, z1⟩
          · exact hc z1
          · have := hlow j c hj; have := hza z2; omega
      refine ih (L.length + 1) (by omega) H46 _ _ q2 cap' (L ++ [H.size]) _ _ (by omega) (by omega) hLn hVn ⟨LA.of (by omega) g5, by omega, g2, fun z => absurd z (by omega), fun _ => ?_, fun j y hy => ?_, ?_⟩ (fun j c hj => ?_) (by have := g6.1; omega) ?_ hS46 hl
      · rcases hq2 with ⟨rfl, hc⟩ | hq2
        · exact hza hc
        · omega
      · by_cases hj : j < L.length
        · rw [List.getElem?_append_left hj] at hy
          have h3 := hLy j y hy
          have h4 := hof j y hy
          refine ⟨g6.at (hsm44.at h3.1 id) (fun z1 => ?_), h3.2.1, ?_⟩
          · rcases z1 with z1 | ⟨_, z1⟩
            · omega
            · exact h3.2.2 z1
          · rcases hq2 with ⟨rfl, _⟩ | hq2
            · exact h3.2.2
            · omega
        · have hj2 : j = L.length := by have := (List.getElem?_eq_some_iff.mp hy).1; omega
          rw [hj2, List.getElem?_append_right (Nat.le_refl _), Nat.sub_self] at hy
          have hy2 : H.size = y := Option.some.inj hy
          subst hy2
          refine ⟨g6.at hat44 (fun z1 => ?_), by omega, ?_⟩
          · rcases z1 with z1 | ⟨_, z1⟩ <;> omega
          · rcases hq2 with ⟨rfl, _⟩ | hq2 <;> omega
      · refine List.nodup_append.mpr ⟨hnd, by simp, fun x hx y hy => ?_⟩
        have hy2 : y = H.size := List.mem_singleton.mp hy
        obtain ⟨j, hj⟩ := List.getElem?_of_mem hx
        have := hof j x hj
        omega
      · match j, hj with
        | 0, hj => exact (by cases hj; exact hlow 0 _ rfl)
        | 1, hj => exact (by cases hj; exact hlow 1 _ rfl)
        | 2, hj => exact (by cases hj; exact hlow 2 _ rfl)
        | 3, hj => exact (by cases hj; exact hlow 3 _ rfl)
        | 4, hj => exact (by cases hj; exact hlow 4 _ rfl)
        | 5, hj => exact (by cases hj; exact hlow 5 _ rfl)
        | 6, hj => exact (by cases hj; exact hlow5)
        | 7, hj => exact (by cases hj; exact hlow 7 _ rfl)
        | 8, hj => exact (by cases hj; exact hlow 8 _ rfl)
        | 9, hj => exact (by cases hj; exact hlow 9 _ rfl)
        | 10, hj => exact (by cases hj; exact hlow 10 _ rfl)
        | j + 11, hj => exact absurd (List.getElem?_eq_some_iff.mp hj).1 (by show ¬ j + 11 < 11; omega)
      · refine (hsm.trans hsm44 (P := fun q => q = a) (fun _ _ z => z) (fun _ _ z => z.elim)).trans g6 (fun _ _ z => z) (fun x hx z1 => ?_)
        rcases z1 with z1 | ⟨z2, z1⟩
        · rcases hV.in 6 rfl with y | y
          · exact z1.trans y
          · have y : s.heap.size ≤ qq 5 := y; omega
        · have := hza z2; omega
  refine lv_iconst (v := 0) hX.1.1 hX.1.2.1 dX6_init_89 (by decide) ?_
  refine rw_istore_n (lv' := [(1, .int 0), (0, .ref a)]) hX hl (by decide) rfl dX6_init_90 rfl (fun ls hl => ?_)
  exact L1 16 0 (by omega) _ _ _ (gE γ) 0 [] 10 69 (by omega) (by omega) rfl hV ⟨hgE, Nat.le_refl _, by omega, fun _ => rfl, fun c => absurd c (by omega), fun j y hy => by simp at hy, List.nodup_nil⟩ hlow (Nat.le_of_eq hz.symm) hsmE hS43 hl
