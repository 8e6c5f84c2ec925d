/-! ===== the law's start ===== -/
theorem GW_all {s : State} {a : Array Value} (hts : ∀ w ∈ lw_tbl, w.before a s = true) : ∀ w ∈ GW, w.before a s = true := fun w hw => hts w (List.mem_filter.mp hw).1
theorem arr_K {s : State} {a : Array Value} {ty : FieldType} (h : (Cond.arrayClass ty).before a s = true) (hty : ∀ C, ty ≠ .object C) : ∃ cA : ClassId, ArrOfT s cA ty ∧ va_RA s cA ty := by
  obtain ⟨c, k, comp, h1, h2, h3⟩ := Cond.arrayClass_spec h
  refine ⟨c, fun n z => ⟨fun k h => (by cases h), k, h2, comp, h3⟩, ?_⟩
  cases ty with
  | object C => exact absurd rfl (hty C)
  | _ => exact h1
theorem str_in : ∀ q ∈ STR, Cond.stringRef "DriverMoor" q.1 q.2 ∈ tables_1 := by decide +kernel
theorem str_ex : ∀ q ∈ STR, Cond.exactly (Term.string "DriverMoor" q.1) "java/lang/String" ∈ flatC (Jvm.Cond.and given_1 narrow_1) := by decide +kernel
set_option maxHeartbeats 4000000 in
theorem start_env {s : State} {b : Nat} (hts : ∀ w ∈ lw_tbl, w.before #[Value.ref b] s = true) (hgv : (Jvm.Cond.and given_1 narrow_1).before #[Value.ref b] s = true) : ∃ γ : GT, gB γ = s.heap.size ∧ va_K (gD γ) vwCl (tys γ) s ∧ EnvU γ s := by
  have hg := GW_all hts
  have ht1 : ∀ w ∈ tables_1, w.before #[Value.ref b] s = true := fun w hw => hts w (List.mem_append_right _ hw)
  have hn : ∀ w ∈ NW, va_Nw w s := fun w hw => va_Nw.of (NW_tab hw) (ht1 w (List.mem_filter.mp hw).1)
  have hfl := flat_of_before _ hgv
  obtain ⟨c0, i0, k0⟩ := u_known (C := RJx4a65c) (T := TJx4a65c) (N := 3) (n := 3) hg uw_Jx4a65c (hg _ gw_34)
  obtain ⟨c1, i1, k1⟩ := u_known (C := RX0) (T := TX0) (N := 3) (n := 3) hg uw_X0 (hg _ gw_516)
  obtain ⟨c2, i2, k2⟩ := u_known (C := RX1) (T := TX1) (N := 18) (n := 18) hg uw_X1 (hg _ gw_336)
  obtain ⟨c3, i3, k3⟩ := u_known (C := RX2) (T := TX2) (N := 6) (n := 6) hg uw_X2 (hg _ gw_432)
  obtain ⟨c4, i4, k4⟩ := u_known (C := RX3) (T := TX3) (N := 3) (n := 3) hg uw_X3 (hg _ gw_60)
  obtain ⟨c5, i5, k5⟩ := u_known (C := RX4) (T := TX4) (N := 3) (n := 3) hg uw_X4 (hg _ gw_604)
  obtain ⟨c6, i6, k6⟩ := u_known (C := RX5) (T := TX5) (N := 2) (n := 2) hg uw_X5 (hg _ gw_78)
  obtain ⟨c7, i7, k7⟩ := u_known (C := RX6) (T := TX6) (N := 11) (n := 11) hg uw_X6 (hg _ gw_26)
  obtain ⟨c8, i8, k8⟩ := u_known (C := RX7) (T := TX7) (N := 48) (n := 48) hg uw_X7 (hg _ gw_923)
  obtain ⟨D, hKc⟩ : ∃ D : va_G, ∀ (k : Nat) (q : vw_C), vwCl[k]? = some q → u_Kn s q.1 q.2.1 q.2.2 (D.1 k) (D.2 k) := by
    refine ⟨(fun k => [c0, c1, c2, c3, c4, c5, c6, c7, c8].getD k c0, fun k => [i0, i1, i2, i3, i4, i5, i6, i7, i8].getD k i0), ?_⟩
    intro k q hq
    match k, hq with
    | 0, hq => cases hq; exact k0
    | 1, hq => cases hq; exact k1
    | 2, hq => cases hq; exact k2
    | 3, hq => cases hq; exact k3
    | 4, hq => cases hq; exact k4
    | 5, hq => cases hq; exact k5
    | 6, hq => cases hq; exact k6
    | 7, hq => cases hq; exact k7
    | 8, hq => cases hq; exact k8
    | k + 9, hq => simp [vwCl] at hq
  obtain ⟨aI, hI1, hI2⟩ := arr_K (ht1 (.arrayClass .int) (by decide +kernel)) (by intro C h; cases h)
  obtain ⟨aZ, hZ1, hZ2⟩ := arr_K (ht1 (.arrayClass .boolean) (by decide +kernel)) (by intro C h; cases h)
  obtain ⟨aJ, hJ1, hJ2⟩ := arr_K (ht1 (.arrayClass .long) (by decide +kernel)) (by intro C h; cases h)
  have hao := ht1 (.arrayOver (.object "java/lang/Object")) (by decide +kernel)
  obtain ⟨cmp, aO, kO, o1, o2, o3, o4, o5⟩ := Cond.arrayOver_spec hao
  have hO1 : ArrOfT s aO (.object "java/lang/Object") := fun n z => ⟨fun k h => (by cases h), kO, o3, cmp, o4⟩
  have hO2 : va_RA s aO (.object "java/lang/Object") := ⟨kO, cmp, o3, o4, o1, o5⟩
  have hex := hfl (Cond.exactly (.static "java/util/ArrayList" "DEFAULTCAPACITY_EMPTY_ELEMENTDATA" "[Ljava/lang/Object;") "[Ljava/lang/Object;") (by decide +kernel)
  obtain ⟨ae, ce, cell, ke, x1, x2, x3, x4, x5, x6, -⟩ := Cond.exactly_spec hex
  have hce : ce = aO := Option.some.inj (x2.symm.trans o5)
  have har := Cond.arrayOf_spec (hfl (Cond.arrayOf (.static "java/util/ArrayList" "DEFAULTCAPACITY_EMPTY_ELEMENTDATA" "[Ljava/lang/Object;") (.object "java/lang/Object")) (by decide +kernel)) x1 x3
  have hln := hfl (Cond.eq (.length (.static "java/util/ArrayList" "DEFAULTCAPACITY_EMPTY_ELEMENTDATA" "[Ljava/lang/Object;")) (.int 0)) (by decide +kernel)
  have hsz : cell.slots.size.toInt32 = 0 := by
    cases hv : (Term.length (.static "java/util/ArrayList" "DEFAULTCAPACITY_EMPTY_ELEMENTDATA" "[Ljava/lang/Object;")).eval #[Value.ref b] s none [] s with
    | none => simp [Cond.before, Cond.holds, Cond.value, hv] at hln
    | some v =>
      obtain ⟨a', cell', y1, y2, y3⟩ := Term.length_spec hv
      cases Option.some.inj (x1.symm.trans y1)
      have y4 := (State.arrayAt?_spec y2).1
      cases Option.some.inj (x3.symm.trans y4)
      subst y3
      have h2 := Cond.eq_ints hv (show (Term.int 0).eval #[Value.ref b] s none [] s = some (.int 0) from rfl)
      simpa [Cond.before, Cond.holds, h2] using hln
  have hael : ae < s.heap.size := (Array.getElem?_eq_some_iff.mp x3).1
  have hmir := hfl (Cond.isRef (.mirror "[Ljava/lang/Object;")) (by decide +kernel)
  obtain ⟨mi, hmi⟩ := va_Mi.of hmir
  have hA : ∀ a : Nat, a < s.heap.size → ¬ s.heap.size ≤ a := fun a h => Nat.not_le.mpr h
  refine ⟨(D, (aI, aZ, aJ, aO), fun _ _ => mi, s.heap.size, ae), rfl, ⟨hKc, fun k q hq => ?_⟩, hn, fun q hq => ?_, ⟨va_Nc.of (hfl _ (by decide +kernel)), va_Nc.of (hfl _ (by decide +kernel)), va_Nc.of (hfl _ (by decide +kernel))⟩, ⟨va_AO.of hao, hmi⟩, ?_, ?_, ?_, ?_, hael, Nat.le_refl _⟩
  · match k, hq with
    | 0, hq => cases hq; exact ⟨hI1, hI2⟩
    | 1, hq => cases hq; exact ⟨hZ1, hZ2⟩
    | 2, hq => cases hq; exact ⟨hJ1, hJ2⟩
    | 3, hq => cases hq; exact ⟨hO1, hO2⟩
    | k + 4, hq => simp [tys] at hq
  · have h1 := ht1 _ (str_in q hq)
    obtain ⟨sa, _, _, _, h2, -⟩ := Cond.exactly_spec (hfl _ (str_ex q hq))
    exact ⟨sa, vk_R.of h1 h2⟩
  · exact vx_Zqof (ht1 _ (by decide +kernel)) (ht1 _ (by decide +kernel)) (hfl _ (by decide +kernel)) hA
  · exact vx_Zqof (ht1 _ (by decide +kernel)) (ht1 _ (by decide +kernel)) (hfl _ (by decide +kernel)) hA
  · exact va_Zof (ht1 _ (by decide +kernel)) (ht1 _ (by decide +kernel)) x1 hA
  · exact ⟨cell, x3, x6.trans hce, hsz, har.1.1, har.2⟩
