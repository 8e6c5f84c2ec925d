theorem pk_f8_thrown : PKV yX7_thrown cX7_thrown 1 (Option.some Jvm.ClassFile.FieldType.int) 0 := ⟨gw_11, gw_1077, by decide, by decide, by decide +kernel⟩
theorem pk_f8_in : PKV yX7_in cX7_in 3 (Option.some Jvm.ClassFile.FieldType.boolean) 3 := ⟨gw_11, gw_1084, by decide, by decide, by decide +kernel⟩
theorem pk_f8_isDevice : PKV yX7_isDevice cX7_isDevice 2 (Option.some Jvm.ClassFile.FieldType.boolean) 1 := ⟨gw_11, gw_1092, by decide, by decide, by decide +kernel⟩
theorem pk_f8_isBound : PKV yX7_isBound cX7_isBound 2 (Option.some Jvm.ClassFile.FieldType.boolean) 1 := ⟨gw_11, gw_1100, by decide, by decide, by decide +kernel⟩
theorem pk_f8_event : PKV yX7_event cX7_event 3 (Option.none : Option Jvm.ClassFile.FieldType) 2 := ⟨gw_11, gw_1140, by decide, by decide, by decide +kernel⟩
theorem pk_f8_driverFor : PKV yX7_driverFor cX7_driverFor 5 (Option.some Jvm.ClassFile.FieldType.int) 1 := ⟨gw_11, gw_1108, by decide, by decide, by decide +kernel⟩
theorem pk_f8_spaceOf : PKV yX7_spaceOf cX7_spaceOf 3 (Option.some Jvm.ClassFile.FieldType.int) 1 := ⟨gw_11, gw_1120, by decide, by decide, by decide +kernel⟩
theorem pk_f8_isRoom : PKV yX7_isRoom cX7_isRoom 6 (Option.some Jvm.ClassFile.FieldType.boolean) 2 := ⟨gw_11, gw_1124, by decide, by decide, by decide +kernel⟩
theorem pk_f8_roomFor : PKV yX7_roomFor cX7_roomFor 6 (Option.some Jvm.ClassFile.FieldType.int) 1 := ⟨gw_11, gw_1116, by decide, by decide, by decide +kernel⟩
theorem pk_f8_isLineFree : PKV yX7_isLineFree cX7_isLineFree 4 (Option.some Jvm.ClassFile.FieldType.boolean) 1 := ⟨gw_11, gw_1128, by decide, by decide, by decide +kernel⟩
theorem pk_f8_isOpen : PKV yX7_isOpen cX7_isOpen 2 (Option.some Jvm.ClassFile.FieldType.boolean) 1 := ⟨gw_11, gw_1112, by decide, by decide, by decide +kernel⟩
theorem pk_f8_refused : PKV yX7_refused cX7_refused 3 (Option.some Jvm.ClassFile.FieldType.int) 1 := ⟨gw_11, gw_1104, by decide, by decide, by decide +kernel⟩
theorem pk_f8_wake : PKV yX7_wake cX7_wake 5 (Option.none : Option Jvm.ClassFile.FieldType) 1 := ⟨gw_11, gw_1136, by decide, by decide, by decide +kernel⟩
theorem pk_f8_fallsAsleep : PKV yX7_fallsAsleep cX7_fallsAsleep 2 (Option.none : Option Jvm.ClassFile.FieldType) 1 := ⟨gw_11, gw_1251, by decide, by decide, by decide +kernel⟩
theorem pk_f8_bindNow : PKV yX7_bindNow cX7_bindNow 2 (Option.none : Option Jvm.ClassFile.FieldType) 1 := ⟨gw_11, gw_1132, by decide, by decide, by decide +kernel⟩
theorem pk_f8_settle : PKV yX7_settle cX7_settle 3 (Option.none : Option Jvm.ClassFile.FieldType) 0 := ⟨gw_11, gw_1096, by decide, by decide, by decide +kernel⟩
theorem pk_f8_has : PKV yX7_has cX7_has 2 (Option.some Jvm.ClassFile.FieldType.boolean) 2 := ⟨gw_11, gw_1147, by decide, by decide, by decide +kernel⟩
theorem pk_f8_endCalls : PKV yX7_endCalls cX7_endCalls 4 (Option.some Jvm.ClassFile.FieldType.int) 1 := ⟨gw_11, gw_1159, by decide, by decide, by decide +kernel⟩
theorem pk_f8_letMaps : PKV yX7_letMaps cX7_letMaps 3 (Option.none : Option Jvm.ClassFile.FieldType) 1 := ⟨gw_11, gw_1163, by decide, by decide, by decide +kernel⟩
theorem pk_f8_lastOf : PKV yX7_lastOf cX7_lastOf 4 (Option.some Jvm.ClassFile.FieldType.int) 1 := ⟨gw_11, gw_1155, by decide, by decide, by decide +kernel⟩
theorem pk_f8_unbindAll : PKV yX7_unbindAll cX7_unbindAll 6 (Option.some Jvm.ClassFile.FieldType.int) 1 := ⟨gw_11, gw_1151, by decide, by decide, by decide +kernel⟩
theorem pk_f8_isNeeded : PKV yX7_isNeeded cX7_isNeeded 2 (Option.some Jvm.ClassFile.FieldType.boolean) 1 := ⟨gw_11, gw_1088, by decide, by decide, by decide +kernel⟩
theorem pk_f8_plug : PKV yX7_plug cX7_plug 10 (Option.some Jvm.ClassFile.FieldType.int) 7 := ⟨gw_11, gw_1081, by decide, by decide, by decide +kernel⟩
theorem pk_f8_unplug : PKV yX7_unplug cX7_unplug 5 (Option.some Jvm.ClassFile.FieldType.int) 1 := ⟨gw_11, gw_1144, by decide, by decide, by decide +kernel⟩
theorem pk_f8_driver : PKV yX7_driver cX7_driver 6 (Option.some Jvm.ClassFile.FieldType.int) 4 := ⟨gw_11, gw_1167, by decide, by decide, by decide +kernel⟩
theorem pk_f8_load : PKV yX7_load cX7_load 4 (Option.some Jvm.ClassFile.FieldType.int) 2 := ⟨gw_11, gw_1171, by decide, by decide, by decide +kernel⟩
theorem pk_f8_unbind : PKV yX7_unbind cX7_unbind 3 (Option.some Jvm.ClassFile.FieldType.int) 1 := ⟨gw_11, gw_1175, by decide, by decide, by decide +kernel⟩
theorem pk_f8_bind : PKV yX7_bind cX7_bind 3 (Option.some Jvm.ClassFile.FieldType.int) 1 := ⟨gw_11, gw_1179, by decide, by decide, by decide +kernel⟩
theorem pk_f8_reset : PKV yX7_reset cX7_reset 3 (Option.some Jvm.ClassFile.FieldType.int) 1 := ⟨gw_11, gw_1183, by decide, by decide, by decide +kernel⟩
theorem pk_f8_isHandle : PKV yX7_isHandle cX7_isHandle 2 (Option.some Jvm.ClassFile.FieldType.boolean) 1 := ⟨gw_11, gw_1195, by decide, by decide, by decide +kernel⟩
theorem pk_f8_isDead : PKV yX7_isDead cX7_isDead 2 (Option.some Jvm.ClassFile.FieldType.boolean) 1 := ⟨gw_11, gw_1199, by decide, by decide, by decide +kernel⟩
theorem pk_f8_isUsable : PKV yX7_isUsable cX7_isUsable 2 (Option.some Jvm.ClassFile.FieldType.boolean) 1 := ⟨gw_11, gw_1207, by decide, by decide, by decide +kernel⟩
theorem pk_f8_open : PKV yX7_open cX7_open 2 (Option.some Jvm.ClassFile.FieldType.int) 1 := ⟨gw_11, gw_1187, by decide, by decide, by decide +kernel⟩
theorem pk_f8_close : PKV yX7_close cX7_close 4 (Option.some Jvm.ClassFile.FieldType.boolean) 1 := ⟨gw_11, gw_1191, by decide, by decide, by decide +kernel⟩
theorem pk_f8_touch : PKV yX7_touch cX7_touch 2 (Option.none : Option Jvm.ClassFile.FieldType) 1 := ⟨gw_11, gw_1211, by decide, by decide, by decide +kernel⟩
theorem pk_f8_call : PKV yX7_call cX7_call 3 (Option.some Jvm.ClassFile.FieldType.int) 2 := ⟨gw_11, gw_1203, by decide, by decide, by decide +kernel⟩
theorem pk_f8_set : PKV yX7_set cX7_set 5 (Option.some Jvm.ClassFile.FieldType.int) 2 := ⟨gw_11, gw_1215, by decide, by decide, by decide +kernel⟩
theorem pk_f8_get : PKV yX7_get cX7_get 2 (Option.some Jvm.ClassFile.FieldType.int) 1 := ⟨gw_11, gw_1219, by decide, by decide, by decide +kernel⟩
theorem pk_f8_map : PKV yX7_map cX7_map 4 (Option.some Jvm.ClassFile.FieldType.int) 2 := ⟨gw_11, gw_1223, by decide, by decide, by decide +kernel⟩
theorem pk_f8_unmap : PKV yX7_unmap cX7_unmap 3 (Option.some Jvm.ClassFile.FieldType.int) 2 := ⟨gw_11, gw_1227, by decide, by decide, by decide +kernel⟩
theorem pk_f8_access : PKV yX7_access cX7_access 4 (Option.some Jvm.ClassFile.FieldType.int) 2 := ⟨gw_11, gw_1231, by decide, by decide, by decide +kernel⟩
theorem pk_f8_hasCall : PKV yX7_hasCall cX7_hasCall 4 (Option.some Jvm.ClassFile.FieldType.boolean) 1 := ⟨gw_11, gw_1247, by decide, by decide, by decide +kernel⟩
theorem pk_f8_isHeld : PKV yX7_isHeld cX7_isHeld 4 (Option.some Jvm.ClassFile.FieldType.boolean) 1 := ⟨gw_11, gw_1243, by decide, by decide, by decide +kernel⟩
theorem pk_f8_tick : PKV yX7_tick cX7_tick 3 (Option.none : Option Jvm.ClassFile.FieldType) 0 := ⟨gw_11, gw_1239, by decide, by decide, by decide +kernel⟩
theorem pk_f8_pass : PKV yX7_pass cX7_pass 3 (Option.some Jvm.ClassFile.FieldType.int) 1 := ⟨gw_11, gw_1235, by decide, by decide, by decide +kernel⟩
theorem pk_f8_allOn : PKV yX7_allOn cX7_allOn 3 (Option.some Jvm.ClassFile.FieldType.int) 0 := ⟨gw_11, gw_1259, by decide, by decide, by decide +kernel⟩
theorem pk_f8_firstSlept : PKV yX7_firstSlept cX7_firstSlept 3 (Option.some Jvm.ClassFile.FieldType.int) 0 := ⟨gw_11, gw_1263, by decide, by decide, by decide +kernel⟩
theorem pk_f8_suspend : PKV yX7_suspend cX7_suspend 4 (Option.some Jvm.ClassFile.FieldType.int) 0 := ⟨gw_11, gw_1255, by decide, by decide, by decide +kernel⟩
theorem pk_f8_firstOf : PKV yX7_firstOf cX7_firstOf 4 (Option.some Jvm.ClassFile.FieldType.int) 1 := ⟨gw_11, gw_1275, by decide, by decide, by decide +kernel⟩
theorem pk_f8_ask : PKV yX7_ask cX7_ask 5 (Option.some Jvm.ClassFile.FieldType.int) 1 := ⟨gw_11, gw_1271, by decide, by decide, by decide +kernel⟩
theorem pk_f8_resume : PKV yX7_resume cX7_resume 4 (Option.some Jvm.ClassFile.FieldType.int) 0 := ⟨gw_11, gw_1267, by decide, by decide, by decide +kernel⟩
theorem pk_f8_raise : PKV yX7_raise cX7_raise 4 (Option.some Jvm.ClassFile.FieldType.int) 1 := ⟨gw_11, gw_1279, by decide, by decide, by decide +kernel⟩
theorem pk_f8_openLine : PKV yX7_openLine cX7_openLine 3 (Option.some Jvm.ClassFile.FieldType.int) 1 := ⟨gw_11, gw_1283, by decide, by decide, by decide +kernel⟩
theorem pk_f8_isThere : PKV yX7_isThere cX7_isThere 2 (Option.some Jvm.ClassFile.FieldType.boolean) 1 := ⟨gw_11, gw_1287, by decide, by decide, by decide +kernel⟩
theorem pk_f8_reason : PKV yX7_reason cX7_reason 3 (Option.some Jvm.ClassFile.FieldType.int) 1 := ⟨gw_11, gw_1291, by decide, by decide, by decide +kernel⟩
theorem pk_f8_driverOf : PKV yX7_driverOf cX7_driverOf 2 (Option.some Jvm.ClassFile.FieldType.int) 1 := ⟨gw_11, gw_1295, by decide, by decide, by decide +kernel⟩
theorem pk_f8_window : PKV yX7_window cX7_window 2 (Option.some Jvm.ClassFile.FieldType.int) 1 := ⟨gw_11, gw_1299, by decide, by decide, by decide +kernel⟩
theorem pk_f8_isOn : PKV yX7_isOn cX7_isOn 2 (Option.some Jvm.ClassFile.FieldType.boolean) 1 := ⟨gw_11, gw_1303, by decide, by decide, by decide +kernel⟩
theorem pk_f8_isPending : PKV yX7_isPending cX7_isPending 2 (Option.some Jvm.ClassFile.FieldType.boolean) 1 := ⟨gw_11, gw_1307, by decide, by decide, by decide +kernel⟩
theorem pk_f8_strikes : PKV yX7_strikes cX7_strikes 2 (Option.some Jvm.ClassFile.FieldType.int) 1 := ⟨gw_11, gw_1311, by decide, by decide, by decide +kernel⟩
theorem pk_f8_handles : PKV yX7_handles cX7_handles 4 (Option.some Jvm.ClassFile.FieldType.int) 1 := ⟨gw_11, gw_1315, by decide, by decide, by decide +kernel⟩
theorem pk_f8_callState : PKV yX7_callState cX7_callState 2 (Option.some Jvm.ClassFile.FieldType.int) 1 := ⟨gw_11, gw_1319, by decide, by decide, by decide +kernel⟩
theorem pk_f8_faults : PKV yX7_faults cX7_faults 1 (Option.some Jvm.ClassFile.FieldType.int) 0 := ⟨gw_11, gw_1323, by decide, by decide, by decide +kernel⟩
theorem pk_f8_given : PKV yX7_given cX7_given 5 (Option.some Jvm.ClassFile.FieldType.int) 1 := ⟨gw_11, gw_1327, by decide, by decide, by decide +kernel⟩
theorem pk_f8_events : PKV yX7_events cX7_events 1 (Option.some Jvm.ClassFile.FieldType.int) 0 := ⟨gw_11, gw_1331, by decide, by decide, by decide +kernel⟩
theorem pk_f8_isKept : PKV yX7_isKept cX7_isKept 2 (Option.some Jvm.ClassFile.FieldType.boolean) 1 := ⟨gw_11, gw_1339, by decide, by decide, by decide +kernel⟩
theorem pk_f8_eventKind : PKV yX7_eventKind cX7_eventKind 2 (Option.some Jvm.ClassFile.FieldType.int) 1 := ⟨gw_11, gw_1335, by decide, by decide, by decide +kernel⟩
theorem pk_f8_eventOf : PKV yX7_eventOf cX7_eventOf 2 (Option.some Jvm.ClassFile.FieldType.int) 1 := ⟨gw_11, gw_1343, by decide, by decide, by decide +kernel⟩
set_option maxHeartbeats 8000000 in
set_option maxRecDepth 100000 in
theorem C_f8_thrown (l : Launch) (γ : GT) (ad : Nat → Nat → Nat) {fu : Nat} (σ : St) (r : Int32) (hw : f8_thrown fu σ = some r) : Met l yX7_thrown (Cond.code yX7_thrown cX7_thrown 1 (Option.some Jvm.ClassFile.FieldType.int) :: GW) (rmo 1 0 0) (va_Pc [.ref (gS γ 8 0)] (RU γ ad σ)) (QI γ ad σ r) 0 0 (gA γ) := by
  refine Met.ofW (cc := cX7_thrown) (maxL := 1) (ret := (Option.some Jvm.ClassFile.FieldType.int)) (by decide +kernel) rfl ?_
  intro p e s m args below meth c s₁ B hml hv
  obtain ⟨rfl, hU⟩ := hv
  obtain ⟨hX, hR⟩ := cx_of (own := RX7) B hml rfl hU
  have hr := B.returns
  have hlocks := B.notSynchronized
  have hc0 : (0 : Nat) ≤ 0 := Nat.le_refl 0
  show W p l e (rmo 1 0 0) s m ([.ref (gS γ 8 0)] : List Value).toArray below meth c s.heap [] 0 0 (MQ below (QI γ ad σ r) ([.ref (gS γ 8 0)] : List Value).toArray s 0 0 (gA γ)) (entryFrame m ([.ref (gS γ 8 0)] : List Value).toArray 1)
  unfold f8_thrown at hw
  refine rw_entry (ca1 rfl ca0) (Nat.le_of_ble_eq_true rfl) (fun ls hl1 => ?_)
  replace hl := hl1
  clear hl1
  refine rw_aload_n hX hl 0 rfl (Or.inr ⟨_, rfl⟩) dX7_thrown_0 rfl ?_
  refine rw_get hX hR 8 0 0 (C := RX7) (T := TX7) (N := 48) rfl (by decide) (Nat.le_of_ble_eq_true rfl) rfl (v := .int (gi σ 800 0)) rfl uw_X7 gw_928 rfl dX7_thrown_1 ?_
  exact rq_i hX hR hr hw dX7_thrown_4 hlocks
set_option maxHeartbeats 8000000 in
set_option maxRecDepth 100000 in
theorem C_f8_in (l : Launch) (γ : GT) (ad : Nat → Nat → Nat) {fu : Nat} (a0 : Int32) (a1 : Int32) (a2 : Int32) (σ : St) (r : Bool) (hw : f8_in fu a0 a1 a2 σ = some r) : Met l yX7_in (Cond.code yX7_in cX7_in 3 (Option.some Jvm.ClassFile.FieldType.boolean) :: GW) (rmo 1 0 0) (va_Pc [.int a0, .int a1, .int a2] (RU γ ad σ)) (QI γ ad σ (b2i r)) 0 0 (gA γ) := by
  refine Met.ofW (cc := cX7_in) (maxL := 3) (ret := (Option.some Jvm.ClassFile.FieldType.boolean)) (by decide +kernel) rfl ?_
  intro p e s m args below meth c s₁ B hml hv
  obtain ⟨rfl, hU⟩ := hv
  obtain ⟨hX, hR⟩ := cx_of (own := RX7) B hml rfl hU
  have hr := B.returns
  have hlocks := B.notSynchronized
  have hc0 : (0 : Nat) ≤ 0 := Nat.le_refl 0
  show W p l e (rmo 1 0 0) s m ([.int a0, .int a1, .int a2] : List Value).toArray below meth c s.heap [] 0 0 (MQ below (QI γ ad σ (b2i r)) ([.int a0, .int a1, .int a2] : List Value).toArray s 0 0 (gA γ)) (entryFrame m ([.int a0, .int a1, .int a2] : List Value).toArray 3)
  unfold f8_in at hw
  refine rw_entry (ca1 rfl (ca1 rfl (ca1 rfl ca0))) (Nat.le_of_ble_eq_true rfl) (fun ls hl1 => ?_)
  replace hl := hl1
  clear hl1
  refine rw_iload_n hX hl 0 rfl dX7_in_0 rfl ?_
  refine rw_iload_n hX hl 1 rfl dX7_in_1 rfl ?_
  refine lv_icmp_lt (x := a0) (y := a1) (tgt := 14) hX.1.1 hX.1.2.1 dX7_in_2 (by decide) (fun c1 => ?_) (fun c1 => ?_)
  · replace hw := if_t hw c1
    refine lv_iconst (v := 0) hX.1.1 hX.1.2.1 dX7_in_14 (by decide) ?_
    exact rq_z hX hR hr (v := false) rfl hw dX7_in_15 hlocks
  · replace hw := if_f hw c1
    refine rw_iload_n hX hl 0 rfl dX7_in_5 rfl ?_
    refine rw_iload_n hX hl 2 rfl dX7_in_6 rfl ?_
    refine lv_icmp_gt (x := a0) (y := a2) (tgt := 14) hX.1.1 hX.1.2.1 dX7_in_7 (by decide) (fun c2 => ?_) (fun c2 => ?_)
    · replace hw := if_t hw c2
      refine lv_iconst (v := 0) hX.1.1 hX.1.2.1 dX7_in_14 (by decide) ?_
      exact rq_z hX hR hr (v := false) rfl hw dX7_in_15 hlocks
    · replace hw := if_f hw c2
      refine lv_iconst (v := 1) hX.1.1 hX.1.2.1 dX7_in_10 (by decide) ?_
      refine lv_goto (tgt := 15) hX.1.1 hX.1.2.1 dX7_in_11 (by decide) ?_
      exact rq_z hX hR hr (v := true) rfl hw dX7_in_15 hlocks
set_option maxHeartbeats 8000000 in
set_option maxRecDepth 100000 in
theorem C_f8_isDevice (l : Launch) (γ : GT) (ad : Nat → Nat → Nat) {fu : Nat} (a1 : Int32) (σ : St) (r : Bool) (hw : f8_isDevice fu a1 σ = some r) : Met l yX7_isDevice (Cond.code yX7_isDevice cX7_isDevice 2 (Option.some Jvm.ClassFile.FieldType.boolean) :: GW) (rmo 2 0 0) (va_Pc [.ref (gS γ 8 0), .int a1] (RU γ ad σ)) (QI γ ad σ (b2i r)) 0 0 (gA γ) := by
  refine Met.ofW (cc := cX7_isDevice) (maxL := 2) (ret := (Option.some Jvm.ClassFile.FieldType.boolean)) (by decide +kernel) rfl ?_
  intro p e s m args below meth c s₁ B hml hv
  obtain ⟨rfl, hU⟩ := hv
  obtain ⟨hX, hR⟩ := cx_of (own := RX7) B hml rfl hU
  have hr := B.returns
  have hlocks := B.notSynchronized
  have hc0 : (0 : Nat) ≤ 0 := Nat.le_refl 0
  show W p l e (rmo 2 0 0) s m ([.ref (gS γ 8 0), .int a1] : List Value).toArray below meth c s.heap [] 0 0 (MQ below (QI γ ad σ (b2i r)) ([.ref (gS γ 8 0), .int a1] : List Value).toArray s 0 0 (gA γ)) (entryFrame m ([.ref (gS γ 8 0), .int a1] : List Value).toArray 2)
  unfold f8_isDevice at hw
  refine rw_entry (ca1 rfl (ca1 rfl ca0)) (Nat.le_of_ble_eq_true rfl) (fun ls hl1 => ?_)
  replace hl := hl1
  clear hl1
  refine rw_iload_n hX hl 1 rfl dX7_isDevice_0 rfl ?_
  refine lv_iconst (v := 0) hX.1.1 hX.1.2.1 dX7_isDevice_1 (by decide) ?_
  refine rw_aload_n hX hl 0 rfl (Or.inr ⟨_, rfl⟩) dX7_isDevice_2 rfl ?_
  refine rw_get hX hR 8 3 0 (C := RX7) (T := TX7) (N := 48) rfl (by decide) (Nat.le_of_ble_eq_true rfl) rfl (v := .int (gi σ 803 0)) rfl uw_X7 gw_931 rfl dX7_isDevice_3 ?_
  refine lv_iconst (v := 1) hX.1.1 hX.1.2.1 dX7_isDevice_6 (by decide) ?_
  refine lv_isub (x := (gi σ 803 0)) (y := 1) hX.1.1 hX.1.2.1 dX7_isDevice_7 ?_
  obtain ⟨v1, g3, hw1⟩ := ob1_some hw
  replace hw := hw1
  clear hw1
  refine rw_cSi hX hR pk_f8_in (mc := 0) (ms := 0) ⟨rfl, rfl, (show 1 + 1 ≤ 2 by omega), (show 8 + (3 + 11) + 64 * 1 ≤ 64 * 2 by omega)⟩ (As := [.int a1, .int 0, .int ((gi σ 803 0) - 1)]) (rest := []) rfl (C_f8_in l γ ad a1 0 ((gi σ 803 0) - 1) σ v1 g3) gw_1082 gw_1083 rfl hl.1 ca0 (Nat.le_of_ble_eq_true rfl) dX7_isDevice_8 ⟨(show 0 + 0 ≤ 0 by omega), (show 0 + 0 ≤ 0 by omega)⟩ (fun H locs hR1 => ?_)
  replace hR := hR1
  clear hR1
  refine W.widen (k := 0) (n := 0) (by omega) (by omega) ?_
  exact rq_z hX hR hr (v := v1) rfl hw dX7_isDevice_11 hlocks
set_option maxHeartbeats 8000000 in
set_option maxRecDepth 100000 in
theorem C_f8_isBound (l : Launch) (γ : GT) (ad : Nat → Nat → Nat) {fu : Nat} (a1 : Int32) (σ : St) (r : Bool) (hw : f8_isBound fu a1 σ = some r) : Met l yX7_isBound (Cond.code yX7_isBound cX7_isBound 2 (Option.some Jvm.ClassFile.FieldType.boolean) :: GW) (rmo 1 0 0) (va_Pc [.ref (gS γ 8 0), .int a1] (RU γ ad σ)) (QI γ ad σ (b2i r)) 0 0 (gA γ) := by
  refine Met.ofW (cc := cX7_isBound) (maxL := 2) (ret := (Option.some Jvm.ClassFile.FieldType.boolean)) (by decide +kernel) rfl ?_
  intro p e s m args below meth c s₁ B hml hv
  obtain ⟨rfl, hU⟩ := hv
  obtain ⟨hX, hR⟩ := cx_of (own := RX7) B hml rfl hU
  have hr := B.returns
  have hlocks := B.notSynchronized
  have hc0 : (0 : Nat) ≤ 0 := Nat.le_refl 0
  show W p l e (rmo 1 0 0) s m ([.ref (gS γ 8 0), .int a1] : List Value).toArray below meth c s.heap [] 0 0 (MQ below (QI γ ad σ (b2i r)) ([.ref (gS γ 8 0), .int a1] : List Value).toArray s 0 0 (gA γ)) (entryFrame m ([.ref (gS γ 8 0), .int a1] : List Value).toArray 2)
  unfold f8_isBound at hw
  refine rw_entry (ca1 rfl (ca1 rfl ca0)) (Nat.le_of_ble_eq_true rfl) (fun ls hl1 => ?_)
  replace hl := hl1
  clear hl1
  refine rw_aload_n hX hl 0 rfl (Or.inr ⟨_, rfl⟩) dX7_isBound_0 rfl ?_
  refine rw_get hX hR 8 12 0 (C := RX7) (T := TX7) (N := 48) rfl (by decide) (Nat.le_of_ble_eq_true rfl) rfl (v := .ref (gS γ 1812 0)) rfl uw_X7 gw_940 rfl dX7_isBound_1 ?_
  refine rw_iload_n hX hl 1 rfl dX7_isBound_4 rfl ?_
  obtain ⟨h2, hw1⟩ := ar_some hw
  replace hw := hw1
  clear hw1
  obtain ⟨j1, ej1⟩ : ∃ j, (a1 : Int32).toNatClampNeg = j := ⟨_, rfl⟩
  rw [ej1] at hw
  refine rw_iald hX hR 812 (n := 24) (i := a1) (v := (gi σ 812 j1)) rfl (by decide) rfl rfl h2 (by rw [ej1]) dX7_isBound_5 ?_
  refine lv_iconst (v := (-1)) hX.1.1 hX.1.2.1 dX7_isBound_6 (by decide) ?_
  refine lv_icmp_eq (x := (gi σ 812 j1)) (y := (-1)) (tgt := 14) hX.1.1 hX.1.2.1 dX7_isBound_7 (by decide) (fun c3 => ?_) (fun c3 => ?_)
  · replace hw := if_t hw c3
    refine lv_iconst (v := 0) hX.1.1 hX.1.2.1 dX7_isBound_14 (by decide) ?_
    exact rq_z hX hR hr (v := false) rfl hw dX7_isBound_15 hlocks
  · replace hw := if_f hw c3
    refine lv_iconst (v := 1) hX.1.1 hX.1.2.1 dX7_isBound_10 (by decide) ?_
    refine lv_goto (tgt := 15) hX.1.1 hX.1.2.1 dX7_isBound_11 (by decide) ?_
    exact rq_z hX hR hr (v := true) rfl hw dX7_isBound_15 hlocks
set_option maxHeartbeats 8000000 in
set_option maxRecDepth 100000 in
theorem C_f8_event (l : Launch) (γ : GT) (ad : Nat → Nat → Nat) {fu : Nat} (a1 : Int32) (a2 : Int32) (σ : St) (σ' : St) (hw : f8_event fu a1 a2 σ = some σ') : Met l yX7_event (Cond.code yX7_event cX7_event 3 (Option.none : Option Jvm.ClassFile.FieldType) :: GW) (rmo 1 0 0) (va_Pc [.ref (gS γ 8 0), .int a1, .int a2] (RU γ ad σ)) (QV γ ad σ') 0 0 (gA γ) := by
  refine Met.ofW (cc := cX7_event) (maxL := 3) (ret := (Option.none : Option Jvm.ClassFile.FieldType)) (by decide +kernel) rfl ?_
  intro p e s m args below meth c s₁ B hml hv
  obtain ⟨rfl, hU⟩ := hv
  obtain ⟨hX, hR⟩ := cx_of (own := RX7) B hml rfl hU
  have hr := B.returns
  have hlocks := B.notSynchronized
  have hc0 : (0 : Nat) ≤ 0 := Nat.le_refl 0
  show W p l e (rmo 1 0 0) s m ([.ref (gS γ 8 0), .int a1, .int a2] : List Value).toArray below meth c s.heap [] 0 0 (MQ below (QV γ ad σ') ([.ref (gS γ 8 0), .int a1, .int a2] : List Value).toArray s 0 0 (gA γ)) (entryFrame m ([.ref (gS γ 8 0), .int a1, .int a2] : List Value).toArray 3)
  unfold f8_event at hw
  refine rw_entry (ca1 rfl (ca1 rfl (ca1 rfl ca0))) (Nat.le_of_ble_eq_true rfl) (fun ls hl1 => ?_)
  replace hl := hl1
  clear hl1
  refine rw_aload_n hX hl 0 rfl (Or.inr ⟨_, rfl⟩) dX7_event_0 rfl ?_
  refine rw_get hX hR 8 43 0 (C := RX7) (T := TX7) (N := 48) rfl (by decide) (Nat.le_of_ble_eq_true rfl) rfl (v := .ref (gS γ 1843 0)) rfl uw_X7 gw_971 rfl dX7_event_1 ?_
  refine rw_aload_n hX hl 0 rfl (Or.inr ⟨_, rfl⟩) dX7_event_4 rfl ?_
  refine rw_get hX hR 8 42 0 (C := RX7) (T := TX7) (N := 48) rfl (by decide) (Nat.le_of_ble_eq_true rfl) rfl (v := .int (gi σ 842 0)) rfl uw_X7 gw_970 rfl dX7_event_5 ?_
  refine lv_bipush (v := 20) hX.1.1 hX.1.2.1 dX7_event_8 (by decide) ?_
  refine lv_irem (x := (gi σ 842 0)) (y := 20) hX.1.1 hX.1.2.1 dX7_event_10 (by decide) ?_
  refine rw_iload_n hX hl 1 rfl dX7_event_11 rfl ?_
  obtain ⟨h2, hw1⟩ := ar_some hw
  replace hw := hw1
  clear hw1
  obtain ⟨j1, ej1⟩ : ∃ j, (((gi σ 842 0) - (gi σ 842 0) / 20 * 20) : Int32).toNatClampNeg = j := ⟨_, rfl⟩
  rw [ej1] at hw
  refine rw_iast hX hR 843 (n := 20) (i := ((gi σ 842 0) - (gi σ 842 0) / 20 * 20)) (x := a1) rfl (by decide) rfl rfl h2 dX7_event_12 (fun σ1 H locs e1 hR1 => ?_)
  replace hR := hR1
  clear hR1
  rw [ej1] at e1
  subst e1
  refine rw_aload_n hX hl 0 rfl (Or.inr ⟨_, rfl⟩) dX7_event_13 rfl ?_
  refine rw_get hX hR 8 44 0 (C := RX7) (T := TX7) (N := 48) rfl (by decide) (Nat.le_of_ble_eq_true rfl) rfl (v := .ref (gS γ 1844 0)) rfl uw_X7 gw_972 rfl dX7_event_14 ?_
  refine rw_aload_n hX hl 0 rfl (Or.inr ⟨_, rfl⟩) dX7_event_17 rfl ?_
  refine rw_get hX hR 8 42 0 (C := RX7) (T := TX7) (N := 48) rfl (by decide) (Nat.le_of_ble_eq_true rfl) rfl (v := .int (gi (zi σ 843 j1 a1) 842 0)) rfl uw_X7 gw_970 rfl dX7_event_18 ?_
  refine lv_bipush (v := 20) hX.1.1 hX.1.2.1 dX7_event_21 (by decide) ?_
  refine lv_irem (x := (gi (zi σ 843 j1 a1) 842 0)) (y := 20) hX.1.1 hX.1.2.1 dX7_event_23 (by decide) ?_
  refine rw_iload_n hX hl 2 rfl dX7_event_24 rfl ?_
  obtain ⟨h4, hw1⟩ := ar_some hw
  replace hw := hw1
  clear hw1
  obtain ⟨j3, ej3⟩ : ∃ j, (((gi (zi σ 843 j1 a1) 842 0) - (gi (zi σ 843 j1 a1) 842 0) / 20 * 20) : Int32).toNatClampNeg = j := ⟨_, rfl⟩
  rw [ej3] at hw
  refine rw_iast hX hR 844 (n := 20) (i := ((gi (zi σ 843 j1 a1) 842 0) - (gi (zi σ 843 j1 a1) 842 0) / 20 * 20)) (x := a2) rfl (by decide) rfl rfl h4 dX7_event_25 (fun σ1 H locs e1 hR1 => ?_)
  replace hR := hR1
  clear hR1
  rw [ej3] at e1
  subst e1
  refine rw_aload_n hX hl 0 rfl (Or.inr ⟨_, rfl⟩) dX7_event_26 rfl ?_
  refine lv_dup hX.1.1 hX.1.2.1 dX7_event_27 rfl ?_
  refine rw_get hX hR 8 42 0 (C := RX7) (T := TX7) (N := 48) rfl (by decide) (Nat.le_of_ble_eq_true rfl) rfl (v := .int (gi (zi (zi σ 843 j1 a1) 844 j3 a2) 842 0)) rfl uw_X7 gw_970 rfl dX7_event_28 ?_
  refine lv_iconst (v := 1) hX.1.1 hX.1.2.1 dX7_event_31 (by decide) ?_
  refine lv_iadd (x := (gi (zi (zi σ 843 j1 a1) 844 j3 a2) 842 0)) (y := 1) hX.1.1 hX.1.2.1 dX7_event_32 ?_
  refine rw_puti (x := ((gi (zi (zi σ 843 j1 a1) 844 j3 a2) 842 0) + 1)) hX hR 8 42 0 842 (C := RX7) (T := TX7) (N := 48) rfl (by decide) rfl rfl (Nat.le_of_ble_eq_true rfl) rfl uw_X7 tyX7 tyX7_ok nmX7 gw_970 rfl rfl (by decide) dX7_event_33 (fun σ1 H locs e1 hR1 => ?_)
  replace hR := hR1
  clear hR1
  subst e1
  exact rq_ve hX hR hr hw dX7_event_36 hlocks
set_option maxHeartbeats 8000000 in
set_option maxRecDepth 100000 in
theorem C_f8_driverFor (l : Launch) (γ : GT) (ad : Nat → Nat → Nat) {fu : Nat} (a1 : Int32) (σ : St) (r : Int32) (hw : f8_driverFor fu a1 σ = some r) : Met l yX7_driverFor (Cond.code yX7_driverFor cX7_driverFor 5 (Option.some Jvm.ClassFile.FieldType.int) :: GW) (rmo 1 0 0) (va_Pc [.ref (gS γ 8 0), .int a1] (RU γ ad σ)) (QI γ ad σ r) 0 0 (gA γ) := by
  refine Met.ofW (cc := cX7_driverFor) (maxL := 5) (ret := (Option.some Jvm.ClassFile.FieldType.int)) (by decide +kernel) rfl ?_
  intro p e s m args below meth c s₁ B hml hv
  obtain ⟨rfl, hU⟩ := hv
  obtain ⟨hX, hR⟩ := cx_of (own := RX7) B hml rfl hU
  have hr := B.returns
  have hlocks := B.notSynchronized
  have hc0 : (0 : Nat) ≤ 0 := Nat.le_refl 0
  show W p l e (rmo 1 0 0) s m ([.ref (gS γ 8 0), .int a1] : List Value).toArray below meth c s.heap [] 0 0 (MQ below (QI γ ad σ r) ([.ref (gS γ 8 0), .int a1] : List Value).toArray s 0 0 (gA γ)) (entryFrame m ([.ref (gS γ 8 0), .int a1] : List Value).toArray 5)
  unfold f8_driverFor at hw
  have L4 : ∀ (x1 : Int32) (n : Nat) (s9 : (Int32 × Int32)) (cells slots : Nat), cells ≤ 0 → slots ≤ 0 → ∀ (H : Heap) (locs : List Loc) (ls : Array Slot), lp (fun s8 => f8_driverFor_b4 fu x1 s8.1 s8.2 σ) n s9 = some r → RS γ ad σ s H locs → lh ls 5 [(0, .ref (gS γ 8 0)), (1, .int x1), (2, .int s9.1), (3, .int s9.2)] → W p l e (rmo 1 0 0) s m ([.ref (gS γ 8 0), .int a1] : List Value).toArray below meth c H locs cells slots (MQ below (QI γ ad σ r) ([.ref (gS γ 8 0), .int a1] : List Value).toArray s 0 0 (gA γ)) (F0 m 4 ls []) := by
    intro x1 n4
    induction n4 with
    | zero => intro s9 cells slots hc1 hc2 H locs ls hw hR hl; exact (lp_zero hw).elim
    | succ n4 ih4 =>
      intro s9 cells slots hc1 hc2 H locs ls hw hR hl
      obtain ⟨o4, hw1, hb4, ho4⟩ := lp_succ hw
      replace hw := hw1
      clear hw1
      obtain ⟨x2, x3⟩ := s9
      replace hw : f8_driverFor_b4 fu x1 x2 x3 σ = some o4 := hw
      replace hl : lh ls 5 [(0, .ref (gS γ 8 0)), (1, .int x1), (2, .int x2), (3, .int x3)] := hl
      unfold f8_driverFor_b4 at hw
      have J63 : ∀ (x3 : Int32) (y0 : Int32) (cells slots : Nat), cells ≤ 0 → slots ≤ 0 → ∀ (H : Heap) (locs : List Loc) (ls : Array Slot), f8_driverFor_j63 fu x1 x3 y0 σ = some o4 → RS γ ad σ s H locs → lh ls 5 [(0, .ref (gS γ 8 0)), (1, .int x1), (3, .int x3)] → W p l e (rmo 1 0 0) s m ([.ref (gS γ 8 0), .int a1] : List Value).toArray below meth c H locs cells slots (MQ below (QI γ ad σ r) ([.ref (gS γ 8 0), .int a1] : List Value).toArray s 0 0 (gA γ)) (F0 m 63 ls [.int y0]) := by
        intro x3 y0 cells slots hc1 hc2 H locs ls hw hR hl
        unfold f8_driverFor_j63 at hw
        refine rw_istore_n (lv' := [(2, .int y0), (0, .ref (gS γ 8 0)), (1, .int x1), (3, .int x3)]) hX hl (by decide) rfl dX7_driverFor_63 rfl (fun ls hl1 => ?_)
        replace hl := hl1
        clear hl1
        refine rw_iinc (k := 3) (v := (x3 + 1)) (lv' := [(3, .int (x3 + 1)), (2, .int y0), (0, .ref (gS γ 8 0)), (1, .int x1)]) hX hl rfl (congrArg (fun q => x3 + q) (show Int32.ofInt 1 = 1 by decide)) (by decide) rfl dX7_driverFor_64 (fun ls hl1 => ?_)
        replace hl := hl1
        clear hl1
        refine lv_goto (tgt := 4) hX.1.1 hX.1.2.1 dX7_driverFor_67 (by decide) ?_
        exact ih4 _ _ _ (by omega) (by omega) _ _ _ (lp_back hw hb4) hR (lh_sub hl [2, 3, 1, 0] rfl)
      have J62 : ∀ (x2 : Int32) (x3 : Int32) (cells slots : Nat), cells ≤ 0 → slots ≤ 0 → ∀ (H : Heap) (locs : List Loc) (ls : Array Slot), f8_driverFor_j62 fu x1 x2 x3 σ = some o4 → RS γ ad σ s H locs → lh ls 5 [(0, .ref (gS γ 8 0)), (1, .int x1), (2, .int x2), (3, .int x3)] → W p l e (rmo 1 0 0) s m ([.ref (gS γ 8 0), .int a1] : List Value).toArray below meth c H locs cells slots (MQ below (QI γ ad σ r) ([.ref (gS γ 8 0), .int a1] : List Value).toArray s 0 0 (gA γ)) (F0 m 62 ls []) := by
        intro x2 x3 cells slots hc1 hc2 H locs ls hw hR hl
        unfold f8_driverFor_j62 at hw
        refine rw_iload_n hX hl 2 rfl dX7_driverFor_62 rfl ?_
        exact J63 x3 x2 _ _ (by omega) (by omega) _ _ _ hw hR (lh_sub hl [0, 1, 3] rfl)
      have J58 : ∀ (x3 : Int32) (cells slots : Nat), cells ≤ 0 → slots ≤ 0 → ∀ (H : Heap) (locs : List Loc) (ls : Array Slot), f8_driverFor_j58 fu x1 x3 σ = some o4 → RS γ ad σ s H locs → lh ls 5 [(0, .ref (gS γ 8 0)), (1, .int x1), (3, .int x3)] → W p l e (rmo 1 0 0) s m ([.ref (gS γ 8 0), .int a1] : List Value).toArray below meth c H locs cells slots (MQ below (QI γ ad σ r) ([.ref (gS γ 8 0), .int a1] : List Value).toArray s 0 0 (gA γ)) (F0 m 58 ls []) := by
        intro x3 cells slots hc1 hc2 H locs ls hw hR hl
        unfold f8_driverFor_j58 at hw
        refine rw_iload_n hX hl 2 rfl dX7_driverFor_58 rfl ?_
        refine lv_goto (tgt := 63) hX.1.1 hX.1.2.1 dX7_driverFor_59 (by decide) ?_
        exact J63 x3 x3 _ _ (by omega) (by omega) _ _ _ hw hR (lh_sub hl [0, 1, 2] rfl)
      have J31 : ∀ (x2 : Int32) (x3 : Int32) (y0 : Bool) (cells slots : Nat), cells ≤ 0 → slots ≤ 0 → ∀ (H : Heap) (locs : List Loc) (ls : Array Slot), f8_driverFor_j31 fu x1 x2 x3 y0 σ = some o4 → RS γ ad σ s H locs → lh ls 5 [(0, .ref (gS γ 8 0)), (1, .int x1), (2, .int x2), (3, .int x3)] → W p l e (rmo 1 0 0) s m ([.ref (gS γ 8 0), .int a1] : List Value).toArray below meth c H locs cells slots (MQ below (QI γ ad σ r) ([.ref (gS γ 8 0), .int a1] : List Value).toArray s 0 0 (gA γ)) (F0 m 31 ls [.int (b2i y0)]) := by
        intro x2 x3 y0 cells slots hc1 hc2 H locs ls hw hR hl
        unfold f8_driverFor_j31 at hw
        refine rw_istore (lv' := [(4, .int (b2i y0)), (0, .ref (gS γ 8 0)), (1, .int x1), (2, .int x2), (3, .int x3)]) hX hl (by decide) rfl dX7_driverFor_31 (fun ls hl1 => ?_)
        replace hl := hl1
        clear hl1
        refine rw_iload hX hl 0 rfl dX7_driverFor_33 ?_
        refine rw_ifeqZ (b := y0) (tgt := 62) hX dX7_driverFor_35 (by decide) (fun c5 => ?_) (fun c5 => ?_)
        · replace hw := if_f hw c5
          exact J62 x2 x3 _ _ (by omega) (by omega) _ _ _ hw hR (lh_sub hl [1, 2, 3, 4] rfl)
        · replace hw := if_t hw c5
          refine rw_iload_n hX hl 3 rfl dX7_driverFor_38 rfl ?_
          refine lv_iconst (v := (-1)) hX.1.1 hX.1.2.1 dX7_driverFor_39 (by decide) ?_
          refine lv_icmp_eq (x := x2) (y := (-1)) (tgt := 58) hX.1.1 hX.1.2.1 dX7_driverFor_40 (by decide) (fun c6 => ?_) (fun c6 => ?_)
          · replace hw := if_t hw c6
            exact J58 x3 _ _ (by omega) (by omega) _ _ _ hw hR (lh_sub hl [1, 2, 4] rfl)
          · replace hw := if_f hw c6
            refine rw_aload_n hX hl 1 rfl (Or.inr ⟨_, rfl⟩) dX7_driverFor_43 rfl ?_
            refine rw_get hX hR 8 26 0 (C := RX7) (T := TX7) (N := 48) rfl (by decide) (Nat.le_of_ble_eq_true rfl) rfl (v := .ref (gS γ 1826 0)) rfl uw_X7 gw_954 rfl dX7_driverFor_44 ?_
            refine rw_iload_n hX hl 4 rfl dX7_driverFor_47 rfl ?_
            obtain ⟨h8, hw1⟩ := ar_some hw
            replace hw := hw1
            clear hw1
            obtain ⟨j7, ej7⟩ : ∃ j, (x3 : Int32).toNatClampNeg = j := ⟨_, rfl⟩
            rw [ej7] at hw
            refine rw_iald hX hR 826 (n := 8) (i := x3) (v := (gi σ 826 j7)) rfl (by decide) rfl rfl h8 (by rw [ej7]) dX7_driverFor_48 ?_
            refine rw_aload_n hX hl 1 rfl (Or.inr ⟨_, rfl⟩) dX7_driverFor_49 rfl ?_
            refine rw_get hX hR 8 26 0 (C := RX7) (T := TX7) (N := 48) rfl (by decide) (Nat.le_of_ble_eq_true rfl) rfl (v := .ref (gS γ 1826 0)) rfl uw_X7 gw_954 rfl dX7_driverFor_50 ?_
            refine rw_iload_n hX hl 3 rfl dX7_driverFor_53 rfl ?_
            obtain ⟨h10, hw1⟩ := ar_some hw
            replace hw := hw1
            clear hw1
            obtain ⟨j9, ej9⟩ : ∃ j, (x2 : Int32).toNatClampNeg = j := ⟨_, rfl⟩
            rw [ej9] at hw
            refine rw_iald hX hR 826 (n := 8) (i := x2) (v := (gi σ 826 j9)) rfl (by decide) rfl rfl h10 (by rw [ej9]) dX7_driverFor_54 ?_
            refine lv_icmp_le (x := (gi σ 826 j7)) (y := (gi σ 826 j9)) (tgt := 62) hX.1.1 hX.1.2.1 dX7_driverFor_55 (by decide) (fun c11 => ?_) (fun c11 => ?_)
            · replace hw := if_t hw c11
              exact J62 x2 x3 _ _ (by omega) (by omega) _ _ _ hw hR (lh_sub hl [1, 2, 3, 4] rfl)
            · replace hw := if_f hw c11
              exact J58 x3 _ _ (by omega) (by omega) _ _ _ hw hR (lh_sub hl [1, 2, 4] rfl)
      refine rw_iload_n hX hl 3 rfl dX7_driverFor_4 rfl ?_
      refine rw_aload_n hX hl 0 rfl (Or.inr ⟨_, rfl⟩) dX7_driverFor_5 rfl ?_
      refine rw_get hX hR 8 24 0 (C := RX7) (T := TX7) (N := 48) rfl (by decide) (Nat.le_of_ble_eq_true rfl) rfl (v := .int (gi σ 824 0)) rfl uw_X7 gw_952 rfl dX7_driverFor_6 ?_
      refine lv_icmp_ge (x := x3) (y := (gi σ 824 0)) (tgt := 70) hX.1.1 hX.1.2.1 dX7_driverFor_9 (by decide) (fun c1 => ?_) (fun c1 => ?_)
      · replace hw := if_t hw c1
        replace hw := lp_out hw ho4
        refine rw_iload_n hX hl 2 rfl dX7_driverFor_70 rfl ?_
        refine W.widen (k := 0) (n := 0) (by omega) (by omega) ?_
        exact rq_i hX hR hr hw dX7_driverFor_71 hlocks
      · replace hw := if_f hw c1
        refine rw_aload_n hX hl 0 rfl (Or.inr ⟨_, rfl⟩) dX7_driverFor_12 rfl ?_
        refine rw_get hX hR 8 25 0 (C := RX7) (T := TX7) (N := 48) rfl (by decide) (Nat.le_of_ble_eq_true rfl) rfl (v := .ref (gS γ 1825 0)) rfl uw_X7 gw_953 rfl dX7_driverFor_13 ?_
        refine rw_iload_n hX hl 3 rfl dX7_driverFor_16 rfl ?_
        obtain ⟨h3, hw1⟩ := ar_some hw
        replace hw := hw1
        clear hw1
        obtain ⟨j2, ej2⟩ : ∃ j, (x3 : Int32).toNatClampNeg = j := ⟨_, rfl⟩
        rw [ej2] at hw
        refine rw_iald hX hR 825 (n := 8) (i := x3) (v := (gi σ 825 j2)) rfl (by decide) rfl rfl h3 (by rw [ej2]) dX7_driverFor_17 ?_
        refine rw_iload_n hX hl 1 rfl dX7_driverFor_18 rfl ?_
        refine lv_ishr (x := (gi σ 825 j2)) (y := x1) hX.1.1 hX.1.2.1 dX7_driverFor_19 ?_
        refine lv_iconst (v := 1) hX.1.1 hX.1.2.1 dX7_driverFor_20 (by decide) ?_
        refine lv_iand (x := ((gi σ 825 j2) >>> (x1 &&& 31))) (y := 1) hX.1.1 hX.1.2.1 dX7_driverFor_21 ?_
        refine lv_iconst (v := 1) hX.1.1 hX.1.2.1 dX7_driverFor_22 (by decide) ?_
        refine lv_icmp_ne (x := (((gi σ 825 j2) >>> (x1 &&& 31)) &&& 1)) (y := 1) (tgt := 30) hX.1.1 hX.1.2.1 dX7_driverFor_23 (by decide) (fun c4 => ?_) (fun c4 => ?_)
        · replace hw := if_f hw c4
          refine lv_iconst (v := 0) hX.1.1 hX.1.2.1 dX7_driverFor_30 (by decide) ?_
          exact J31 x2 x3 false _ _ (by omega) (by omega) _ _ _ hw hR (lh_sub hl [0, 1, 2, 3] rfl)
        · replace hw := if_t hw c4
          refine lv_iconst (v := 1) hX.1.1 hX.1.2.1 dX7_driverFor_26 (by decide) ?_
          refine lv_goto (tgt := 31) hX.1.1 hX.1.2.1 dX7_driverFor_27 (by decide) ?_
          exact J31 x2 x3 true _ _ (by omega) (by omega) _ _ _ hw hR (lh_sub hl [0, 1, 2, 3] rfl)
  refine rw_entry (ca1 rfl (ca1 rfl ca0)) (Nat.le_of_ble_eq_true rfl) (fun ls hl1 => ?_)
  replace hl := hl1
  clear hl1
  refine lv_iconst (v := (-1)) hX.1.1 hX.1.2.1 dX7_driverFor_0 (by decide) ?_
  refine rw_istore_n (lv' := [(2, .int (-1)), (0, .ref (gS γ 8 0)), (1, .int a1)]) hX hl (by decide) rfl dX7_driverFor_1 rfl (fun ls hl1 => ?_)
  replace hl := hl1
  clear hl1
  refine lv_iconst (v := 0) hX.1.1 hX.1.2.1 dX7_driverFor_2 (by decide) ?_
  refine rw_istore_n (lv' := [(3, .int 0), (2, .int (-1)), (0, .ref (gS γ 8 0)), (1, .int a1)]) hX hl (by decide) rfl dX7_driverFor_3 rfl (fun ls hl1 => ?_)
  replace hl := hl1
  clear hl1
  exact L4 a1 _ _ _ _ (by omega) (by omega) _ _ _ hw hR (lh_sub hl [2, 3, 1, 0] rfl)
set_option maxHeartbeats 8000000 in
set_option maxRecDepth 100000 in
theorem C_f8_spaceOf (l : Launch) (γ : GT) (ad : Nat → Nat → Nat) {fu : Nat} (a1 : Int32) (σ : St) (r : Int32) (hw : f8_spaceOf fu a1 σ = some r) : Met l yX7_spaceOf (Cond.code yX7_spaceOf cX7_spaceOf 3 (Option.some Jvm.ClassFile.FieldType.int) :: GW) (rmo 1 0 0) (va_Pc [.ref (gS γ 8 0), .int a1] (RU γ ad σ)) (QI γ ad σ r) 0 0 (gA γ) := by
  refine Met.ofW (cc := cX7_spaceOf) (maxL := 3) (ret := (Option.some Jvm.ClassFile.FieldType.int)) (by decide +kernel) rfl ?_
  intro p e s m args below meth c s₁ B hml hv
  obtain ⟨rfl, hU⟩ := hv
  obtain ⟨hX, hR⟩ := cx_of (own := RX7) B hml rfl hU
  have hr := B.returns
  have hlocks := B.notSynchronized
  have hc0 : (0 : Nat) ≤ 0 := Nat.le_refl 0
  show W p l e (rmo 1 0 0) s m ([.ref (gS γ 8 0), .int a1] : List Value).toArray below meth c s.heap [] 0 0 (MQ below (QI γ ad σ r) ([.ref (gS γ 8 0), .int a1] : List Value).toArray s 0 0 (gA γ)) (entryFrame m ([.ref (gS γ 8 0), .int a1] : List Value).toArray 3)
  unfold f8_spaceOf at hw
  have J31 : ∀ (x2 : Int32) (cells slots : Nat), cells ≤ 0 → slots ≤ 0 → ∀ (H : Heap) (locs : List Loc) (ls : Array Slot), f8_spaceOf_j31 fu x2 σ = some r → RS γ ad σ s H locs → lh ls 3 [(2, .int x2)] → W p l e (rmo 1 0 0) s m ([.ref (gS γ 8 0), .int a1] : List Value).toArray below meth c H locs cells slots (MQ below (QI γ ad σ r) ([.ref (gS γ 8 0), .int a1] : List Value).toArray s 0 0 (gA γ)) (F0 m 31 ls []) := by
    intro x2 cells slots hc1 hc2 H locs ls hw hR hl
    unfold f8_spaceOf_j31 at hw
    refine rw_iload_n hX hl 0 rfl dX7_spaceOf_31 rfl ?_
    refine W.widen (k := 0) (n := 0) (by omega) (by omega) ?_
    exact rq_i hX hR hr hw dX7_spaceOf_32 hlocks
  have L7 : ∀ (n : Nat) (s9 : Int32) (cells slots : Nat), cells ≤ 0 → slots ≤ 0 → ∀ (H : Heap) (locs : List Loc) (ls : Array Slot), lp (fun s8 => f8_spaceOf_b7 fu s8 σ) n s9 = some r → RS γ ad σ s H locs → lh ls 3 [(0, .ref (gS γ 8 0)), (2, .int s9)] → W p l e (rmo 1 0 0) s m ([.ref (gS γ 8 0), .int a1] : List Value).toArray below meth c H locs cells slots (MQ below (QI γ ad σ r) ([.ref (gS γ 8 0), .int a1] : List Value).toArray s 0 0 (gA γ)) (F0 m 7 ls []) := by
    intro n7
    induction n7 with
    | zero => intro s9 cells slots hc1 hc2 H locs ls hw hR hl; exact (lp_zero hw).elim
    | succ n7 ih7 =>
      intro x2 cells slots hc1 hc2 H locs ls hw hR hl
      obtain ⟨o7, hw1, hb7, ho7⟩ := lp_succ hw
      replace hw := hw1
      clear hw1
      replace hw : f8_spaceOf_b7 fu x2 σ = some o7 := hw
      replace hl : lh ls 3 [(0, .ref (gS γ 8 0)), (2, .int x2)] := hl
      unfold f8_spaceOf_b7 at hw
      refine rw_iload_n hX hl 1 rfl dX7_spaceOf_7 rfl ?_
      refine lv_iconst (v := (-1)) hX.1.1 hX.1.2.1 dX7_spaceOf_8 (by decide) ?_
      refine lv_icmp_eq (x := x2) (y := (-1)) (tgt := 31) hX.1.1 hX.1.2.1 dX7_spaceOf_9 (by decide) (fun c3 => ?_) (fun c3 => ?_)
      · replace hw := if_t hw c3
        replace hw := lp_out hw ho7
        exact J31 x2 _ _ (by omega) (by omega) _ _ _ hw hR (lh_sub hl [1] rfl)
      · replace hw := if_f hw c3
        refine rw_aload_n hX hl 0 rfl (Or.inr ⟨_, rfl⟩) dX7_spaceOf_12 rfl ?_
        refine rw_get hX hR 8 6 0 (C := RX7) (T := TX7) (N := 48) rfl (by decide) (Nat.le_of_ble_eq_true rfl) rfl (v := .ref (gS γ 1806 0)) rfl uw_X7 gw_934 rfl dX7_spaceOf_13 ?_
        refine rw_iload_n hX hl 1 rfl dX7_spaceOf_16 rfl ?_
        obtain ⟨h5, hw1⟩ := ar_some hw
        replace hw := hw1
        clear hw1
        obtain ⟨j4, ej4⟩ : ∃ j, (x2 : Int32).toNatClampNeg = j := ⟨_, rfl⟩
        rw [ej4] at hw
        refine rw_iald hX hR 806 (n := 24) (i := x2) (v := (gi σ 806 j4)) rfl (by decide) rfl rfl h5 (by rw [ej4]) dX7_spaceOf_17 ?_
        refine lv_if_ne (x := (gi σ 806 j4)) (tgt := 31) hX.1.1 hX.1.2.1 dX7_spaceOf_18 (by decide) (fun c6 => ?_) (fun c6 => ?_)
        · replace hw := if_f hw c6
          replace hw := lp_out hw ho7
          exact J31 x2 _ _ (by omega) (by omega) _ _ _ hw hR (lh_sub hl [1] rfl)
        · replace hw := if_t hw c6
          refine rw_aload_n hX hl 0 rfl (Or.inr ⟨_, rfl⟩) dX7_spaceOf_21 rfl ?_
          refine rw_get hX hR 8 4 0 (C := RX7) (T := TX7) (N := 48) rfl (by decide) (Nat.le_of_ble_eq_true rfl) rfl (v := .ref (gS γ 1804 0)) rfl uw_X7 gw_932 rfl dX7_spaceOf_22 ?_
          refine rw_iload_n hX hl 1 rfl dX7_spaceOf_25 rfl ?_
          obtain ⟨h8, hw1⟩ := ar_some hw
          replace hw := hw1
          clear hw1
          obtain ⟨j7, ej7⟩ : ∃ j, (x2 : Int32).toNatClampNeg = j := ⟨_, rfl⟩
          rw [ej7] at hw
          refine rw_iald hX hR 804 (n := 24) (i := x2) (v := (gi σ 804 j7)) rfl (by decide) rfl rfl h8 (by rw [ej7]) dX7_spaceOf_26 ?_
          refine rw_istore_n (lv' := [(2, .int (gi σ 804 j7)), (0, .ref (gS γ 8 0))]) hX hl (by decide) rfl dX7_spaceOf_27 rfl (fun ls hl1 => ?_)
          replace hl := hl1
          clear hl1
          refine lv_goto (tgt := 7) hX.1.1 hX.1.2.1 dX7_spaceOf_28 (by decide) ?_
          exact ih7 _ _ _ (by omega) (by omega) _ _ _ (lp_back hw hb7) hR (lh_sub hl [1, 0] rfl)
  refine rw_entry (ca1 rfl (ca1 rfl ca0)) (Nat.le_of_ble_eq_true rfl) (fun ls hl1 => ?_)
  replace hl := hl1
  clear hl1
  refine rw_aload_n hX hl 0 rfl (Or.inr ⟨_, rfl⟩) dX7_spaceOf_0 rfl ?_
  refine rw_get hX hR 8 4 0 (C := RX7) (T := TX7) (N := 48) rfl (by decide) (Nat.le_of_ble_eq_true rfl) rfl (v := .ref (gS γ 1804 0)) rfl uw_X7 gw_932 rfl dX7_spaceOf_1 ?_
  refine rw_iload_n hX hl 1 rfl dX7_spaceOf_4 rfl ?_
  obtain ⟨h2, hw1⟩ := ar_some hw
  replace hw := hw1
  clear hw1
  obtain ⟨j1, ej1⟩ : ∃ j, (a1 : Int32).toNatClampNeg = j := ⟨_, rfl⟩
  rw [ej1] at hw
  refine rw_iald hX hR 804 (n := 24) (i := a1) (v := (gi σ 804 j1)) rfl (by decide) rfl rfl h2 (by rw [ej1]) dX7_spaceOf_5 ?_
  refine rw_istore_n (lv' := [(2, .int (gi σ 804 j1)), (0, .ref (gS γ 8 0)), (1, .int a1)]) hX hl (by decide) rfl dX7_spaceOf_6 rfl (fun ls hl1 => ?_)
  replace hl := hl1
  clear hl1
  exact L7 _ _ _ _ (by omega) (by omega) _ _ _ hw hR (lh_sub hl [1, 0] rfl)
set_option maxHeartbeats 8000000 in
set_option maxRecDepth 100000 in
theorem C_f8_isRoom (l : Launch) (γ : GT) (ad : Nat → Nat → Nat) {fu : Nat} (a1 : Int32) (a2 : Int32) (σ : St) (r : Bool) (hw : f8_isRoom fu a1 a2 σ = some r) : Met l yX7_isRoom (Cond.code yX7_isRoom cX7_isRoom 6 (Option.some Jvm.ClassFile.FieldType.boolean) :: GW) (rmo 2 0 0) (va_Pc [.ref (gS γ 8 0), .int a1, .int a2] (RU γ ad σ)) (QI γ ad σ (b2i r)) 0 0 (gA γ) := by
  refine Met.ofW (cc := cX7_isRoom) (maxL := 6) (ret := (Option.some Jvm.ClassFile.FieldType.boolean)) (by decide +kernel) rfl ?_
  intro p e s m args below meth c s₁ B hml hv
  obtain ⟨rfl, hU⟩ := hv
  obtain ⟨hX, hR⟩ := cx_of (own := RX7) B hml rfl hU
  have hr := B.returns
  have hlocks := B.notSynchronized
  have hc0 : (0 : Nat) ≤ 0 := Nat.le_refl 0
  show W p l e (rmo 2 0 0) s m ([.ref (gS γ 8 0), .int a1, .int a2] : List Value).toArray below meth c s.heap [] 0 0 (MQ below (QI γ ad σ (b2i r)) ([.ref (gS γ 8 0), .int a1, .int a2] : List Value).toArray s 0 0 (gA γ)) (entryFrame m ([.ref (gS γ 8 0), .int a1, .int a2] : List Value).toArray 6)
  unfold f8_isRoom at hw
  have L5 : ∀ (x1 : Int32) (x2 : Int32) (n : Nat) (s9 : (Bool × Int32)) (cells slots : Nat), cells ≤ 0 → slots ≤ 0 → ∀ (H : Heap) (locs : List Loc) (ls : Array Slot), lp (fun s8 => f8_isRoom_b5 fu x1 x2 s8.1 s8.2 σ) n s9 = some r → RS γ ad σ s H locs → lh ls 6 [(0, .ref (gS γ 8 0)), (1, .int x1), (2, .int x2), (3, .int (b2i s9.1)), (4, .int s9.2)] → W p l e (rmo 2 0 0) s m ([.ref (gS γ 8 0), .int a1, .int a2] : List Value).toArray below meth c H locs cells slots (MQ below (QI γ ad σ (b2i r)) ([.ref (gS γ 8 0), .int a1, .int a2] : List Value).toArray s 0 0 (gA γ)) (F0 m 5 ls []) := by
    intro x1 x2 n5
    induction n5 with
    | zero => intro s9 cells slots hc1 hc2 H locs ls hw hR hl; exact (lp_zero hw).elim
    | succ n5 ih5 =>
      intro s9 cells slots hc1 hc2 H locs ls hw hR hl
      obtain ⟨o5, hw1, hb5, ho5⟩ := lp_succ hw
      replace hw := hw1
      clear hw1
      obtain ⟨x3, x4⟩ := s9
      replace hw : f8_isRoom_b5 fu x1 x2 x3 x4 σ = some o5 := hw
      replace hl : lh ls 6 [(0, .ref (gS γ 8 0)), (1, .int x1), (2, .int x2), (3, .int (b2i x3)), (4, .int x4)] := hl
      unfold f8_isRoom_b5 at hw
      have J111 : ∀ (x4 : Int32) (y0 : Bool) (cells slots : Nat), cells ≤ 0 → slots ≤ 0 → ∀ (H : Heap) (locs : List Loc) (ls : Array Slot), f8_isRoom_j111 fu x1 x2 x4 y0 σ = some o5 → RS γ ad σ s H locs → lh ls 6 [(0, .ref (gS γ 8 0)), (1, .int x1), (2, .int x2), (4, .int x4)] → W p l e (rmo 2 0 0) s m ([.ref (gS γ 8 0), .int a1, .int a2] : List Value).toArray below meth c H locs cells slots (MQ below (QI γ ad σ (b2i r)) ([.ref (gS γ 8 0), .int a1, .int a2] : List Value).toArray s 0 0 (gA γ)) (F0 m 111 ls [.int (b2i y0)]) := by
        intro x4 y0 cells slots hc1 hc2 H locs ls hw hR hl
        unfold f8_isRoom_j111 at hw
        refine rw_istore_n (lv' := [(3, .int (b2i y0)), (0, .ref (gS γ 8 0)), (1, .int x1), (2, .int x2), (4, .int x4)]) hX hl (by decide) rfl dX7_isRoom_111 rfl (fun ls hl1 => ?_)
        replace hl := hl1
        clear hl1
        refine rw_iinc (k := 4) (v := (x4 + 1)) (lv' := [(4, .int (x4 + 1)), (3, .int (b2i y0)), (0, .ref (gS γ 8 0)), (1, .int x1), (2, .int x2)]) hX hl rfl (congrArg (fun q => x4 + q) (show Int32.ofInt 1 = 1 by decide)) (by decide) rfl dX7_isRoom_112 (fun ls hl1 => ?_)
        replace hl := hl1
        clear hl1
        refine lv_goto (tgt := 5) hX.1.1 hX.1.2.1 dX7_isRoom_115 (by decide) ?_
        exact ih5 _ _ _ (by omega) (by omega) _ _ _ (lp_back hw hb5) hR (lh_sub hl [2, 3, 4, 1, 0] rfl)
      have J95 : ∀ (x3 : Bool) (x4 : Int32) (y0 : Bool) (cells slots : Nat), cells ≤ 0 → slots ≤ 0 → ∀ (H : Heap) (locs : List Loc) (ls : Array Slot), f8_isRoom_j95 fu x1 x2 x3 x4 y0 σ = some o5 → RS γ ad σ s H locs → lh ls 6 [(0, .ref (gS γ 8 0)), (1, .int x1), (2, .int x2), (3, .int (b2i x3)), (4, .int x4)] → W p l e (rmo 2 0 0) s m ([.ref (gS γ 8 0), .int a1, .int a2] : List Value).toArray below meth c H locs cells slots (MQ below (QI γ ad σ (b2i r)) ([.ref (gS γ 8 0), .int a1, .int a2] : List Value).toArray s 0 0 (gA γ)) (F0 m 95 ls [.int (b2i y0)]) := by
        intro x3 x4 y0 cells slots hc1 hc2 H locs ls hw hR hl
        unfold f8_isRoom_j95 at hw
        refine rw_istore (lv' := [(5, .int (b2i y0)), (0, .ref (gS γ 8 0)), (1, .int x1), (2, .int x2), (3, .int (b2i x3)), (4, .int x4)]) hX hl (by decide) rfl dX7_isRoom_95 (fun ls hl1 => ?_)
        replace hl := hl1
        clear hl1
        refine rw_iload_n hX hl 4 rfl dX7_isRoom_97 rfl ?_
        refine rw_ifeqZ (b := x3) (tgt := 110) hX dX7_isRoom_98 (by decide) (fun c3 => ?_) (fun c3 => ?_)
        · replace hw := if_f hw c3
          refine lv_iconst (v := 0) hX.1.1 hX.1.2.1 dX7_isRoom_110 (by decide) ?_
          exact J111 x4 false _ _ (by omega) (by omega) _ _ _ hw hR (lh_sub hl [1, 2, 3, 5] rfl)
        · replace hw := if_t hw c3
          refine rw_iload hX hl 0 rfl dX7_isRoom_101 ?_
          refine rw_ifneZ (b := y0) (tgt := 110) hX dX7_isRoom_103 (by decide) (fun c4 => ?_) (fun c4 => ?_)
          · replace hw := if_t hw c4
            refine lv_iconst (v := 0) hX.1.1 hX.1.2.1 dX7_isRoom_110 (by decide) ?_
            exact J111 x4 false _ _ (by omega) (by omega) _ _ _ hw hR (lh_sub hl [1, 2, 3, 5] rfl)
          · replace hw := if_f hw c4
            refine lv_iconst (v := 1) hX.1.1 hX.1.2.1 dX7_isRoom_106 (by decide) ?_
            refine lv_goto (tgt := 111) hX.1.1 hX.1.2.1 dX7_isRoom_107 (by decide) ?_
            exact J111 x4 true _ _ (by omega) (by omega) _ _ _ hw hR (lh_sub hl [1, 2, 3, 5] rfl)
      refine rw_iload hX hl 4 rfl dX7_isRoom_5 ?_
      refine rw_aload_n hX hl 0 rfl (Or.inr ⟨_, rfl⟩) dX7_isRoom_7 rfl ?_
      refine rw_get hX hR 8 3 0 (C := RX7) (T := TX7) (N := 48) rfl (by decide) (Nat.le_of_ble_eq_true rfl) rfl (v := .int (gi σ 803 0)) rfl uw_X7 gw_931 rfl dX7_isRoom_8 ?_
      refine lv_icmp_ge (x := x4) (y := (gi σ 803 0)) (tgt := 118) hX.1.1 hX.1.2.1 dX7_isRoom_11 (by decide) (fun c1 => ?_) (fun c1 => ?_)
      · replace hw := if_t hw c1
        replace hw := lp_out hw ho5
        refine rw_iload_n hX hl 3 rfl dX7_isRoom_118 rfl ?_
        refine W.widen (k := 0) (n := 0) (by omega) (by omega) ?_
        exact rq_z hX hR hr (v := x3) rfl hw dX7_isRoom_119 hlocks
      · replace hw := if_f hw c1
        refine rw_iload hX hl 4 rfl dX7_isRoom_14 ?_
        refine rw_iload_n hX hl 1 rfl dX7_isRoom_16 rfl ?_
        refine lv_icmp_eq (x := x4) (y := x1) (tgt := 94) hX.1.1 hX.1.2.1 dX7_isRoom_17 (by decide) (fun c2 => ?_) (fun c2 => ?_)
        · replace hw := if_t hw c2
          refine lv_iconst (v := 0) hX.1.1 hX.1.2.1 dX7_isRoom_94 (by decide) ?_
          exact J95 x3 x4 false _ _ (by omega) (by omega) _ _ _ hw hR (lh_sub hl [0, 1, 2, 3, 4] rfl)
        · replace hw := if_f hw c2
          refine rw_aload_n hX hl 0 rfl (Or.inr ⟨_, rfl⟩) dX7_isRoom_20 rfl ?_
          refine rw_iload hX hl 4 rfl dX7_isRoom_21 ?_
          obtain ⟨v5, g7, hw1⟩ := ob1_some hw
          replace hw := hw1
          clear hw1
          refine rw_cVi hX hR pk_f8_isBound (mc := 0) (ms := 0) ⟨rfl, rfl, (show 1 + 1 ≤ 2 by omega), (show 8 + (2 + 11) + 64 * 1 ≤ 64 * 2 by omega)⟩ (As := [.int x4]) (rest := []) rfl (C_f8_isBound l γ ad x4 σ v5 g7) gw_1097 gw_1099 gs_55 (rs_recv hX hR 8 0 (C := RX7) (T := TX7) (N := 48) rfl (by decide) (Nat.le_of_ble_eq_true rfl) rfl) rfl hl.1 ca0 (Nat.le_of_ble_eq_true rfl) dX7_isRoom_23 ⟨(show cells + 0 ≤ 0 by omega), (show slots + 0 ≤ 0 by omega)⟩ (fun H locs hR1 => ?_)
          replace hR := hR1
          clear hR1
          refine rw_ifeqZ (b := v5) (tgt := 94) hX dX7_isRoom_26 (by decide) (fun c8 => ?_) (fun c8 => ?_)
          · replace hw := if_f hw c8
            refine lv_iconst (v := 0) hX.1.1 hX.1.2.1 dX7_isRoom_94 (by decide) ?_
            exact J95 x3 x4 false _ _ (by omega) (by omega) _ _ _ hw hR (lh_sub hl [0, 1, 2, 3, 4] rfl)
          · replace hw := if_t hw c8
            refine rw_aload_n hX hl 0 rfl (Or.inr ⟨_, rfl⟩) dX7_isRoom_29 rfl ?_
            refine rw_get hX hR 8 6 0 (C := RX7) (T := TX7) (N := 48) rfl (by decide) (Nat.le_of_ble_eq_true rfl) rfl (v := .ref (gS γ 1806 0)) rfl uw_X7 gw_934 rfl dX7_isRoom_30 ?_
            refine rw_iload hX hl 4 rfl dX7_isRoom_33 ?_
            obtain ⟨h10, hw1⟩ := ar_some hw
            replace hw := hw1
            clear hw1
            obtain ⟨j9, ej9⟩ : ∃ j, (x4 : Int32).toNatClampNeg = j := ⟨_, rfl⟩
            rw [ej9] at hw
            refine rw_iald hX hR 806 (n := 24) (i := x4) (v := (gi σ 806 j9)) rfl (by decide) rfl rfl h10 (by rw [ej9]) dX7_isRoom_35 ?_
            refine lv_if_le (x := (gi σ 806 j9)) (tgt := 94) hX.1.1 hX.1.2.1 dX7_isRoom_36 (by decide) (fun c11 => ?_) (fun c11 => ?_)
            · replace hw := if_t hw c11
              refine lv_iconst (v := 0) hX.1.1 hX.1.2.1 dX7_isRoom_94 (by decide) ?_
              exact J95 x3 x4 false _ _ (by omega) (by omega) _ _ _ hw hR (lh_sub hl [0, 1, 2, 3, 4] rfl)
            · replace hw := if_f hw c11
              refine rw_aload_n hX hl 0 rfl (Or.inr ⟨_, rfl⟩) dX7_isRoom_39 rfl ?_
              refine rw_iload hX hl 4 rfl dX7_isRoom_40 ?_
              obtain ⟨v12, g14, hw1⟩ := ob1_some hw
              replace hw := hw1
              clear hw1
              refine rw_cVi hX hR pk_f8_spaceOf (mc := 0) (ms := 0) ⟨rfl, rfl, (show 1 + 1 ≤ 2 by omega), (show 8 + (3 + 11) + 64 * 1 ≤ 64 * 2 by omega)⟩ (As := [.int x4]) (rest := []) rfl (C_f8_spaceOf l γ ad x4 σ v12 g14) gw_1117 gw_1119 gs_60 (rs_recv hX hR 8 0 (C := RX7) (T := TX7) (N := 48) rfl (by decide) (Nat.le_of_ble_eq_true rfl) rfl) rfl hl.1 ca0 (Nat.le_of_ble_eq_true rfl) dX7_isRoom_42 ⟨(show (cells + 0) + 0 ≤ 0 by omega), (show (slots + 0) + 0 ≤ 0 by omega)⟩ (fun H locs hR1 => ?_)
              replace hR := hR1
              clear hR1
              refine rw_aload_n hX hl 0 rfl (Or.inr ⟨_, rfl⟩) dX7_isRoom_45 rfl ?_
              refine rw_iload_n hX hl 1 rfl dX7_isRoom_46 rfl ?_
              obtain ⟨v15, g17, hw1⟩ := ob1_some hw
              replace hw := hw1
              clear hw1
              refine rw_cVi hX hR pk_f8_spaceOf (mc := 0) (ms := 0) ⟨rfl, rfl, (show 1 + 1 ≤ 2 by omega), (show 8 + (3 + 11) + 64 * 1 ≤ 64 * 2 by omega)⟩ (As := [.int x1]) (rest := [.int v12]) rfl (C_f8_spaceOf l γ ad x1 σ v15 g17) gw_1117 gw_1119 gs_60 (rs_recv hX hR 8 0 (C := RX7) (T := TX7) (N := 48) rfl (by decide) (Nat.le_of_ble_eq_true rfl) rfl) rfl hl.1 (ca1 rfl ca0) (Nat.le_of_ble_eq_true rfl) dX7_isRoom_47 ⟨(show ((cells + 0) + 0) + 0 ≤ 0 by omega), (show ((slots + 0) + 0) + 0 ≤ 0 by omega)⟩ (fun H locs hR1 => ?_)
              replace hR := hR1
              clear hR1
              refine lv_icmp_ne (x := v12) (y := v15) (tgt := 94) hX.1.1 hX.1.2.1 dX7_isRoom_50 (by decide) (fun c18 => ?_) (fun c18 => ?_)
              · replace hw := if_f hw c18
                refine lv_iconst (v := 0) hX.1.1 hX.1.2.1 dX7_isRoom_94 (by decide) ?_
                exact J95 x3 x4 false _ _ (by omega) (by omega) _ _ _ hw hR (lh_sub hl [0, 1, 2, 3, 4] rfl)
              · replace hw := if_t hw c18
                refine rw_iload_n hX hl 2 rfl dX7_isRoom_53 rfl ?_
                refine rw_aload_n hX hl 0 rfl (Or.inr ⟨_, rfl⟩) dX7_isRoom_54 rfl ?_
                refine rw_get hX hR 8 14 0 (C := RX7) (T := TX7) (N := 48) rfl (by decide) (Nat.le_of_ble_eq_true rfl) rfl (v := .ref (gS γ 1814 0)) rfl uw_X7 gw_942 rfl dX7_isRoom_55 ?_
                refine rw_iload hX hl 4 rfl dX7_isRoom_58 ?_
                obtain ⟨h20, hw1⟩ := ar_some hw
                replace hw := hw1
                clear hw1
                obtain ⟨j19, ej19⟩ : ∃ j, (x4 : Int32).toNatClampNeg = j := ⟨_, rfl⟩
                rw [ej19] at hw
                refine rw_iald hX hR 814 (n := 24) (i := x4) (v := (gi σ 814 j19)) rfl (by decide) rfl rfl h20 (by rw [ej19]) dX7_isRoom_60 ?_
                refine rw_aload_n hX hl 0 rfl (Or.inr ⟨_, rfl⟩) dX7_isRoom_61 rfl ?_
                refine rw_get hX hR 8 6 0 (C := RX7) (T := TX7) (N := 48) rfl (by decide) (Nat.le_of_ble_eq_true rfl) rfl (v := .ref (gS γ 1806 0)) rfl uw_X7 gw_934 rfl dX7_isRoom_62 ?_
                refine rw_iload hX hl 4 rfl dX7_isRoom_65 ?_
                obtain ⟨h22, hw1⟩ := ar_some hw
                replace hw := hw1
                clear hw1
                obtain ⟨j21, ej21⟩ : ∃ j, (x4 : Int32).toNatClampNeg = j := ⟨_, rfl⟩
                rw [ej21] at hw
                refine rw_iald hX hR 806 (n := 24) (i := x4) (v := (gi σ 806 j21)) rfl (by decide) rfl rfl h22 (by rw [ej21]) dX7_isRoom_67 ?_
                refine lv_iadd (x := (gi σ 814 j19)) (y := (gi σ 806 j21)) hX.1.1 hX.1.2.1 dX7_isRoom_68 ?_
                refine lv_icmp_ge (x := x2) (y := ((gi σ 814 j19) + (gi σ 806 j21))) (tgt := 94) hX.1.1 hX.1.2.1 dX7_isRoom_69 (by decide) (fun c23 => ?_) (fun c23 => ?_)
                · replace hw := if_t hw c23
                  refine lv_iconst (v := 0) hX.1.1 hX.1.2.1 dX7_isRoom_94 (by decide) ?_
                  exact J95 x3 x4 false _ _ (by omega) (by omega) _ _ _ hw hR (lh_sub hl [0, 1, 2, 3, 4] rfl)
                · replace hw := if_f hw c23
                  refine rw_aload_n hX hl 0 rfl (Or.inr ⟨_, rfl⟩) dX7_isRoom_72 rfl ?_
                  refine rw_get hX hR 8 14 0 (C := RX7) (T := TX7) (N := 48) rfl (by decide) (Nat.le_of_ble_eq_true rfl) rfl (v := .ref (gS γ 1814 0)) rfl uw_X7 gw_942 rfl dX7_isRoom_73 ?_
                  refine rw_iload hX hl 4 rfl dX7_isRoom_76 ?_
                  obtain ⟨h25, hw1⟩ := ar_some hw
                  replace hw := hw1
                  clear hw1
                  obtain ⟨j24, ej24⟩ : ∃ j, (x4 : Int32).toNatClampNeg = j := ⟨_, rfl⟩
                  rw [ej24] at hw
                  refine rw_iald hX hR 814 (n := 24) (i := x4) (v := (gi σ 814 j24)) rfl (by decide) rfl rfl h25 (by rw [ej24]) dX7_isRoom_78 ?_
                  refine rw_iload_n hX hl 2 rfl dX7_isRoom_79 rfl ?_
                  refine rw_aload_n hX hl 0 rfl (Or.inr ⟨_, rfl⟩) dX7_isRoom_80 rfl ?_
                  refine rw_get hX hR 8 6 0 (C := RX7) (T := TX7) (N := 48) rfl (by decide) (Nat.le_of_ble_eq_true rfl) rfl (v := .ref (gS γ 1806 0)) rfl uw_X7 gw_934 rfl dX7_isRoom_81 ?_
                  refine rw_iload_n hX hl 1 rfl dX7_isRoom_84 rfl ?_
                  obtain ⟨h27, hw1⟩ := ar_some hw
                  replace hw := hw1
                  clear hw1
                  obtain ⟨j26, ej26⟩ : ∃ j, (x1 : Int32).toNatClampNeg = j := ⟨_, rfl⟩
                  rw [ej26] at hw
                  refine rw_iald hX hR 806 (n := 24) (i := x1) (v := (gi σ 806 j26)) rfl (by decide) rfl rfl h27 (by rw [ej26]) dX7_isRoom_85 ?_
                  refine lv_iadd (x := x2) (y := (gi σ 806 j26)) hX.1.1 hX.1.2.1 dX7_isRoom_86 ?_
                  refine lv_icmp_ge (x := (gi σ 814 j24)) (y := (x2 + (gi σ 806 j26))) (tgt := 94) hX.1.1 hX.1.2.1 dX7_isRoom_87 (by decide) (fun c28 => ?_) (fun c28 => ?_)
                  · replace hw := if_t hw c28
                    refine lv_iconst (v := 0) hX.1.1 hX.1.2.1 dX7_isRoom_94 (by decide) ?_
                    exact J95 x3 x4 false _ _ (by omega) (by omega) _ _ _ hw hR (lh_sub hl [0, 1, 2, 3, 4] rfl)
                  · replace hw := if_f hw c28
                    refine lv_iconst (v := 1) hX.1.1 hX.1.2.1 dX7_isRoom_90 (by decide) ?_
                    refine lv_goto (tgt := 95) hX.1.1 hX.1.2.1 dX7_isRoom_91 (by decide) ?_
                    exact J95 x3 x4 true _ _ (by omega) (by omega) _ _ _ hw hR (lh_sub hl [0, 1, 2, 3, 4] rfl)
  refine rw_entry (ca1 rfl (ca1 rfl (ca1 rfl ca0))) (Nat.le_of_ble_eq_true rfl) (fun ls hl1 => ?_)
  replace hl := hl1
  clear hl1
  refine lv_iconst (v := 1) hX.1.1 hX.1.2.1 dX7_isRoom_0 (by decide) ?_
  refine rw_istore_n (lv' := [(3, .int 1), (0, .ref (gS γ 8 0)), (1, .int a1), (2, .int a2)]) hX hl (by decide) rfl dX7_isRoom_1 rfl (fun ls hl1 => ?_)
  replace hl := hl1
  clear hl1
  refine lv_iconst (v := 0) hX.1.1 hX.1.2.1 dX7_isRoom_2 (by decide) ?_
  refine rw_istore (lv' := [(4, .int 0), (3, .int 1), (0, .ref (gS γ 8 0)), (1, .int a1), (2, .int a2)]) hX hl (by decide) rfl dX7_isRoom_3 (fun ls hl1 => ?_)
  replace hl := hl1
  clear hl1
  exact L5 a1 a2 _ _ _ _ (by omega) (by omega) _ _ _ hw hR (lh_sub hl [2, 3, 4, 1, 0] rfl)
set_option maxHeartbeats 8000000 in
set_option maxRecDepth 100000 in
theorem C_f8_roomFor (l : Launch) (γ : GT) (ad : Nat → Nat → Nat) {fu : Nat} (a1 : Int32) (σ : St) (r : Int32) (hw : f8_roomFor fu a1 σ = some r) : Met l yX7_roomFor (Cond.code yX7_roomFor cX7_roomFor 6 (Option.some Jvm.ClassFile.FieldType.int) :: GW) (rmo 3 0 0) (va_Pc [.ref (gS γ 8 0), .int a1] (RU γ ad σ)) (QI γ ad σ r) 0 0 (gA γ) := by
  refine Met.ofW (cc := cX7_roomFor) (maxL := 6) (ret := (Option.some Jvm.ClassFile.FieldType.int)) (by decide +kernel) rfl ?_
  intro p e s m args below meth c s₁ B hml hv
  obtain ⟨rfl, hU⟩ := hv
  obtain ⟨hX, hR⟩ := cx_of (own := RX7) B hml rfl hU
  have hr := B.returns
  have hlocks := B.notSynchronized
  have hc0 : (0 : Nat) ≤ 0 := Nat.le_refl 0
  show W p l e (rmo 3 0 0) s m ([.ref (gS γ 8 0), .int a1] : List Value).toArray below meth c s.heap [] 0 0 (MQ below (QI γ ad σ r) ([.ref (gS γ 8 0), .int a1] : List Value).toArray s 0 0 (gA γ)) (entryFrame m ([.ref (gS γ 8 0), .int a1] : List Value).toArray 6)
  unfold f8_roomFor at hw
  have L50 : ∀ (x1 : Int32) (x3 : Int32) (x4 : Int32) (n : Nat) (s9 : Int32) (cells slots : Nat), cells ≤ 0 → slots ≤ 0 → ∀ (H : Heap) (locs : List Loc) (ls : Array Slot), lp (fun s8 => f8_roomFor_b50 fu x1 x3 x4 s8 σ) n s9 = some r → RS γ ad σ s H locs → lh ls 6 [(0, .ref (gS γ 8 0)), (1, .int x1), (3, .int x3), (4, .int x4), (5, .int s9)] → W p l e (rmo 3 0 0) s m ([.ref (gS γ 8 0), .int a1] : List Value).toArray below meth c H locs cells slots (MQ below (QI γ ad σ r) ([.ref (gS γ 8 0), .int a1] : List Value).toArray s 0 0 (gA γ)) (F0 m 50 ls []) := by
    intro x1 x3 x4 n50
    induction n50 with
    | zero => intro s9 cells slots hc1 hc2 H locs ls hw hR hl; exact (lp_zero hw).elim
    | succ n50 ih50 =>
      intro x5 cells slots hc1 hc2 H locs ls hw hR hl
      obtain ⟨o50, hw1, hb50, ho50⟩ := lp_succ hw
      replace hw := hw1
      clear hw1
      replace hw : f8_roomFor_b50 fu x1 x3 x4 x5 σ = some o50 := hw
      replace hl : lh ls 6 [(0, .ref (gS γ 8 0)), (1, .int x1), (3, .int x3), (4, .int x4), (5, .int x5)] := hl
      unfold f8_roomFor_b50 at hw
      have J83 : ∀ (x5 : Int32) (cells slots : Nat), cells ≤ 0 → slots ≤ 0 → ∀ (H : Heap) (locs : List Loc) (ls : Array Slot), f8_roomFor_j83 fu x1 x3 x4 x5 σ = some o50 → RS γ ad σ s H locs → lh ls 6 [(0, .ref (gS γ 8 0)), (1, .int x1), (3, .int x3), (4, .int x4), (5, .int x5)] → W p l e (rmo 3 0 0) s m ([.ref (gS γ 8 0), .int a1] : List Value).toArray below meth c H locs cells slots (MQ below (QI γ ad σ r) ([.ref (gS γ 8 0), .int a1] : List Value).toArray s 0 0 (gA γ)) (F0 m 83 ls []) := by
        intro x5 cells slots hc1 hc2 H locs ls hw hR hl
        unfold f8_roomFor_j83 at hw
        refine rw_iload hX hl 4 rfl dX7_roomFor_83 ?_
        refine rw_aload_n hX hl 0 rfl (Or.inr ⟨_, rfl⟩) dX7_roomFor_85 rfl ?_
        refine rw_get hX hR 8 6 0 (C := RX7) (T := TX7) (N := 48) rfl (by decide) (Nat.le_of_ble_eq_true rfl) rfl (v := .ref (gS γ 1806 0)) rfl uw_X7 gw_934 rfl dX7_roomFor_86 ?_
        refine rw_iload_n hX hl 1 rfl dX7_roomFor_89 rfl ?_
        obtain ⟨h17, hw1⟩ := ar_some hw
        replace hw := hw1
        clear hw1
        obtain ⟨j16, ej16⟩ : ∃ j, (x1 : Int32).toNatClampNeg = j := ⟨_, rfl⟩
        rw [ej16] at hw
        refine rw_iald hX hR 806 (n := 24) (i := x1) (v := (gi σ 806 j16)) rfl (by decide) rfl rfl h17 (by rw [ej16]) dX7_roomFor_90 ?_
        refine lv_iadd (x := x5) (y := (gi σ 806 j16)) hX.1.1 hX.1.2.1 dX7_roomFor_91 ?_
        refine rw_istore (lv' := [(5, .int (x5 + (gi σ 806 j16))), (0, .ref (gS γ 8 0)), (1, .int x1), (3, .int x3), (4, .int x4)]) hX hl (by decide) rfl dX7_roomFor_92 (fun ls hl1 => ?_)
        replace hl := hl1
        clear hl1
        refine lv_goto (tgt := 50) hX.1.1 hX.1.2.1 dX7_roomFor_94 (by decide) ?_
        exact ih50 _ _ _ (by omega) (by omega) _ _ _ (lp_back hw hb50) hR (lh_sub hl [1, 2, 3, 4, 0] rfl)
      refine rw_iload hX hl 4 rfl dX7_roomFor_50 ?_
      refine rw_aload_n hX hl 0 rfl (Or.inr ⟨_, rfl⟩) dX7_roomFor_52 rfl ?_
      refine rw_get hX hR 8 6 0 (C := RX7) (T := TX7) (N := 48) rfl (by decide) (Nat.le_of_ble_eq_true rfl) rfl (v := .ref (gS γ 1806 0)) rfl uw_X7 gw_934 rfl dX7_roomFor_53 ?_
      refine rw_iload_n hX hl 1 rfl dX7_roomFor_56 rfl ?_
      obtain ⟨h13, hw1⟩ := ar_some hw
      replace hw := hw1
      clear hw1
      obtain ⟨j12, ej12⟩ : ∃ j, (x1 : Int32).toNatClampNeg = j := ⟨_, rfl⟩
      rw [ej12] at hw
      refine rw_iald hX hR 806 (n := 24) (i := x1) (v := (gi σ 806 j12)) rfl (by decide) rfl rfl h13 (by rw [ej12]) dX7_roomFor_57 ?_
      refine lv_iadd (x := x5) (y := (gi σ 806 j12)) hX.1.1 hX.1.2.1 dX7_roomFor_58 ?_
      refine rw_iload hX hl 3 rfl dX7_roomFor_59 ?_
      refine lv_icmp_gt (x := (x5 + (gi σ 806 j12))) (y := x4) (tgt := 97) hX.1.1 hX.1.2.1 dX7_roomFor_61 (by decide) (fun c14 => ?_) (fun c14 => ?_)
      · replace hw := if_t hw c14
        replace hw := lp_out hw ho50
        refine lv_iconst (v := (-1)) hX.1.1 hX.1.2.1 dX7_roomFor_97 (by decide) ?_
        refine W.widen (k := 0) (n := 0) (by omega) (by omega) ?_
        exact rq_i hX hR hr hw dX7_roomFor_98 hlocks
      · replace hw := if_f hw c14
        refine rw_iload hX hl 4 rfl dX7_roomFor_64 ?_
        refine rw_iload_n hX hl 2 rfl dX7_roomFor_66 rfl ?_
        refine lv_icmp_lt (x := x5) (y := x3) (tgt := 83) hX.1.1 hX.1.2.1 dX7_roomFor_67 (by decide) (fun c15 => ?_) (fun c15 => ?_)
        · replace hw := if_t hw c15
          exact J83 x5 _ _ (by omega) (by omega) _ _ _ hw hR (lh_sub hl [0, 1, 2, 3, 4] rfl)
        · replace hw := if_f hw c15
          refine rw_aload_n hX hl 0 rfl (Or.inr ⟨_, rfl⟩) dX7_roomFor_70 rfl ?_
          refine rw_iload_n hX hl 1 rfl dX7_roomFor_71 rfl ?_
          refine rw_iload hX hl 4 rfl dX7_roomFor_72 ?_
          obtain ⟨v18, g20, hw1⟩ := ob1_some hw
          replace hw := hw1
          clear hw1
          refine rw_cVi hX hR pk_f8_isRoom (mc := 0) (ms := 0) ⟨rfl, rfl, (show 2 + 1 ≤ 3 by omega), (show 8 + (6 + 11) + 64 * 2 ≤ 64 * 3 by omega)⟩ (As := [.int x1, .int x5]) (rest := []) rfl (C_f8_isRoom l γ ad x1 x5 σ v18 g20) gw_1121 gw_1123 gs_61 (rs_recv hX hR 8 0 (C := RX7) (T := TX7) (N := 48) rfl (by decide) (Nat.le_of_ble_eq_true rfl) rfl) rfl hl.1 ca0 (Nat.le_of_ble_eq_true rfl) dX7_roomFor_74 ⟨(show cells + 0 ≤ 0 by omega), (show slots + 0 ≤ 0 by omega)⟩ (fun H locs hR1 => ?_)
          replace hR := hR1
          clear hR1
          refine rw_ifeqZ (b := v18) (tgt := 83) hX dX7_roomFor_77 (by decide) (fun c21 => ?_) (fun c21 => ?_)
          · replace hw := if_f hw c21
            exact J83 x5 _ _ (by omega) (by omega) _ _ _ hw hR (lh_sub hl [0, 1, 2, 3, 4] rfl)
          · replace hw := if_t hw c21
            replace hw := lp_out hw ho50
            refine rw_iload hX hl 4 rfl dX7_roomFor_80 ?_
            refine W.widen (k := 0) (n := 0) (by omega) (by omega) ?_
            exact rq_i hX hR hr hw dX7_roomFor_82 hlocks
  have J45 : ∀ (x1 : Int32) (x3 : Int32) (y0 : Int32) (cells slots : Nat), cells ≤ 0 → slots ≤ 0 → ∀ (H : Heap) (locs : List Loc) (ls : Array Slot), f8_roomFor_j45 fu x1 x3 y0 σ = some r → RS γ ad σ s H locs → lh ls 6 [(0, .ref (gS γ 8 0)), (1, .int x1), (3, .int x3)] → W p l e (rmo 3 0 0) s m ([.ref (gS γ 8 0), .int a1] : List Value).toArray below meth c H locs cells slots (MQ below (QI γ ad σ r) ([.ref (gS γ 8 0), .int a1] : List Value).toArray s 0 0 (gA γ)) (F0 m 45 ls [.int y0]) := by
    intro x1 x3 y0 cells slots hc1 hc2 H locs ls hw hR hl
    unfold f8_roomFor_j45 at hw
    refine rw_istore (lv' := [(4, .int y0), (0, .ref (gS γ 8 0)), (1, .int x1), (3, .int x3)]) hX hl (by decide) rfl dX7_roomFor_45 (fun ls hl1 => ?_)
    replace hl := hl1
    clear hl1
    refine lv_iconst (v := 0) hX.1.1 hX.1.2.1 dX7_roomFor_47 (by decide) ?_
    refine rw_istore (lv' := [(5, .int 0), (4, .int y0), (0, .ref (gS γ 8 0)), (1, .int x1), (3, .int x3)]) hX hl (by decide) rfl dX7_roomFor_48 (fun ls hl1 => ?_)
    replace hl := hl1
    clear hl1
    exact L50 x1 x3 y0 _ _ _ _ (by omega) (by omega) _ _ _ hw hR (lh_sub hl [2, 3, 4, 1, 0] rfl)
  have J21 : ∀ (x1 : Int32) (x2 : Int32) (y0 : Int32) (cells slots : Nat), cells ≤ 0 → slots ≤ 0 → ∀ (H : Heap) (locs : List Loc) (ls : Array Slot), f8_roomFor_j21 fu x1 x2 y0 σ = some r → RS γ ad σ s H locs → lh ls 6 [(0, .ref (gS γ 8 0)), (1, .int x1), (2, .int x2)] → W p l e (rmo 3 0 0) s m ([.ref (gS γ 8 0), .int a1] : List Value).toArray below meth c H locs cells slots (MQ below (QI γ ad σ r) ([.ref (gS γ 8 0), .int a1] : List Value).toArray s 0 0 (gA γ)) (F0 m 21 ls [.int y0]) := by
    intro x1 x2 y0 cells slots hc1 hc2 H locs ls hw hR hl
    unfold f8_roomFor_j21 at hw
    refine rw_istore_n (lv' := [(3, .int y0), (0, .ref (gS γ 8 0)), (1, .int x1), (2, .int x2)]) hX hl (by decide) rfl dX7_roomFor_21 rfl (fun ls hl1 => ?_)
    replace hl := hl1
    clear hl1
    refine rw_iload_n hX hl 3 rfl dX7_roomFor_22 rfl ?_
    refine lv_iconst (v := (-1)) hX.1.1 hX.1.2.1 dX7_roomFor_23 (by decide) ?_
    refine lv_icmp_ne (x := x2) (y := (-1)) (tgt := 32) hX.1.1 hX.1.2.1 dX7_roomFor_24 (by decide) (fun c7 => ?_) (fun c7 => ?_)
    · replace hw := if_f hw c7
      refine rw_aload_n hX hl 1 rfl (Or.inr ⟨_, rfl⟩) dX7_roomFor_32 rfl ?_
      refine rw_get hX hR 8 14 0 (C := RX7) (T := TX7) (N := 48) rfl (by decide) (Nat.le_of_ble_eq_true rfl) rfl (v := .ref (gS γ 1814 0)) rfl uw_X7 gw_942 rfl dX7_roomFor_33 ?_
      refine rw_iload_n hX hl 3 rfl dX7_roomFor_36 rfl ?_
      obtain ⟨h9, hw1⟩ := ar_some hw
      replace hw := hw1
      clear hw1
      obtain ⟨j8, ej8⟩ : ∃ j, (x2 : Int32).toNatClampNeg = j := ⟨_, rfl⟩
      rw [ej8] at hw
      refine rw_iald hX hR 814 (n := 24) (i := x2) (v := (gi σ 814 j8)) rfl (by decide) rfl rfl h9 (by rw [ej8]) dX7_roomFor_37 ?_
      refine rw_aload_n hX hl 1 rfl (Or.inr ⟨_, rfl⟩) dX7_roomFor_38 rfl ?_
      refine rw_get hX hR 8 6 0 (C := RX7) (T := TX7) (N := 48) rfl (by decide) (Nat.le_of_ble_eq_true rfl) rfl (v := .ref (gS γ 1806 0)) rfl uw_X7 gw_934 rfl dX7_roomFor_39 ?_
      refine rw_iload_n hX hl 3 rfl dX7_roomFor_42 rfl ?_
      obtain ⟨h11, hw1⟩ := ar_some hw
      replace hw := hw1
      clear hw1
      obtain ⟨j10, ej10⟩ : ∃ j, (x2 : Int32).toNatClampNeg = j := ⟨_, rfl⟩
      rw [ej10] at hw
      refine rw_iald hX hR 806 (n := 24) (i := x2) (v := (gi σ 806 j10)) rfl (by decide) rfl rfl h11 (by rw [ej10]) dX7_roomFor_43 ?_
      refine lv_iadd (x := (gi σ 814 j8)) (y := (gi σ 806 j10)) hX.1.1 hX.1.2.1 dX7_roomFor_44 ?_
      exact J45 x1 y0 ((gi σ 814 j8) + (gi σ 806 j10)) _ _ (by omega) (by omega) _ _ _ hw hR (lh_sub hl [1, 2, 0] rfl)
    · replace hw := if_t hw c7
      refine lv_bipush (v := 64) hX.1.1 hX.1.2.1 dX7_roomFor_27 (by decide) ?_
      refine lv_goto (tgt := 45) hX.1.1 hX.1.2.1 dX7_roomFor_29 (by decide) ?_
      exact J45 x1 y0 64 _ _ (by omega) (by omega) _ _ _ hw hR (lh_sub hl [1, 2, 0] rfl)
  refine rw_entry (ca1 rfl (ca1 rfl ca0)) (Nat.le_of_ble_eq_true rfl) (fun ls hl1 => ?_)
  replace hl := hl1
  clear hl1
  refine rw_aload_n hX hl 0 rfl (Or.inr ⟨_, rfl⟩) dX7_roomFor_0 rfl ?_
  refine rw_iload_n hX hl 1 rfl dX7_roomFor_1 rfl ?_
  obtain ⟨v1, g3, hw1⟩ := ob1_some hw
  replace hw := hw1
  clear hw1
  refine rw_cVi hX hR pk_f8_spaceOf (mc := 0) (ms := 0) ⟨rfl, rfl, (show 1 + 1 ≤ 3 by omega), (show 8 + (3 + 11) + 64 * 1 ≤ 64 * 3 by omega)⟩ (As := [.int a1]) (rest := []) rfl (C_f8_spaceOf l γ ad a1 σ v1 g3) gw_1117 gw_1119 gs_60 (rs_recv hX hR 8 0 (C := RX7) (T := TX7) (N := 48) rfl (by decide) (Nat.le_of_ble_eq_true rfl) rfl) rfl hl.1 ca0 (Nat.le_of_ble_eq_true rfl) dX7_roomFor_2 ⟨(show 0 + 0 ≤ 0 by omega), (show 0 + 0 ≤ 0 by omega)⟩ (fun H locs hR1 => ?_)
  replace hR := hR1
  clear hR1
  refine rw_istore_n (lv' := [(2, .int v1), (0, .ref (gS γ 8 0)), (1, .int a1)]) hX hl (by decide) rfl dX7_roomFor_5 rfl (fun ls hl1 => ?_)
  replace hl := hl1
  clear hl1
  refine rw_iload_n hX hl 0 rfl dX7_roomFor_6 rfl ?_
  refine lv_iconst (v := (-1)) hX.1.1 hX.1.2.1 dX7_roomFor_7 (by decide) ?_
  refine lv_icmp_ne (x := v1) (y := (-1)) (tgt := 15) hX.1.1 hX.1.2.1 dX7_roomFor_8 (by decide) (fun c4 => ?_) (fun c4 => ?_)
  · replace hw := if_f hw c4
    refine rw_aload_n hX hl 1 rfl (Or.inr ⟨_, rfl⟩) dX7_roomFor_15 rfl ?_
    refine rw_get hX hR 8 14 0 (C := RX7) (T := TX7) (N := 48) rfl (by decide) (Nat.le_of_ble_eq_true rfl) rfl (v := .ref (gS γ 1814 0)) rfl uw_X7 gw_942 rfl dX7_roomFor_16 ?_
    refine rw_iload_n hX hl 0 rfl dX7_roomFor_19 rfl ?_
    obtain ⟨h6, hw1⟩ := ar_some hw
    replace hw := hw1
    clear hw1
    obtain ⟨j5, ej5⟩ : ∃ j, (v1 : Int32).toNatClampNeg = j := ⟨_, rfl⟩
    rw [ej5] at hw
    refine rw_iald hX hR 814 (n := 24) (i := v1) (v := (gi σ 814 j5)) rfl (by decide) rfl rfl h6 (by rw [ej5]) dX7_roomFor_20 ?_
    exact J21 a1 v1 (gi σ 814 j5) _ _ (by omega) (by omega) _ _ _ hw hR (lh_sub hl [1, 2, 0] rfl)
  · replace hw := if_t hw c4
    refine lv_iconst (v := 0) hX.1.1 hX.1.2.1 dX7_roomFor_11 (by decide) ?_
    refine lv_goto (tgt := 21) hX.1.1 hX.1.2.1 dX7_roomFor_12 (by decide) ?_
    exact J21 a1 v1 0 _ _ (by omega) (by omega) _ _ _ hw hR (lh_sub hl [1, 2, 0] rfl)
set_option maxHeartbeats 8000000 in
set_option maxRecDepth 100000 in
theorem C_f8_isLineFree (l : Launch) (γ : GT) (ad : Nat → Nat → Nat) {fu : Nat} (a1 : Int32) (σ : St) (r : Bool) (hw : f8_isLineFree fu a1 σ = some r) : Met l yX7_isLineFree (Cond.code yX7_isLineFree cX7_isLineFree 4 (Option.some Jvm.ClassFile.FieldType.boolean) :: GW) (rmo 2 0 0) (va_Pc [.ref (gS γ 8 0), .int a1] (RU γ ad σ)) (QI γ ad σ (b2i r)) 0 0 (gA γ) := by
  refine Met.ofW (cc := cX7_isLineFree) (maxL := 4) (ret := (Option.some Jvm.ClassFile.FieldType.boolean)) (by decide +kernel) rfl ?_
  intro p e s m args below meth c s₁ B hml hv
  obtain ⟨rfl, hU⟩ := hv
  obtain ⟨hX, hR⟩ := cx_of (own := RX7) B hml rfl hU
  have hr := B.returns
  have hlocks := B.notSynchronized
  have hc0 : (0 : Nat) ≤ 0 := Nat.le_refl 0
  show W p l e (rmo 2 0 0) s m ([.ref (gS γ 8 0), .int a1] : List Value).toArray below meth c s.heap [] 0 0 (MQ below (QI γ ad σ (b2i r)) ([.ref (gS γ 8 0), .int a1] : List Value).toArray s 0 0 (gA γ)) (entryFrame m ([.ref (gS γ 8 0), .int a1] : List Value).toArray 4)
  unfold f8_isLineFree at hw
  have L4 : ∀ (x1 : Int32) (n : Nat) (s9 : (Bool × Int32)) (cells slots : Nat), cells ≤ 0 → slots ≤ 0 → ∀ (H : Heap) (locs : List Loc) (ls : Array Slot), lp (fun s8 => f8_isLineFree_b4 fu x1 s8.1 s8.2 σ) n s9 = some r → RS γ ad σ s H locs → lh ls 4 [(0, .ref (gS γ 8 0)), (1, .int x1), (2, .int (b2i s9.1)), (3, .int s9.2)] → W p l e (rmo 2 0 0) s m ([.ref (gS γ 8 0), .int a1] : List Value).toArray below meth c H locs cells slots (MQ below (QI γ ad σ (b2i r)) ([.ref (gS γ 8 0), .int a1] : List Value).toArray s 0 0 (gA γ)) (F0 m 4 ls []) := by
    intro x1 n4
    induction n4 with
    | zero => intro s9 cells slots hc1 hc2 H locs ls hw hR hl; exact (lp_zero hw).elim
    | succ n4 ih4 =>
      intro s9 cells slots hc1 hc2 H locs ls hw hR hl
      obtain ⟨o4, hw1, hb4, ho4⟩ := lp_succ hw
      replace hw := hw1
      clear hw1
      obtain ⟨x2, x3⟩ := s9
      replace hw : f8_isLineFree_b4 fu x1 x2 x3 σ = some o4 := hw
      replace hl : lh ls 4 [(0, .ref (gS γ 8 0)), (1, .int x1), (2, .int (b2i x2)), (3, .int x3)] := hl
      unfold f8_isLineFree_b4 at hw
      have J62 : ∀ (x3 : Int32) (y0 : Bool) (cells slots : Nat), cells ≤ 0 → slots ≤ 0 → ∀ (H : Heap) (locs : List Loc) (ls : Array Slot), f8_isLineFree_j62 fu x1 x3 y0 σ = some o4 → RS γ ad σ s H locs → lh ls 4 [(0, .ref (gS γ 8 0)), (1, .int x1), (3, .int x3)] → W p l e (rmo 2 0 0) s m ([.ref (gS γ 8 0), .int a1] : List Value).toArray below meth c H locs cells slots (MQ below (QI γ ad σ (b2i r)) ([.ref (gS γ 8 0), .int a1] : List Value).toArray s 0 0 (gA γ)) (F0 m 62 ls [.int (b2i y0)]) := by
        intro x3 y0 cells slots hc1 hc2 H locs ls hw hR hl
        unfold f8_isLineFree_j62 at hw
        refine rw_istore_n (lv' := [(2, .int (b2i y0)), (0, .ref (gS γ 8 0)), (1, .int x1), (3, .int x3)]) hX hl (by decide) rfl dX7_isLineFree_62 rfl (fun ls hl1 => ?_)
        replace hl := hl1
        clear hl1
        refine rw_iinc (k := 3) (v := (x3 + 1)) (lv' := [(3, .int (x3 + 1)), (2, .int (b2i y0)), (0, .ref (gS γ 8 0)), (1, .int x1)]) hX hl rfl (congrArg (fun q => x3 + q) (show Int32.ofInt 1 = 1 by decide)) (by decide) rfl dX7_isLineFree_63 (fun ls hl1 => ?_)
        replace hl := hl1
        clear hl1
        refine lv_goto (tgt := 4) hX.1.1 hX.1.2.1 dX7_isLineFree_66 (by decide) ?_
        exact ih4 _ _ _ (by omega) (by omega) _ _ _ (lp_back hw hb4) hR (lh_sub hl [2, 3, 1, 0] rfl)
      refine rw_iload_n hX hl 3 rfl dX7_isLineFree_4 rfl ?_
      refine rw_aload_n hX hl 0 rfl (Or.inr ⟨_, rfl⟩) dX7_isLineFree_5 rfl ?_
      refine rw_get hX hR 8 3 0 (C := RX7) (T := TX7) (N := 48) rfl (by decide) (Nat.le_of_ble_eq_true rfl) rfl (v := .int (gi σ 803 0)) rfl uw_X7 gw_931 rfl dX7_isLineFree_6 ?_
      refine lv_icmp_ge (x := x3) (y := (gi σ 803 0)) (tgt := 69) hX.1.1 hX.1.2.1 dX7_isLineFree_9 (by decide) (fun c1 => ?_) (fun c1 => ?_)
      · replace hw := if_t hw c1
        replace hw := lp_out hw ho4
        refine rw_iload_n hX hl 2 rfl dX7_isLineFree_69 rfl ?_
        refine rw_ifneZ (b := x2) (tgt := 83) hX dX7_isLineFree_70 (by decide) (fun c2 => ?_) (fun c2 => ?_)
        · replace hw := if_t hw c2
          refine lv_iconst (v := 1) hX.1.1 hX.1.2.1 dX7_isLineFree_83 (by decide) ?_
          refine lv_goto (tgt := 88) hX.1.1 hX.1.2.1 dX7_isLineFree_84 (by decide) ?_
          refine W.widen (k := 0) (n := 0) (by omega) (by omega) ?_
          exact rq_z hX hR hr (v := true) rfl hw dX7_isLineFree_88 hlocks
        · replace hw := if_f hw c2
          refine rw_aload_n hX hl 0 rfl (Or.inr ⟨_, rfl⟩) dX7_isLineFree_73 rfl ?_
          refine rw_get hX hR 8 7 0 (C := RX7) (T := TX7) (N := 48) rfl (by decide) (Nat.le_of_ble_eq_true rfl) rfl (v := .ref (gS γ 1807 0)) rfl uw_X7 gw_935 rfl dX7_isLineFree_74 ?_
          refine rw_iload_n hX hl 1 rfl dX7_isLineFree_77 rfl ?_
          obtain ⟨h4, hw1⟩ := ar_some hw
          replace hw := hw1
          clear hw1
          obtain ⟨j3, ej3⟩ : ∃ j, (x1 : Int32).toNatClampNeg = j := ⟨_, rfl⟩
          rw [ej3] at hw
          refine rw_iald hX hR 807 (n := 24) (i := x1) (v := (gi σ 807 j3)) rfl (by decide) rfl rfl h4 (by rw [ej3]) dX7_isLineFree_78 ?_
          refine lv_iconst (v := (-1)) hX.1.1 hX.1.2.1 dX7_isLineFree_79 (by decide) ?_
          refine lv_icmp_ne (x := (gi σ 807 j3)) (y := (-1)) (tgt := 87) hX.1.1 hX.1.2.1 dX7_isLineFree_80 (by decide) (fun c5 => ?_) (fun c5 => ?_)
          · replace hw := if_f hw c5
            refine lv_iconst (v := 0) hX.1.1 hX.1.2.1 dX7_isLineFree_87 (by decide) ?_
            refine W.widen (k := 0) (n := 0) (by omega) (by omega) ?_
            exact rq_z hX hR hr (v := false) rfl hw dX7_isLineFree_88 hlocks
          · replace hw := if_t hw c5
            refine lv_iconst (v := 1) hX.1.1 hX.1.2.1 dX7_isLineFree_83 (by decide) ?_
            refine lv_goto (tgt := 88) hX.1.1 hX.1.2.1 dX7_isLineFree_84 (by decide) ?_
            refine W.widen (k := 0) (n := 0) (by omega) (by omega) ?_
            exact rq_z hX hR hr (v := true) rfl hw dX7_isLineFree_88 hlocks
      · replace hw := if_f hw c1
        refine rw_iload_n hX hl 2 rfl dX7_isLineFree_12 rfl ?_
        refine rw_ifeqZ (b := x2) (tgt := 61) hX dX7_isLineFree_13 (by decide) (fun c6 => ?_) (fun c6 => ?_)
        · replace hw := if_f hw c6
          refine lv_iconst (v := 0) hX.1.1 hX.1.2.1 dX7_isLineFree_61 (by decide) ?_
          exact J62 x3 false _ _ (by omega) (by omega) _ _ _ hw hR (lh_sub hl [0, 1, 3] rfl)
        · replace hw := if_t hw c6
          refine rw_aload_n hX hl 0 rfl (Or.inr ⟨_, rfl⟩) dX7_isLineFree_16 rfl ?_
          refine rw_iload_n hX hl 3 rfl dX7_isLineFree_17 rfl ?_
          obtain ⟨v7, g9, hw1⟩ := ob1_some hw
          replace hw := hw1
          clear hw1
          refine rw_cVi hX hR pk_f8_isBound (mc := 0) (ms := 0) ⟨rfl, rfl, (show 1 + 1 ≤ 2 by omega), (show 8 + (2 + 11) + 64 * 1 ≤ 64 * 2 by omega)⟩ (As := [.int x3]) (rest := []) rfl (C_f8_isBound l γ ad x3 σ v7 g9) gw_1097 gw_1099 gs_55 (rs_recv hX hR 8 0 (C := RX7) (T := TX7) (N := 48) rfl (by decide) (Nat.le_of_ble_eq_true rfl) rfl) rfl hl.1 ca0 (Nat.le_of_ble_eq_true rfl) dX7_isLineFree_18 ⟨(show cells + 0 ≤ 0 by omega), (show slots + 0 ≤ 0 by omega)⟩ (fun H locs hR1 => ?_)
          replace hR := hR1
          clear hR1
          refine rw_ifeqZ (b := v7) (tgt := 57) hX dX7_isLineFree_21 (by decide) (fun c10 => ?_) (fun c10 => ?_)
          · replace hw := if_f hw c10
            refine lv_iconst (v := 1) hX.1.1 hX.1.2.1 dX7_isLineFree_57 (by decide) ?_
            refine lv_goto (tgt := 62) hX.1.1 hX.1.2.1 dX7_isLineFree_58 (by decide) ?_
            exact J62 x3 true _ _ (by omega) (by omega) _ _ _ hw hR (lh_sub hl [0, 1, 3] rfl)
          · replace hw := if_t hw c10
            refine rw_aload_n hX hl 0 rfl (Or.inr ⟨_, rfl⟩) dX7_isLineFree_24 rfl ?_
            refine rw_get hX hR 8 7 0 (C := RX7) (T := TX7) (N := 48) rfl (by decide) (Nat.le_of_ble_eq_true rfl) rfl (v := .ref (gS γ 1807 0)) rfl uw_X7 gw_935 rfl dX7_isLineFree_25 ?_
            refine rw_iload_n hX hl 3 rfl dX7_isLineFree_28 rfl ?_
            obtain ⟨h12, hw1⟩ := ar_some hw
            replace hw := hw1
            clear hw1
            obtain ⟨j11, ej11⟩ : ∃ j, (x3 : Int32).toNatClampNeg = j := ⟨_, rfl⟩
            rw [ej11] at hw
            refine rw_iald hX hR 807 (n := 24) (i := x3) (v := (gi σ 807 j11)) rfl (by decide) rfl rfl h12 (by rw [ej11]) dX7_isLineFree_29 ?_
            refine rw_aload_n hX hl 0 rfl (Or.inr ⟨_, rfl⟩) dX7_isLineFree_30 rfl ?_
            refine rw_get hX hR 8 7 0 (C := RX7) (T := TX7) (N := 48) rfl (by decide) (Nat.le_of_ble_eq_true rfl) rfl (v := .ref (gS γ 1807 0)) rfl uw_X7 gw_935 rfl dX7_isLineFree_31 ?_
            refine rw_iload_n hX hl 1 rfl dX7_isLineFree_34 rfl ?_
            obtain ⟨h14, hw1⟩ := ar_some hw
            replace hw := hw1
            clear hw1
            obtain ⟨j13, ej13⟩ : ∃ j, (x1 : Int32).toNatClampNeg = j := ⟨_, rfl⟩
            rw [ej13] at hw
            refine rw_iald hX hR 807 (n := 24) (i := x1) (v := (gi σ 807 j13)) rfl (by decide) rfl rfl h14 (by rw [ej13]) dX7_isLineFree_35 ?_
            refine lv_icmp_ne (x := (gi σ 807 j11)) (y := (gi σ 807 j13)) (tgt := 57) hX.1.1 hX.1.2.1 dX7_isLineFree_36 (by decide) (fun c15 => ?_) (fun c15 => ?_)
            · replace hw := if_f hw c15
              refine lv_iconst (v := 1) hX.1.1 hX.1.2.1 dX7_isLineFree_57 (by decide) ?_
              refine lv_goto (tgt := 62) hX.1.1 hX.1.2.1 dX7_isLineFree_58 (by decide) ?_
              exact J62 x3 true _ _ (by omega) (by omega) _ _ _ hw hR (lh_sub hl [0, 1, 3] rfl)
            · replace hw := if_t hw c15
              refine rw_aload_n hX hl 0 rfl (Or.inr ⟨_, rfl⟩) dX7_isLineFree_39 rfl ?_
              refine rw_get hX hR 8 8 0 (C := RX7) (T := TX7) (N := 48) rfl (by decide) (Nat.le_of_ble_eq_true rfl) rfl (v := .ref (gS γ 1808 0)) rfl uw_X7 gw_936 rfl dX7_isLineFree_40 ?_
              refine rw_iload_n hX hl 3 rfl dX7_isLineFree_43 rfl ?_
              obtain ⟨h17, hw1⟩ := ar_some hw
              replace hw := hw1
              clear hw1
              obtain ⟨j16, ej16⟩ : ∃ j, (x3 : Int32).toNatClampNeg = j := ⟨_, rfl⟩
              rw [ej16] at hw
              refine rw_zald hX hR 808 (n := 24) (i := x3) (v := (gb σ 808 j16)) rfl (by decide) rfl rfl h17 (by rw [ej16]) dX7_isLineFree_44 ?_
              refine rw_ifeqZ (b := (gb σ 808 j16)) (tgt := 61) hX dX7_isLineFree_45 (by decide) (fun c18 => ?_) (fun c18 => ?_)
              · replace hw := if_f hw c18
                refine lv_iconst (v := 0) hX.1.1 hX.1.2.1 dX7_isLineFree_61 (by decide) ?_
                exact J62 x3 false _ _ (by omega) (by omega) _ _ _ hw hR (lh_sub hl [0, 1, 3] rfl)
              · replace hw := if_t hw c18
                refine rw_aload_n hX hl 0 rfl (Or.inr ⟨_, rfl⟩) dX7_isLineFree_48 rfl ?_
                refine rw_get hX hR 8 8 0 (C := RX7) (T := TX7) (N := 48) rfl (by decide) (Nat.le_of_ble_eq_true rfl) rfl (v := .ref (gS γ 1808 0)) rfl uw_X7 gw_936 rfl dX7_isLineFree_49 ?_
                refine rw_iload_n hX hl 1 rfl dX7_isLineFree_52 rfl ?_
                obtain ⟨h20, hw1⟩ := ar_some hw
                replace hw := hw1
                clear hw1
                obtain ⟨j19, ej19⟩ : ∃ j, (x1 : Int32).toNatClampNeg = j := ⟨_, rfl⟩
                rw [ej19] at hw
                refine rw_zald hX hR 808 (n := 24) (i := x1) (v := (gb σ 808 j19)) rfl (by decide) rfl rfl h20 (by rw [ej19]) dX7_isLineFree_53 ?_
                refine rw_ifeqZ (b := (gb σ 808 j19)) (tgt := 61) hX dX7_isLineFree_54 (by decide) (fun c21 => ?_) (fun c21 => ?_)
                · replace hw := if_f hw c21
                  refine lv_iconst (v := 0) hX.1.1 hX.1.2.1 dX7_isLineFree_61 (by decide) ?_
                  exact J62 x3 false _ _ (by omega) (by omega) _ _ _ hw hR (lh_sub hl [0, 1, 3] rfl)
                · replace hw := if_t hw c21
                  refine lv_iconst (v := 1) hX.1.1 hX.1.2.1 dX7_isLineFree_57 (by decide) ?_
                  refine lv_goto (tgt := 62) hX.1.1 hX.1.2.1 dX7_isLineFree_58 (by decide) ?_
                  exact J62 x3 true _ _ (by omega) (by omega) _ _ _ hw hR (lh_sub hl [0, 1, 3] rfl)
  refine rw_entry (ca1 rfl (ca1 rfl ca0)) (Nat.le_of_ble_eq_true rfl) (fun ls hl1 => ?_)
  replace hl := hl1
  clear hl1
  refine lv_iconst (v := 1) hX.1.1 hX.1.2.1 dX7_isLineFree_0 (by decide) ?_
  refine rw_istore_n (lv' := [(2, .int 1), (0, .ref (gS γ 8 0)), (1, .int a1)]) hX hl (by decide) rfl dX7_isLineFree_1 rfl (fun ls hl1 => ?_)
  replace hl := hl1
  clear hl1
  refine lv_iconst (v := 0) hX.1.1 hX.1.2.1 dX7_isLineFree_2 (by decide) ?_
  refine rw_istore_n (lv' := [(3, .int 0), (2, .int 1), (0, .ref (gS γ 8 0)), (1, .int a1)]) hX hl (by decide) rfl dX7_isLineFree_3 rfl (fun ls hl1 => ?_)
  replace hl := hl1
  clear hl1
  exact L4 a1 _ _ _ _ (by omega) (by omega) _ _ _ hw hR (lh_sub hl [2, 3, 1, 0] rfl)
set_option maxHeartbeats 8000000 in
set_option maxRecDepth 100000 in
theorem C_f8_isOpen (l : Launch) (γ : GT) (ad : Nat → Nat → Nat) {fu : Nat} (a1 : Int32) (σ : St) (r : Bool) (hw : f8_isOpen fu a1 σ = some r) : Met l yX7_isOpen (Cond.code yX7_isOpen cX7_isOpen 2 (Option.some Jvm.ClassFile.FieldType.boolean) :: GW) (rmo 2 0 0) (va_Pc [.ref (gS γ 8 0), .int a1] (RU γ ad σ)) (QI γ ad σ (b2i r)) 0 0 (gA γ) := by
  refine Met.ofW (cc := cX7_isOpen) (maxL := 2) (ret := (Option.some Jvm.ClassFile.FieldType.boolean)) (by decide +kernel) rfl ?_
  intro p e s m args below meth c s₁ B hml hv
  obtain ⟨rfl, hU⟩ := hv
  obtain ⟨hX, hR⟩ := cx_of (own := RX7) B hml rfl hU
  have hr := B.returns
  have hlocks := B.notSynchronized
  have hc0 : (0 : Nat) ≤ 0 := Nat.le_refl 0
  show W p l e (rmo 2 0 0) s m ([.ref (gS γ 8 0), .int a1] : List Value).toArray below meth c s.heap [] 0 0 (MQ below (QI γ ad σ (b2i r)) ([.ref (gS γ 8 0), .int a1] : List Value).toArray s 0 0 (gA γ)) (entryFrame m ([.ref (gS γ 8 0), .int a1] : List Value).toArray 2)
  unfold f8_isOpen at hw
  refine rw_entry (ca1 rfl (ca1 rfl ca0)) (Nat.le_of_ble_eq_true rfl) (fun ls hl1 => ?_)
  replace hl := hl1
  clear hl1
  refine rw_iload_n hX hl 1 rfl dX7_isOpen_0 rfl ?_
  refine lv_iconst (v := (-1)) hX.1.1 hX.1.2.1 dX7_isOpen_1 (by decide) ?_
  refine lv_icmp_eq (x := a1) (y := (-1)) (tgt := 13) hX.1.1 hX.1.2.1 dX7_isOpen_2 (by decide) (fun c1 => ?_) (fun c1 => ?_)
  · replace hw := if_t hw c1
    refine lv_iconst (v := 1) hX.1.1 hX.1.2.1 dX7_isOpen_13 (by decide) ?_
    refine lv_goto (tgt := 18) hX.1.1 hX.1.2.1 dX7_isOpen_14 (by decide) ?_
    exact rq_z hX hR hr (v := true) rfl hw dX7_isOpen_18 hlocks
  · replace hw := if_f hw c1
    refine rw_aload_n hX hl 0 rfl (Or.inr ⟨_, rfl⟩) dX7_isOpen_5 rfl ?_
    refine rw_iload_n hX hl 1 rfl dX7_isOpen_6 rfl ?_
    obtain ⟨v2, g4, hw1⟩ := ob1_some hw
    replace hw := hw1
    clear hw1
    refine rw_cVi hX hR pk_f8_isBound (mc := 0) (ms := 0) ⟨rfl, rfl, (show 1 + 1 ≤ 2 by omega), (show 8 + (2 + 11) + 64 * 1 ≤ 64 * 2 by omega)⟩ (As := [.int a1]) (rest := []) rfl (C_f8_isBound l γ ad a1 σ v2 g4) gw_1097 gw_1099 gs_55 (rs_recv hX hR 8 0 (C := RX7) (T := TX7) (N := 48) rfl (by decide) (Nat.le_of_ble_eq_true rfl) rfl) rfl hl.1 ca0 (Nat.le_of_ble_eq_true rfl) dX7_isOpen_7 ⟨(show 0 + 0 ≤ 0 by omega), (show 0 + 0 ≤ 0 by omega)⟩ (fun H locs hR1 => ?_)
    replace hR := hR1
    clear hR1
    refine rw_ifeqZ (b := v2) (tgt := 17) hX dX7_isOpen_10 (by decide) (fun c5 => ?_) (fun c5 => ?_)
    · replace hw := if_f hw c5
      refine lv_iconst (v := 0) hX.1.1 hX.1.2.1 dX7_isOpen_17 (by decide) ?_
      refine W.widen (k := 0) (n := 0) (by omega) (by omega) ?_
      exact rq_z hX hR hr (v := false) rfl hw dX7_isOpen_18 hlocks
    · replace hw := if_t hw c5
      refine lv_iconst (v := 1) hX.1.1 hX.1.2.1 dX7_isOpen_13 (by decide) ?_
      refine lv_goto (tgt := 18) hX.1.1 hX.1.2.1 dX7_isOpen_14 (by decide) ?_
      refine W.widen (k := 0) (n := 0) (by omega) (by omega) ?_
      exact rq_z hX hR hr (v := true) rfl hw dX7_isOpen_18 hlocks
set_option maxHeartbeats 8000000 in
set_option maxRecDepth 100000 in
theorem C_f8_refused (l : Launch) (γ : GT) (ad : Nat → Nat → Nat) {fu : Nat} (a1 : Int32) (σ : St) (r : Int32) (hw : f8_refused fu a1 σ = some r) : Met l yX7_refused (Cond.code yX7_refused cX7_refused 3 (Option.some Jvm.ClassFile.FieldType.int) :: GW) (rmo 4 0 0) (va_Pc [.ref (gS γ 8 0), .int a1] (RU γ ad σ)) (QI γ ad σ r) 0 0 (gA γ) := by
  refine Met.ofW (cc := cX7_refused) (maxL := 3) (ret := (Option.some Jvm.ClassFile.FieldType.int)) (by decide +kernel) rfl ?_
  intro p e s m args below meth c s₁ B hml hv
  obtain ⟨rfl, hU⟩ := hv
  obtain ⟨hX, hR⟩ := cx_of (own := RX7) B hml rfl hU
  have hr := B.returns
  have hlocks := B.notSynchronized
  have hc0 : (0 : Nat) ≤ 0 := Nat.le_refl 0
  show W p l e (rmo 4 0 0) s m ([.ref (gS γ 8 0), .int a1] : List Value).toArray below meth c s.heap [] 0 0 (MQ below (QI γ ad σ r) ([.ref (gS γ 8 0), .int a1] : List Value).toArray s 0 0 (gA γ)) (entryFrame m ([.ref (gS γ 8 0), .int a1] : List Value).toArray 3)
  unfold f8_refused at hw
  have J98 : ∀ (x1 : Int32) (cells slots : Nat), cells ≤ 0 → slots ≤ 0 → ∀ (H : Heap) (locs : List Loc) (ls : Array Slot), f8_refused_j98 fu x1 σ = some r → RS γ ad σ s H locs → lh ls 3 [(0, .ref (gS γ 8 0)), (1, .int x1)] → W p l e (rmo 4 0 0) s m ([.ref (gS γ 8 0), .int a1] : List Value).toArray below meth c H locs cells slots (MQ below (QI γ ad σ r) ([.ref (gS γ 8 0), .int a1] : List Value).toArray s 0 0 (gA γ)) (F0 m 98 ls []) := by
    intro x1 cells slots hc1 hc2 H locs ls hw hR hl
    unfold f8_refused_j98 at hw
    refine rw_aload_n hX hl 0 rfl (Or.inr ⟨_, rfl⟩) dX7_refused_98 rfl ?_
    refine rw_iload_n hX hl 1 rfl dX7_refused_99 rfl ?_
    obtain ⟨v33, g35, hw1⟩ := ob1_some hw
    replace hw := hw1
    clear hw1
    refine rw_cVi hX hR pk_f8_isLineFree (mc := 0) (ms := 0) ⟨rfl, rfl, (show 2 + 1 ≤ 4 by omega), (show 8 + (4 + 11) + 64 * 2 ≤ 64 * 4 by omega)⟩ (As := [.int x1]) (rest := []) rfl (C_f8_isLineFree l γ ad x1 σ v33 g35) gw_1125 gw_1127 gs_62 (rs_recv hX hR 8 0 (C := RX7) (T := TX7) (N := 48) rfl (by decide) (Nat.le_of_ble_eq_true rfl) rfl) rfl hl.1 ca0 (Nat.le_of_ble_eq_true rfl) dX7_refused_100 ⟨(show cells + 0 ≤ 0 by omega), (show slots + 0 ≤ 0 by omega)⟩ (fun H locs hR1 => ?_)
    replace hR := hR1
    clear hR1
    refine rw_ifneZ (b := v33) (tgt := 111) hX dX7_refused_103 (by decide) (fun c36 => ?_) (fun c36 => ?_)
    · replace hw := if_t hw c36
      refine rw_aload_n hX hl 0 rfl (Or.inr ⟨_, rfl⟩) dX7_refused_111 rfl ?_
      refine rw_get hX hR 8 18 0 (C := RX7) (T := TX7) (N := 48) rfl (by decide) (Nat.le_of_ble_eq_true rfl) rfl (v := .ref (gS γ 1818 0)) rfl uw_X7 gw_946 rfl dX7_refused_112 ?_
      refine rw_iload_n hX hl 1 rfl dX7_refused_115 rfl ?_
      obtain ⟨h38, hw1⟩ := ar_some hw
      replace hw := hw1
      clear hw1
      obtain ⟨j37, ej37⟩ : ∃ j, (x1 : Int32).toNatClampNeg = j := ⟨_, rfl⟩
      rw [ej37] at hw
      refine rw_zald hX hR 818 (n := 24) (i := x1) (v := (gb σ 818 j37)) rfl (by decide) rfl rfl h38 (by rw [ej37]) dX7_refused_116 ?_
      refine rw_ifeqZ (b := (gb σ 818 j37)) (tgt := 125) hX dX7_refused_117 (by decide) (fun c39 => ?_) (fun c39 => ?_)
      · replace hw := if_f hw c39
        refine lv_iconst (v := 0) hX.1.1 hX.1.2.1 dX7_refused_125 (by decide) ?_
        refine W.widen (k := 0) (n := 0) (by omega) (by omega) ?_
        exact rq_i hX hR hr hw dX7_refused_126 hlocks
      · replace hw := if_t hw c39
        refine lv_bipush (v := 7) hX.1.1 hX.1.2.1 dX7_refused_120 (by decide) ?_
        refine lv_goto (tgt := 126) hX.1.1 hX.1.2.1 dX7_refused_122 (by decide) ?_
        refine W.widen (k := 0) (n := 0) (by omega) (by omega) ?_
        exact rq_i hX hR hr hw dX7_refused_126 hlocks
    · replace hw := if_f hw c36
      refine lv_bipush (v := 6) hX.1.1 hX.1.2.1 dX7_refused_106 (by decide) ?_
      refine lv_goto (tgt := 126) hX.1.1 hX.1.2.1 dX7_refused_108 (by decide) ?_
      refine W.widen (k := 0) (n := 0) (by omega) (by omega) ?_
      exact rq_i hX hR hr hw dX7_refused_126 hlocks
  refine rw_entry (ca1 rfl (ca1 rfl ca0)) (Nat.le_of_ble_eq_true rfl) (fun ls hl1 => ?_)
  replace hl := hl1
  clear hl1
  refine rw_aload_n hX hl 0 rfl (Or.inr ⟨_, rfl⟩) dX7_refused_0 rfl ?_
  refine rw_aload_n hX hl 0 rfl (Or.inr ⟨_, rfl⟩) dX7_refused_1 rfl ?_
  refine rw_get hX hR 8 5 0 (C := RX7) (T := TX7) (N := 48) rfl (by decide) (Nat.le_of_ble_eq_true rfl) rfl (v := .ref (gS γ 1805 0)) rfl uw_X7 gw_933 rfl dX7_refused_2 ?_
  refine rw_iload_n hX hl 1 rfl dX7_refused_5 rfl ?_
  obtain ⟨h2, hw1⟩ := ar_some hw
  replace hw := hw1
  clear hw1
  obtain ⟨j1, ej1⟩ : ∃ j, (a1 : Int32).toNatClampNeg = j := ⟨_, rfl⟩
  rw [ej1] at hw
  refine rw_iald hX hR 805 (n := 24) (i := a1) (v := (gi σ 805 j1)) rfl (by decide) rfl rfl h2 (by rw [ej1]) dX7_refused_6 ?_
  obtain ⟨v3, g5, hw1⟩ := ob1_some hw
  replace hw := hw1
  clear hw1
  refine rw_cVi hX hR pk_f8_driverFor (mc := 0) (ms := 0) ⟨rfl, rfl, (show 1 + 1 ≤ 4 by omega), (show 8 + (5 + 11) + 64 * 1 ≤ 64 * 4 by omega)⟩ (As := [.int (gi σ 805 j1)]) (rest := []) rfl (C_f8_driverFor l γ ad (gi σ 805 j1) σ v3 g5) gw_1105 gw_1107 gs_57 (rs_recv hX hR 8 0 (C := RX7) (T := TX7) (N := 48) rfl (by decide) (Nat.le_of_ble_eq_true rfl) rfl) rfl hl.1 ca0 (Nat.le_of_ble_eq_true rfl) dX7_refused_7 ⟨(show 0 + 0 ≤ 0 by omega), (show 0 + 0 ≤ 0 by omega)⟩ (fun H locs hR1 => ?_)
  replace hR := hR1
  clear hR1
  refine rw_istore_n (lv' := [(2, .int v3), (0, .ref (gS γ 8 0)), (1, .int a1)]) hX hl (by decide) rfl dX7_refused_10 rfl (fun ls hl1 => ?_)
  replace hl := hl1
  clear hl1
  refine rw_iload_n hX hl 0 rfl dX7_refused_11 rfl ?_
  refine lv_iconst (v := (-1)) hX.1.1 hX.1.2.1 dX7_refused_12 (by decide) ?_
  refine lv_icmp_ne (x := v3) (y := (-1)) (tgt := 18) hX.1.1 hX.1.2.1 dX7_refused_13 (by decide) (fun c6 => ?_) (fun c6 => ?_)
  · replace hw := if_f hw c6
    refine rw_aload_n hX hl 1 rfl (Or.inr ⟨_, rfl⟩) dX7_refused_18 rfl ?_
    refine rw_aload_n hX hl 1 rfl (Or.inr ⟨_, rfl⟩) dX7_refused_19 rfl ?_
    refine rw_get hX hR 8 4 0 (C := RX7) (T := TX7) (N := 48) rfl (by decide) (Nat.le_of_ble_eq_true rfl) rfl (v := .ref (gS γ 1804 0)) rfl uw_X7 gw_932 rfl dX7_refused_20 ?_
    refine rw_iload_n hX hl 2 rfl dX7_refused_23 rfl ?_
    obtain ⟨h8, hw1⟩ := ar_some hw
    replace hw := hw1
    clear hw1
    obtain ⟨j7, ej7⟩ : ∃ j, (a1 : Int32).toNatClampNeg = j := ⟨_, rfl⟩
    rw [ej7] at hw
    refine rw_iald hX hR 804 (n := 24) (i := a1) (v := (gi σ 804 j7)) rfl (by decide) rfl rfl h8 (by rw [ej7]) dX7_refused_24 ?_
    obtain ⟨v9, g11, hw1⟩ := ob1_some hw
    replace hw := hw1
    clear hw1
    refine rw_cVi hX hR pk_f8_isOpen (mc := 0) (ms := 0) ⟨rfl, rfl, (show 2 + 1 ≤ 4 by omega), (show 8 + (2 + 11) + 64 * 2 ≤ 64 * 4 by omega)⟩ (As := [.int (gi σ 804 j7)]) (rest := []) rfl (C_f8_isOpen l γ ad (gi σ 804 j7) σ v9 g11) gw_1109 gw_1111 gs_58 (rs_recv hX hR 8 0 (C := RX7) (T := TX7) (N := 48) rfl (by decide) (Nat.le_of_ble_eq_true rfl) rfl) rfl hl.1 ca0 (Nat.le_of_ble_eq_true rfl) dX7_refused_25 ⟨(show (0 + 0) + 0 ≤ 0 by omega), (show (0 + 0) + 0 ≤ 0 by omega)⟩ (fun H locs hR1 => ?_)
    replace hR := hR1
    clear hR1
    refine rw_ifneZ (b := v9) (tgt := 33) hX dX7_refused_28 (by decide) (fun c12 => ?_) (fun c12 => ?_)
    · replace hw := if_t hw c12
      refine rw_aload_n hX hl 1 rfl (Or.inr ⟨_, rfl⟩) dX7_refused_33 rfl ?_
      refine rw_aload_n hX hl 1 rfl (Or.inr ⟨_, rfl⟩) dX7_refused_34 rfl ?_
      refine rw_get hX hR 8 9 0 (C := RX7) (T := TX7) (N := 48) rfl (by decide) (Nat.le_of_ble_eq_true rfl) rfl (v := .ref (gS γ 1809 0)) rfl uw_X7 gw_937 rfl dX7_refused_35 ?_
      refine rw_iload_n hX hl 2 rfl dX7_refused_38 rfl ?_
      obtain ⟨h14, hw1⟩ := ar_some hw
      replace hw := hw1
      clear hw1
      obtain ⟨j13, ej13⟩ : ∃ j, (a1 : Int32).toNatClampNeg = j := ⟨_, rfl⟩
      rw [ej13] at hw
      refine rw_iald hX hR 809 (n := 24) (i := a1) (v := (gi σ 809 j13)) rfl (by decide) rfl rfl h14 (by rw [ej13]) dX7_refused_39 ?_
      obtain ⟨v15, g17, hw1⟩ := ob1_some hw
      replace hw := hw1
      clear hw1
      refine rw_cVi hX hR pk_f8_isOpen (mc := 0) (ms := 0) ⟨rfl, rfl, (show 2 + 1 ≤ 4 by omega), (show 8 + (2 + 11) + 64 * 2 ≤ 64 * 4 by omega)⟩ (As := [.int (gi σ 809 j13)]) (rest := []) rfl (C_f8_isOpen l γ ad (gi σ 809 j13) σ v15 g17) gw_1109 gw_1111 gs_58 (rs_recv hX hR 8 0 (C := RX7) (T := TX7) (N := 48) rfl (by decide) (Nat.le_of_ble_eq_true rfl) rfl) rfl hl.1 ca0 (Nat.le_of_ble_eq_true rfl) dX7_refused_40 ⟨(show ((0 + 0) + 0) + 0 ≤ 0 by omega), (show ((0 + 0) + 0) + 0 ≤ 0 by omega)⟩ (fun H locs hR1 => ?_)
      replace hR := hR1
      clear hR1
      refine rw_ifeqZ (b := v15) (tgt := 59) hX dX7_refused_43 (by decide) (fun c18 => ?_) (fun c18 => ?_)
      · replace hw := if_f hw c18
        refine lv_iconst (v := 3) hX.1.1 hX.1.2.1 dX7_refused_59 (by decide) ?_
        refine W.widen (k := 0) (n := 0) (by omega) (by omega) ?_
        exact rq_i hX hR hr hw dX7_refused_60 hlocks
      · replace hw := if_t hw c18
        refine rw_aload_n hX hl 1 rfl (Or.inr ⟨_, rfl⟩) dX7_refused_46 rfl ?_
        refine rw_aload_n hX hl 1 rfl (Or.inr ⟨_, rfl⟩) dX7_refused_47 rfl ?_
        refine rw_get hX hR 8 10 0 (C := RX7) (T := TX7) (N := 48) rfl (by decide) (Nat.le_of_ble_eq_true rfl) rfl (v := .ref (gS γ 1810 0)) rfl uw_X7 gw_938 rfl dX7_refused_48 ?_
        refine rw_iload_n hX hl 2 rfl dX7_refused_51 rfl ?_
        obtain ⟨h20, hw1⟩ := ar_some hw
        replace hw := hw1
        clear hw1
        obtain ⟨j19, ej19⟩ : ∃ j, (a1 : Int32).toNatClampNeg = j := ⟨_, rfl⟩
        rw [ej19] at hw
        refine rw_iald hX hR 810 (n := 24) (i := a1) (v := (gi σ 810 j19)) rfl (by decide) rfl rfl h20 (by rw [ej19]) dX7_refused_52 ?_
        obtain ⟨v21, g23, hw1⟩ := ob1_some hw
        replace hw := hw1
        clear hw1
        refine rw_cVi hX hR pk_f8_isOpen (mc := 0) (ms := 0) ⟨rfl, rfl, (show 2 + 1 ≤ 4 by omega), (show 8 + (2 + 11) + 64 * 2 ≤ 64 * 4 by omega)⟩ (As := [.int (gi σ 810 j19)]) (rest := []) rfl (C_f8_isOpen l γ ad (gi σ 810 j19) σ v21 g23) gw_1109 gw_1111 gs_58 (rs_recv hX hR 8 0 (C := RX7) (T := TX7) (N := 48) rfl (by decide) (Nat.le_of_ble_eq_true rfl) rfl) rfl hl.1 ca0 (Nat.le_of_ble_eq_true rfl) dX7_refused_53 ⟨(show (((0 + 0) + 0) + 0) + 0 ≤ 0 by omega), (show (((0 + 0) + 0) + 0) + 0 ≤ 0 by omega)⟩ (fun H locs hR1 => ?_)
        replace hR := hR1
        clear hR1
        refine rw_ifneZ (b := v21) (tgt := 61) hX dX7_refused_56 (by decide) (fun c24 => ?_) (fun c24 => ?_)
        · replace hw := if_t hw c24
          refine rw_aload_n hX hl 1 rfl (Or.inr ⟨_, rfl⟩) dX7_refused_61 rfl ?_
          refine rw_get hX hR 8 29 0 (C := RX7) (T := TX7) (N := 48) rfl (by decide) (Nat.le_of_ble_eq_true rfl) rfl (v := .ref (gS γ 1829 0)) rfl uw_X7 gw_957 rfl dX7_refused_62 ?_
          refine rw_iload_n hX hl 0 rfl dX7_refused_65 rfl ?_
          obtain ⟨h26, hw1⟩ := ar_some hw
          replace hw := hw1
          clear hw1
          obtain ⟨j25, ej25⟩ : ∃ j, (v3 : Int32).toNatClampNeg = j := ⟨_, rfl⟩
          rw [ej25] at hw
          refine rw_iald hX hR 829 (n := 8) (i := v3) (v := (gi σ 829 j25)) rfl (by decide) rfl rfl h26 (by rw [ej25]) dX7_refused_66 ?_
          refine rw_aload_n hX hl 1 rfl (Or.inr ⟨_, rfl⟩) dX7_refused_67 rfl ?_
          refine rw_get hX hR 8 27 0 (C := RX7) (T := TX7) (N := 48) rfl (by decide) (Nat.le_of_ble_eq_true rfl) rfl (v := .ref (gS γ 1827 0)) rfl uw_X7 gw_955 rfl dX7_refused_68 ?_
          refine rw_iload_n hX hl 0 rfl dX7_refused_71 rfl ?_
          obtain ⟨h28, hw1⟩ := ar_some hw
          replace hw := hw1
          clear hw1
          obtain ⟨j27, ej27⟩ : ∃ j, (v3 : Int32).toNatClampNeg = j := ⟨_, rfl⟩
          rw [ej27] at hw
          refine rw_iald hX hR 827 (n := 8) (i := v3) (v := (gi σ 827 j27)) rfl (by decide) rfl rfl h28 (by rw [ej27]) dX7_refused_72 ?_
          refine lv_icmp_ge (x := (gi σ 829 j25)) (y := (gi σ 827 j27)) (tgt := 78) hX.1.1 hX.1.2.1 dX7_refused_73 (by decide) (fun c29 => ?_) (fun c29 => ?_)
          · replace hw := if_t hw c29
            refine rw_aload_n hX hl 1 rfl (Or.inr ⟨_, rfl⟩) dX7_refused_78 rfl ?_
            refine rw_get hX hR 8 6 0 (C := RX7) (T := TX7) (N := 48) rfl (by decide) (Nat.le_of_ble_eq_true rfl) rfl (v := .ref (gS γ 1806 0)) rfl uw_X7 gw_934 rfl dX7_refused_79 ?_
            refine rw_iload_n hX hl 2 rfl dX7_refused_82 rfl ?_
            obtain ⟨h31, hw1⟩ := ar_some hw
            replace hw := hw1
            clear hw1
            obtain ⟨j30, ej30⟩ : ∃ j, (a1 : Int32).toNatClampNeg = j := ⟨_, rfl⟩
            rw [ej30] at hw
            refine rw_iald hX hR 806 (n := 24) (i := a1) (v := (gi σ 806 j30)) rfl (by decide) rfl rfl h31 (by rw [ej30]) dX7_refused_83 ?_
            refine lv_if_le (x := (gi σ 806 j30)) (tgt := 98) hX.1.1 hX.1.2.1 dX7_refused_84 (by decide) (fun c32 => ?_) (fun c32 => ?_)
            · replace hw := if_t hw c32
              exact J98 a1 _ _ (by omega) (by omega) _ _ _ hw hR (lh_sub hl [1, 2] rfl)
            · replace hw := if_f hw c32
              refine rw_aload_n hX hl 1 rfl (Or.inr ⟨_, rfl⟩) dX7_refused_87 rfl ?_
              refine rw_iload_n hX hl 2 rfl dX7_refused_88 rfl ?_
              obtain ⟨v40, g42, hw1⟩ := ob1_some hw
              replace hw := hw1
              clear hw1
              refine rw_cVi hX hR pk_f8_roomFor (mc := 0) (ms := 0) ⟨rfl, rfl, (show 3 + 1 ≤ 4 by omega), (show 8 + (6 + 11) + 64 * 3 ≤ 64 * 4 by omega)⟩ (As := [.int a1]) (rest := []) rfl (C_f8_roomFor l γ ad a1 σ v40 g42) gw_1113 gw_1115 gs_59 (rs_recv hX hR 8 0 (C := RX7) (T := TX7) (N := 48) rfl (by decide) (Nat.le_of_ble_eq_true rfl) rfl) rfl hl.1 ca0 (Nat.le_of_ble_eq_true rfl) dX7_refused_89 ⟨(show ((((0 + 0) + 0) + 0) + 0) + 0 ≤ 0 by omega), (show ((((0 + 0) + 0) + 0) + 0) + 0 ≤ 0 by omega)⟩ (fun H locs hR1 => ?_)
              replace hR := hR1
              clear hR1
              refine lv_iconst (v := (-1)) hX.1.1 hX.1.2.1 dX7_refused_92 (by decide) ?_
              refine lv_icmp_ne (x := v40) (y := (-1)) (tgt := 98) hX.1.1 hX.1.2.1 dX7_refused_93 (by decide) (fun c43 => ?_) (fun c43 => ?_)
              · replace hw := if_f hw c43
                exact J98 a1 _ _ (by omega) (by omega) _ _ _ hw hR (lh_sub hl [1, 2] rfl)
              · replace hw := if_t hw c43
                refine lv_iconst (v := 5) hX.1.1 hX.1.2.1 dX7_refused_96 (by decide) ?_
                refine W.widen (k := 0) (n := 0) (by omega) (by omega) ?_
                exact rq_i hX hR hr hw dX7_refused_97 hlocks
          · replace hw := if_f hw c29
            refine lv_iconst (v := 4) hX.1.1 hX.1.2.1 dX7_refused_76 (by decide) ?_
            refine W.widen (k := 0) (n := 0) (by omega) (by omega) ?_
            exact rq_i hX hR hr hw dX7_refused_77 hlocks
        · replace hw := if_f hw c24
          refine lv_iconst (v := 3) hX.1.1 hX.1.2.1 dX7_refused_59 (by decide) ?_
          refine W.widen (k := 0) (n := 0) (by omega) (by omega) ?_
          exact rq_i hX hR hr hw dX7_refused_60 hlocks
    · replace hw := if_f hw c12
      refine lv_iconst (v := 2) hX.1.1 hX.1.2.1 dX7_refused_31 (by decide) ?_
      refine W.widen (k := 0) (n := 0) (by omega) (by omega) ?_
      exact rq_i hX hR hr hw dX7_refused_32 hlocks
  · replace hw := if_t hw c6
    refine lv_iconst (v := 1) hX.1.1 hX.1.2.1 dX7_refused_16 (by decide) ?_
    refine W.widen (k := 0) (n := 0) (by omega) (by omega) ?_
    exact rq_i hX hR hr hw dX7_refused_17 hlocks
set_option maxHeartbeats 8000000 in
set_option maxRecDepth 100000 in
theorem C_f8_wake (l : Launch) (γ : GT) (ad : Nat → Nat → Nat) {fu : Nat} (a1 : Int32) (σ : St) (σ' : St) (hw : f8_wake fu a1 σ = some σ') : Met l yX7_wake (Cond.code yX7_wake cX7_wake 5 (Option.none : Option Jvm.ClassFile.FieldType) :: GW) (rmo 2 0 0) (va_Pc [.ref (gS γ 8 0), .int a1] (RU γ ad σ)) (QV γ ad σ') 0 0 (gA γ) := by
  refine Met.ofW (cc := cX7_wake) (maxL := 5) (ret := (Option.none : Option Jvm.ClassFile.FieldType)) (by decide +kernel) rfl ?_
  intro p e s m args below meth c s₁ B hml hv
  obtain ⟨rfl, hU⟩ := hv
  obtain ⟨hX, hR⟩ := cx_of (own := RX7) B hml rfl hU
  have hr := B.returns
  have hlocks := B.notSynchronized
  have hc0 : (0 : Nat) ≤ 0 := Nat.le_refl 0
  show W p l e (rmo 2 0 0) s m ([.ref (gS γ 8 0), .int a1] : List Value).toArray below meth c s.heap [] 0 0 (MQ below (QV γ ad σ') ([.ref (gS γ 8 0), .int a1] : List Value).toArray s 0 0 (gA γ)) (entryFrame m ([.ref (gS γ 8 0), .int a1] : List Value).toArray 5)
  unfold f8_wake at hw
  have L16 : ∀ (n : Nat) (s9 : (Int32 × St)) (cells slots : Nat), cells ≤ 0 → slots ≤ 0 → ∀ (H : Heap) (locs : List Loc) (ls : Array Slot), lp (fun s8 => f8_wake_b16 fu s8.1 s8.2) n s9 = some σ' → RS γ ad (s9.2) s H locs → lh ls 5 [(0, .ref (gS γ 8 0)), (2, .int s9.1)] → W p l e (rmo 2 0 0) s m ([.ref (gS γ 8 0), .int a1] : List Value).toArray below meth c H locs cells slots (MQ below (QV γ ad σ') ([.ref (gS γ 8 0), .int a1] : List Value).toArray s 0 0 (gA γ)) (F0 m 16 ls []) := by
    intro n16
    induction n16 with
    | zero => intro s9 cells slots hc1 hc2 H locs ls hw hR hl; exact (lp_zero hw).elim
    | succ n16 ih16 =>
      intro s9 cells slots hc1 hc2 H locs ls hw hR hl
      obtain ⟨o16, hw1, hb16, ho16⟩ := lp_succ hw
      replace hw := hw1
      clear hw1
      obtain ⟨x2, σ⟩ := s9
      replace hw : f8_wake_b16 fu x2 σ = some o16 := hw
      replace hR : RS γ ad σ s H locs := hR
      replace hl : lh ls 5 [(0, .ref (gS γ 8 0)), (2, .int x2)] := hl
      unfold f8_wake_b16 at hw
      have J190 : ∀ (x2 : Int32) (x3 : Int32) (y1 : Int32) (y2 : Int32) (σ : St) (cells slots : Nat), cells ≤ 0 → slots ≤ 0 → ∀ (H : Heap) (locs : List Loc) (ls : Array Slot), f8_wake_j190 fu x2 x3 y1 y2 σ = some o16 → RS γ ad σ s H locs → lh ls 5 [(0, .ref (gS γ 8 0)), (2, .int x2), (3, .int x3)] → W p l e (rmo 2 0 0) s m ([.ref (gS γ 8 0), .int a1] : List Value).toArray below meth c H locs cells slots (MQ below (QV γ ad σ') ([.ref (gS γ 8 0), .int a1] : List Value).toArray s 0 0 (gA γ)) (F0 m 190 ls [.int y2, .int y1, .ref (gS γ 1815 0)]) := by
        intro x2 x3 y1 y2 σ cells slots hc1 hc2 H locs ls hw hR hl
        unfold f8_wake_j190 at hw
        obtain ⟨h32, hw1⟩ := ar_some hw
        replace hw := hw1
        clear hw1
        obtain ⟨j31, ej31⟩ : ∃ j, (y1 : Int32).toNatClampNeg = j := ⟨_, rfl⟩
        rw [ej31] at hw
        refine rw_iast hX hR 815 (n := 24) (i := y1) (x := y2) rfl (by decide) rfl rfl h32 dX7_wake_190 (fun σ1 H locs e1 hR1 => ?_)
        replace hR := hR1
        clear hR1
        rw [ej31] at e1
        subst e1
        refine rw_aload_n hX hl 0 rfl (Or.inr ⟨_, rfl⟩) dX7_wake_191 rfl ?_
        refine rw_get hX hR 8 22 0 (C := RX7) (T := TX7) (N := 48) rfl (by decide) (Nat.le_of_ble_eq_true rfl) rfl (v := .ref (gS γ 1822 0)) rfl uw_X7 gw_950 rfl dX7_wake_192 ?_
        refine rw_iload_n hX hl 2 rfl dX7_wake_195 rfl ?_
        refine lv_iconst (v := 0) hX.1.1 hX.1.2.1 dX7_wake_196 (by decide) ?_
        obtain ⟨h34, hw1⟩ := ar_some hw
        replace hw := hw1
        clear hw1
        obtain ⟨j33, ej33⟩ : ∃ j, (x3 : Int32).toNatClampNeg = j := ⟨_, rfl⟩
        rw [ej33] at hw
        refine rw_zast hX hR 822 (n := 24) (i := x3) (x := false) rfl (by decide) rfl rfl h34 dX7_wake_197 (fun σ1 H locs e1 hR1 => ?_)
        replace hR := hR1
        clear hR1
        rw [ej33] at e1
        subst e1
        refine rw_aload_n hX hl 0 rfl (Or.inr ⟨_, rfl⟩) dX7_wake_198 rfl ?_
        refine lv_iconst (v := 4) hX.1.1 hX.1.2.1 dX7_wake_199 (by decide) ?_
        refine rw_iload_n hX hl 2 rfl dX7_wake_200 rfl ?_
        obtain ⟨σ36, g37, hw1⟩ := ob1_some hw
        replace hw := hw1
        clear hw1
        refine rw_cVv hX hR pk_f8_event (mc := 0) (ms := 0) ⟨rfl, rfl, (show 1 + 1 ≤ 2 by omega), (show 8 + (3 + 11) + 64 * 1 ≤ 64 * 2 by omega)⟩ (As := [.int 4, .int x3]) (rest := []) rfl (C_f8_event l γ ad 4 x3 (zb (zi σ 815 j31 y2) 822 j33 false) σ36 g37) gw_1137 gw_1139 gs_65 (rs_recv hX hR 8 0 (C := RX7) (T := TX7) (N := 48) rfl (by decide) (Nat.le_of_ble_eq_true rfl) rfl) rfl hl.1 ca0 (Nat.le_of_ble_eq_true rfl) dX7_wake_201 ⟨(show cells + 0 ≤ 0 by omega), (show slots + 0 ≤ 0 by omega)⟩ (fun H locs hR1 => ?_)
        replace hR := hR1
        clear hR1
        refine rw_aload_n hX hl 0 rfl (Or.inr ⟨_, rfl⟩) dX7_wake_204 rfl ?_
        refine lv_dup hX.1.1 hX.1.2.1 dX7_wake_205 rfl ?_
        refine rw_get hX hR 8 47 0 (C := RX7) (T := TX7) (N := 48) rfl (by decide) (Nat.le_of_ble_eq_true rfl) rfl (v := .int (gi σ36 847 0)) rfl uw_X7 gw_975 rfl dX7_wake_206 ?_
        refine lv_iconst (v := 1) hX.1.1 hX.1.2.1 dX7_wake_209 (by decide) ?_
        refine lv_iadd (x := (gi σ36 847 0)) (y := 1) hX.1.1 hX.1.2.1 dX7_wake_210 ?_
        refine rw_puti (x := ((gi σ36 847 0) + 1)) hX hR 8 47 0 847 (C := RX7) (T := TX7) (N := 48) rfl (by decide) rfl rfl (Nat.le_of_ble_eq_true rfl) rfl uw_X7 tyX7 tyX7_ok nmX7 gw_975 rfl rfl (by decide) dX7_wake_211 (fun σ1 H locs e1 hR1 => ?_)
        replace hR := hR1
        clear hR1
        subst e1
        refine rw_iinc (k := 1) (v := (x2 + (-1))) (lv' := [(2, .int (x2 + (-1))), (0, .ref (gS γ 8 0)), (3, .int x3)]) hX hl rfl (congrArg (fun q => x2 + q) (show Int32.ofInt (-1) = (-1) by decide)) (by decide) rfl dX7_wake_214 (fun ls hl1 => ?_)
        replace hl := hl1
        clear hl1
        refine lv_goto (tgt := 16) hX.1.1 hX.1.2.1 dX7_wake_217 (by decide) ?_
        exact ih16 _ _ _ (by omega) (by omega) _ _ _ (lp_back hw hb16) hR (lh_sub hl [1, 0] rfl)
      have J70 : ∀ (x2 : Int32) (x3 : Int32) (y0 : Int32) (σ : St) (cells slots : Nat), cells ≤ 0 → slots ≤ 0 → ∀ (H : Heap) (locs : List Loc) (ls : Array Slot), f8_wake_j70 fu x2 x3 y0 σ = some o16 → RS γ ad σ s H locs → lh ls 5 [(0, .ref (gS γ 8 0)), (2, .int x2), (3, .int x3)] → W p l e (rmo 2 0 0) s m ([.ref (gS γ 8 0), .int a1] : List Value).toArray below meth c H locs cells slots (MQ below (QV γ ad σ') ([.ref (gS γ 8 0), .int a1] : List Value).toArray s 0 0 (gA γ)) (F0 m 70 ls [.int y0]) := by
        intro x2 x3 y0 σ cells slots hc1 hc2 H locs ls hw hR hl
        unfold f8_wake_j70 at hw
        refine rw_istore (lv' := [(4, .int y0), (0, .ref (gS γ 8 0)), (2, .int x2), (3, .int x3)]) hX hl (by decide) rfl dX7_wake_70 (fun ls hl1 => ?_)
        replace hl := hl1
        clear hl1
        refine rw_aload_n hX hl 1 rfl (Or.inr ⟨_, rfl⟩) dX7_wake_72 rfl ?_
        refine rw_get hX hR 8 13 0 (C := RX7) (T := TX7) (N := 48) rfl (by decide) (Nat.le_of_ble_eq_true rfl) rfl (v := .ref (gS γ 1813 0)) rfl uw_X7 gw_941 rfl dX7_wake_73 ?_
        refine rw_iload_n hX hl 3 rfl dX7_wake_76 rfl ?_
        obtain ⟨h17, hw1⟩ := ar_some hw
        replace hw := hw1
        clear hw1
        obtain ⟨j16, ej16⟩ : ∃ j, (x3 : Int32).toNatClampNeg = j := ⟨_, rfl⟩
        rw [ej16] at hw
        refine rw_zald hX hR 813 (n := 24) (i := x3) (v := (gb σ 813 j16)) rfl (by decide) rfl rfl h17 (by rw [ej16]) dX7_wake_77 ?_
        refine rw_ifeqZ (b := (gb σ 813 j16)) (tgt := 87) hX dX7_wake_78 (by decide) (fun c18 => ?_) (fun c18 => ?_)
        · replace hw := if_f hw c18
          refine rw_aload_n hX hl 1 rfl (Or.inr ⟨_, rfl⟩) dX7_wake_87 rfl ?_
          refine rw_get hX hR 8 46 0 (C := RX7) (T := TX7) (N := 48) rfl (by decide) (Nat.le_of_ble_eq_true rfl) rfl (v := .ref (gS γ 1846 0)) rfl uw_X7 gw_974 rfl dX7_wake_88 ?_
          refine rw_iload_n hX hl 2 rfl dX7_wake_91 rfl ?_
          obtain ⟨h20, hw1⟩ := ar_some hw
          replace hw := hw1
          clear hw1
          obtain ⟨j19, ej19⟩ : ∃ j, (x2 : Int32).toNatClampNeg = j := ⟨_, rfl⟩
          rw [ej19] at hw
          refine rw_iald hX hR 846 (n := 25) (i := x2) (v := (gi σ 846 j19)) rfl (by decide) rfl rfl h20 (by rw [ej19]) dX7_wake_92 ?_
          refine lv_iconst (v := 3) hX.1.1 hX.1.2.1 dX7_wake_93 (by decide) ?_
          refine lv_icmp_ge (x := (gi σ 846 j19)) (y := 3) (tgt := 144) hX.1.1 hX.1.2.1 dX7_wake_94 (by decide) (fun c21 => ?_) (fun c21 => ?_)
          · replace hw := if_t hw c21
            refine rw_aload_n hX hl 1 rfl (Or.inr ⟨_, rfl⟩) dX7_wake_144 rfl ?_
            refine rw_get hX hR 8 13 0 (C := RX7) (T := TX7) (N := 48) rfl (by decide) (Nat.le_of_ble_eq_true rfl) rfl (v := .ref (gS γ 1813 0)) rfl uw_X7 gw_941 rfl dX7_wake_145 ?_
            refine rw_iload_n hX hl 3 rfl dX7_wake_148 rfl ?_
            refine lv_iconst (v := 1) hX.1.1 hX.1.2.1 dX7_wake_149 (by decide) ?_
            obtain ⟨h23, hw1⟩ := ar_some hw
            replace hw := hw1
            clear hw1
            obtain ⟨j22, ej22⟩ : ∃ j, (x3 : Int32).toNatClampNeg = j := ⟨_, rfl⟩
            rw [ej22] at hw
            refine rw_zast hX hR 813 (n := 24) (i := x3) (x := true) rfl (by decide) rfl rfl h23 dX7_wake_150 (fun σ1 H locs e1 hR1 => ?_)
            replace hR := hR1
            clear hR1
            rw [ej22] at e1
            subst e1
            refine rw_aload_n hX hl 1 rfl (Or.inr ⟨_, rfl⟩) dX7_wake_151 rfl ?_
            refine rw_get hX hR 8 21 0 (C := RX7) (T := TX7) (N := 48) rfl (by decide) (Nat.le_of_ble_eq_true rfl) rfl (v := .ref (gS γ 1821 0)) rfl uw_X7 gw_949 rfl dX7_wake_152 ?_
            refine rw_iload_n hX hl 3 rfl dX7_wake_155 rfl ?_
            refine rw_aload_n hX hl 1 rfl (Or.inr ⟨_, rfl⟩) dX7_wake_156 rfl ?_
            refine rw_get hX hR 8 1 0 (C := RX7) (T := TX7) (N := 48) rfl (by decide) (Nat.le_of_ble_eq_true rfl) rfl (v := .int (gi (zb σ 813 j22 true) 801 0)) rfl uw_X7 gw_929 rfl dX7_wake_157 ?_
            obtain ⟨h25, hw1⟩ := ar_some hw
            replace hw := hw1
            clear hw1
            obtain ⟨j24, ej24⟩ : ∃ j, (x3 : Int32).toNatClampNeg = j := ⟨_, rfl⟩
            rw [ej24] at hw
            refine rw_iast hX hR 821 (n := 24) (i := x3) (x := (gi (zb σ 813 j22 true) 801 0)) rfl (by decide) rfl rfl h25 dX7_wake_160 (fun σ1 H locs e1 hR1 => ?_)
            replace hR := hR1
            clear hR1
            rw [ej24] at e1
            subst e1
            refine rw_aload_n hX hl 1 rfl (Or.inr ⟨_, rfl⟩) dX7_wake_161 rfl ?_
            refine rw_get hX hR 8 15 0 (C := RX7) (T := TX7) (N := 48) rfl (by decide) (Nat.le_of_ble_eq_true rfl) rfl (v := .ref (gS γ 1815 0)) rfl uw_X7 gw_943 rfl dX7_wake_162 ?_
            refine rw_iload_n hX hl 3 rfl dX7_wake_165 rfl ?_
            refine rw_aload_n hX hl 1 rfl (Or.inr ⟨_, rfl⟩) dX7_wake_166 rfl ?_
            refine rw_get hX hR 8 28 0 (C := RX7) (T := TX7) (N := 48) rfl (by decide) (Nat.le_of_ble_eq_true rfl) rfl (v := .ref (gS γ 1828 0)) rfl uw_X7 gw_956 rfl dX7_wake_167 ?_
            refine rw_aload_n hX hl 1 rfl (Or.inr ⟨_, rfl⟩) dX7_wake_170 rfl ?_
            refine rw_get hX hR 8 12 0 (C := RX7) (T := TX7) (N := 48) rfl (by decide) (Nat.le_of_ble_eq_true rfl) rfl (v := .ref (gS γ 1812 0)) rfl uw_X7 gw_940 rfl dX7_wake_171 ?_
            refine rw_iload_n hX hl 3 rfl dX7_wake_174 rfl ?_
            obtain ⟨h27, hw1⟩ := ar_some hw
            replace hw := hw1
            clear hw1
            obtain ⟨j26, ej26⟩ : ∃ j, (x3 : Int32).toNatClampNeg = j := ⟨_, rfl⟩
            rw [ej26] at hw
            refine rw_iald hX hR 812 (n := 24) (i := x3) (v := (gi (zi (zb σ 813 j22 true) 821 j24 (gi (zb σ 813 j22 true) 801 0)) 812 j26)) rfl (by decide) rfl rfl h27 (by rw [ej26]) dX7_wake_175 ?_
            obtain ⟨h29, hw1⟩ := ar_some hw
            replace hw := hw1
            clear hw1
            obtain ⟨j28, ej28⟩ : ∃ j, ((gi (zi (zb σ 813 j22 true) 821 j24 (gi (zb σ 813 j22 true) 801 0)) 812 j26) : Int32).toNatClampNeg = j := ⟨_, rfl⟩
            rw [ej28] at hw
            refine rw_zald hX hR 828 (n := 8) (i := (gi (zi (zb σ 813 j22 true) 821 j24 (gi (zb σ 813 j22 true) 801 0)) 812 j26)) (v := (gb (zi (zb σ 813 j22 true) 821 j24 (gi (zb σ 813 j22 true) 801 0)) 828 j28)) rfl (by decide) rfl rfl h29 (by rw [ej28]) dX7_wake_176 ?_
            refine rw_ifeqZ (b := (gb (zi (zb σ 813 j22 true) 821 j24 (gi (zb σ 813 j22 true) 801 0)) 828 j28)) (tgt := 189) hX dX7_wake_177 (by decide) (fun c30 => ?_) (fun c30 => ?_)
            · replace hw := if_f hw c30
              refine lv_iconst (v := 0) hX.1.1 hX.1.2.1 dX7_wake_189 (by decide) ?_
              exact J190 x2 x3 x3 0 (zi (zb σ 813 j22 true) 821 j24 (gi (zb σ 813 j22 true) 801 0)) _ _ (by omega) (by omega) _ _ _ hw hR (lh_sub hl [1, 2, 3] rfl)
            · replace hw := if_t hw c30
              refine rw_aload_n hX hl 1 rfl (Or.inr ⟨_, rfl⟩) dX7_wake_180 rfl ?_
              refine rw_get hX hR 8 16 0 (C := RX7) (T := TX7) (N := 48) rfl (by decide) (Nat.le_of_ble_eq_true rfl) rfl (v := .ref (gS γ 1816 0)) rfl uw_X7 gw_944 rfl dX7_wake_181 ?_
              refine rw_iload_n hX hl 3 rfl dX7_wake_184 rfl ?_
              obtain ⟨h39, hw1⟩ := ar_some hw
              replace hw := hw1
              clear hw1
              obtain ⟨j38, ej38⟩ : ∃ j, (x3 : Int32).toNatClampNeg = j := ⟨_, rfl⟩
              rw [ej38] at hw
              refine rw_iald hX hR 816 (n := 24) (i := x3) (v := (gi (zi (zb σ 813 j22 true) 821 j24 (gi (zb σ 813 j22 true) 801 0)) 816 j38)) rfl (by decide) rfl rfl h39 (by rw [ej38]) dX7_wake_185 ?_
              refine lv_goto (tgt := 190) hX.1.1 hX.1.2.1 dX7_wake_186 (by decide) ?_
              exact J190 x2 x3 x3 (gi (zi (zb σ 813 j22 true) 821 j24 (gi (zb σ 813 j22 true) 801 0)) 816 j38) (zi (zb σ 813 j22 true) 821 j24 (gi (zb σ 813 j22 true) 801 0)) _ _ (by omega) (by omega) _ _ _ hw hR (lh_sub hl [1, 2, 3] rfl)
          · replace hw := if_f hw c21
            refine rw_aload_n hX hl 1 rfl (Or.inr ⟨_, rfl⟩) dX7_wake_97 rfl ?_
            refine rw_get hX hR 8 46 0 (C := RX7) (T := TX7) (N := 48) rfl (by decide) (Nat.le_of_ble_eq_true rfl) rfl (v := .ref (gS γ 1846 0)) rfl uw_X7 gw_974 rfl dX7_wake_98 ?_
            refine rw_iload_n hX hl 2 rfl dX7_wake_101 rfl ?_
            refine lv_dup2_11 hX.1.1 hX.1.2.1 dX7_wake_102 rfl rfl ?_
            obtain ⟨h41, hw1⟩ := ar_some hw
            replace hw := hw1
            clear hw1
            obtain ⟨j40, ej40⟩ : ∃ j, (x2 : Int32).toNatClampNeg = j := ⟨_, rfl⟩
            rw [ej40] at hw
            refine rw_iald hX hR 846 (n := 25) (i := x2) (v := (gi σ 846 j40)) rfl (by decide) rfl rfl h41 (by rw [ej40]) dX7_wake_103 ?_
            refine lv_iconst (v := 1) hX.1.1 hX.1.2.1 dX7_wake_104 (by decide) ?_
            refine lv_iadd (x := (gi σ 846 j40)) (y := 1) hX.1.1 hX.1.2.1 dX7_wake_105 ?_
            obtain ⟨h43, hw1⟩ := ar_some hw
            replace hw := hw1
            clear hw1
            obtain ⟨j42, ej42⟩ : ∃ j, (x2 : Int32).toNatClampNeg = j := ⟨_, rfl⟩
            rw [ej42] at hw
            refine rw_iast hX hR 846 (n := 25) (i := x2) (x := ((gi σ 846 j40) + 1)) rfl (by decide) rfl rfl h43 dX7_wake_106 (fun σ1 H locs e1 hR1 => ?_)
            replace hR := hR1
            clear hR1
            rw [ej42] at e1
            subst e1
            refine rw_iload hX hl 0 rfl dX7_wake_107 ?_
            refine lv_iconst (v := (-1)) hX.1.1 hX.1.2.1 dX7_wake_109 (by decide) ?_
            refine lv_icmp_eq (x := y0) (y := (-1)) (tgt := 217) hX.1.1 hX.1.2.1 dX7_wake_110 (by decide) (fun c44 => ?_) (fun c44 => ?_)
            · replace hw := if_t hw c44
              refine lv_goto (tgt := 16) hX.1.1 hX.1.2.1 dX7_wake_217 (by decide) ?_
              exact ih16 _ _ _ (by omega) (by omega) _ _ _ (lp_back hw hb16) hR (lh_sub hl [1, 2] rfl)
            · replace hw := if_f hw c44
              refine rw_aload_n hX hl 1 rfl (Or.inr ⟨_, rfl⟩) dX7_wake_113 rfl ?_
              refine rw_get hX hR 8 13 0 (C := RX7) (T := TX7) (N := 48) rfl (by decide) (Nat.le_of_ble_eq_true rfl) rfl (v := .ref (gS γ 1813 0)) rfl uw_X7 gw_941 rfl dX7_wake_114 ?_
              refine rw_iload hX hl 0 rfl dX7_wake_117 ?_
              obtain ⟨h46, hw1⟩ := ar_some hw
              replace hw := hw1
              clear hw1
              obtain ⟨j45, ej45⟩ : ∃ j, (y0 : Int32).toNatClampNeg = j := ⟨_, rfl⟩
              rw [ej45] at hw
              refine rw_zald hX hR 813 (n := 24) (i := y0) (v := (gb (zi σ 846 j42 ((gi σ 846 j40) + 1)) 813 j45)) rfl (by decide) rfl rfl h46 (by rw [ej45]) dX7_wake_119 ?_
              refine rw_ifneZ (b := (gb (zi σ 846 j42 ((gi σ 846 j40) + 1)) 813 j45)) (tgt := 217) hX dX7_wake_120 (by decide) (fun c47 => ?_) (fun c47 => ?_)
              · replace hw := if_t hw c47
                refine lv_goto (tgt := 16) hX.1.1 hX.1.2.1 dX7_wake_217 (by decide) ?_
                exact ih16 _ _ _ (by omega) (by omega) _ _ _ (lp_back hw hb16) hR (lh_sub hl [1, 2] rfl)
              · replace hw := if_f hw c47
                refine rw_iinc (k := 2) (v := (x2 + 1)) (lv' := [(2, .int (x2 + 1)), (4, .int y0), (0, .ref (gS γ 8 0)), (3, .int x3)]) hX hl rfl (congrArg (fun q => x2 + q) (show Int32.ofInt 1 = 1 by decide)) (by decide) rfl dX7_wake_123 (fun ls hl1 => ?_)
                replace hl := hl1
                clear hl1
                refine rw_aload_n hX hl 2 rfl (Or.inr ⟨_, rfl⟩) dX7_wake_126 rfl ?_
                refine rw_get hX hR 8 45 0 (C := RX7) (T := TX7) (N := 48) rfl (by decide) (Nat.le_of_ble_eq_true rfl) rfl (v := .ref (gS γ 1845 0)) rfl uw_X7 gw_973 rfl dX7_wake_127 ?_
                refine rw_iload_n hX hl 0 rfl dX7_wake_130 rfl ?_
                refine rw_iload hX hl 1 rfl dX7_wake_131 ?_
                obtain ⟨h49, hw1⟩ := ar_some hw
                replace hw := hw1
                clear hw1
                obtain ⟨j48, ej48⟩ : ∃ j, ((x2 + 1) : Int32).toNatClampNeg = j := ⟨_, rfl⟩
                rw [ej48] at hw
                refine rw_iast hX hR 845 (n := 25) (i := (x2 + 1)) (x := y0) rfl (by decide) rfl rfl h49 dX7_wake_133 (fun σ1 H locs e1 hR1 => ?_)
                replace hR := hR1
                clear hR1
                rw [ej48] at e1
                subst e1
                refine rw_aload_n hX hl 2 rfl (Or.inr ⟨_, rfl⟩) dX7_wake_134 rfl ?_
                refine rw_get hX hR 8 46 0 (C := RX7) (T := TX7) (N := 48) rfl (by decide) (Nat.le_of_ble_eq_true rfl) rfl (v := .ref (gS γ 1846 0)) rfl uw_X7 gw_974 rfl dX7_wake_135 ?_
                refine rw_iload_n hX hl 0 rfl dX7_wake_138 rfl ?_
                refine lv_iconst (v := 0) hX.1.1 hX.1.2.1 dX7_wake_139 (by decide) ?_
                obtain ⟨h51, hw1⟩ := ar_some hw
                replace hw := hw1
                clear hw1
                obtain ⟨j50, ej50⟩ : ∃ j, ((x2 + 1) : Int32).toNatClampNeg = j := ⟨_, rfl⟩
                rw [ej50] at hw
                refine rw_iast hX hR 846 (n := 25) (i := (x2 + 1)) (x := 0) rfl (by decide) rfl rfl h51 dX7_wake_140 (fun σ1 H locs e1 hR1 => ?_)
                replace hR := hR1
                clear hR1
                rw [ej50] at e1
                subst e1
                refine lv_goto (tgt := 217) hX.1.1 hX.1.2.1 dX7_wake_141 (by decide) ?_
                refine lv_goto (tgt := 16) hX.1.1 hX.1.2.1 dX7_wake_217 (by decide) ?_
                exact ih16 _ _ _ (by omega) (by omega) _ _ _ (lp_back hw hb16) hR (lh_sub hl [2, 0] rfl)
        · replace hw := if_t hw c18
          refine rw_iinc (k := 2) (v := (x2 + (-1))) (lv' := [(2, .int (x2 + (-1))), (4, .int y0), (0, .ref (gS γ 8 0)), (3, .int x3)]) hX hl rfl (congrArg (fun q => x2 + q) (show Int32.ofInt (-1) = (-1) by decide)) (by decide) rfl dX7_wake_81 (fun ls hl1 => ?_)
          replace hl := hl1
          clear hl1
          refine lv_goto (tgt := 217) hX.1.1 hX.1.2.1 dX7_wake_84 (by decide) ?_
          refine lv_goto (tgt := 16) hX.1.1 hX.1.2.1 dX7_wake_217 (by decide) ?_
          exact ih16 _ _ _ (by omega) (by omega) _ _ _ (lp_back hw hb16) hR (lh_sub hl [2, 0] rfl)
      refine rw_iload_n hX hl 1 rfl dX7_wake_16 rfl ?_
      refine lv_if_lt (x := x2) (tgt := 220) hX.1.1 hX.1.2.1 dX7_wake_17 (by decide) (fun c5 => ?_) (fun c5 => ?_)
      · replace hw := if_t hw c5
        replace hw := lp_out hw ho16
        refine W.widen (k := 0) (n := 0) (by omega) (by omega) ?_
        exact rq_ve hX hR hr hw dX7_wake_220 hlocks
      · replace hw := if_f hw c5
        refine rw_aload_n hX hl 0 rfl (Or.inr ⟨_, rfl⟩) dX7_wake_20 rfl ?_
        refine rw_get hX hR 8 45 0 (C := RX7) (T := TX7) (N := 48) rfl (by decide) (Nat.le_of_ble_eq_true rfl) rfl (v := .ref (gS γ 1845 0)) rfl uw_X7 gw_973 rfl dX7_wake_21 ?_
        refine rw_iload_n hX hl 1 rfl dX7_wake_24 rfl ?_
        obtain ⟨h7, hw1⟩ := ar_some hw
        replace hw := hw1
        clear hw1
        obtain ⟨j6, ej6⟩ : ∃ j, (x2 : Int32).toNatClampNeg = j := ⟨_, rfl⟩
        rw [ej6] at hw
        refine rw_iald hX hR 845 (n := 25) (i := x2) (v := (gi σ 845 j6)) rfl (by decide) rfl rfl h7 (by rw [ej6]) dX7_wake_25 ?_
        refine rw_istore_n (lv' := [(3, .int (gi σ 845 j6)), (0, .ref (gS γ 8 0)), (2, .int x2)]) hX hl (by decide) rfl dX7_wake_26 rfl (fun ls hl1 => ?_)
        replace hl := hl1
        clear hl1
        refine rw_aload_n hX hl 1 rfl (Or.inr ⟨_, rfl⟩) dX7_wake_27 rfl ?_
        refine rw_get hX hR 8 46 0 (C := RX7) (T := TX7) (N := 48) rfl (by decide) (Nat.le_of_ble_eq_true rfl) rfl (v := .ref (gS γ 1846 0)) rfl uw_X7 gw_974 rfl dX7_wake_28 ?_
        refine rw_iload_n hX hl 2 rfl dX7_wake_31 rfl ?_
        obtain ⟨h9, hw1⟩ := ar_some hw
        replace hw := hw1
        clear hw1
        obtain ⟨j8, ej8⟩ : ∃ j, (x2 : Int32).toNatClampNeg = j := ⟨_, rfl⟩
        rw [ej8] at hw
        refine rw_iald hX hR 846 (n := 25) (i := x2) (v := (gi σ 846 j8)) rfl (by decide) rfl rfl h9 (by rw [ej8]) dX7_wake_32 ?_
        refine lv_if_ne (x := (gi σ 846 j8)) (tgt := 45) hX.1.1 hX.1.2.1 dX7_wake_33 (by decide) (fun c10 => ?_) (fun c10 => ?_)
        · replace hw := if_f hw c10
          refine rw_aload_n hX hl 1 rfl (Or.inr ⟨_, rfl⟩) dX7_wake_45 rfl ?_
          refine rw_get hX hR 8 46 0 (C := RX7) (T := TX7) (N := 48) rfl (by decide) (Nat.le_of_ble_eq_true rfl) rfl (v := .ref (gS γ 1846 0)) rfl uw_X7 gw_974 rfl dX7_wake_46 ?_
          refine rw_iload_n hX hl 2 rfl dX7_wake_49 rfl ?_
          obtain ⟨h12, hw1⟩ := ar_some hw
          replace hw := hw1
          clear hw1
          obtain ⟨j11, ej11⟩ : ∃ j, (x2 : Int32).toNatClampNeg = j := ⟨_, rfl⟩
          rw [ej11] at hw
          refine rw_iald hX hR 846 (n := 25) (i := x2) (v := (gi σ 846 j11)) rfl (by decide) rfl rfl h12 (by rw [ej11]) dX7_wake_50 ?_
          refine lv_iconst (v := 1) hX.1.1 hX.1.2.1 dX7_wake_51 (by decide) ?_
          refine lv_icmp_ne (x := (gi σ 846 j11)) (y := 1) (tgt := 64) hX.1.1 hX.1.2.1 dX7_wake_52 (by decide) (fun c13 => ?_) (fun c13 => ?_)
          · replace hw := if_f hw c13
            refine rw_aload_n hX hl 1 rfl (Or.inr ⟨_, rfl⟩) dX7_wake_64 rfl ?_
            refine rw_get hX hR 8 10 0 (C := RX7) (T := TX7) (N := 48) rfl (by decide) (Nat.le_of_ble_eq_true rfl) rfl (v := .ref (gS γ 1810 0)) rfl uw_X7 gw_938 rfl dX7_wake_65 ?_
            refine rw_iload_n hX hl 0 rfl dX7_wake_68 rfl ?_
            obtain ⟨h15, hw1⟩ := ar_some hw
            replace hw := hw1
            clear hw1
            obtain ⟨j14, ej14⟩ : ∃ j, ((gi σ 845 j6) : Int32).toNatClampNeg = j := ⟨_, rfl⟩
            rw [ej14] at hw
            refine rw_iald hX hR 810 (n := 24) (i := (gi σ 845 j6)) (v := (gi σ 810 j14)) rfl (by decide) rfl rfl h15 (by rw [ej14]) dX7_wake_69 ?_
            exact J70 x2 (gi σ 845 j6) (gi σ 810 j14) σ _ _ (by omega) (by omega) _ _ _ hw hR (lh_sub hl [1, 2, 0] rfl)
          · replace hw := if_t hw c13
            refine rw_aload_n hX hl 1 rfl (Or.inr ⟨_, rfl⟩) dX7_wake_55 rfl ?_
            refine rw_get hX hR 8 9 0 (C := RX7) (T := TX7) (N := 48) rfl (by decide) (Nat.le_of_ble_eq_true rfl) rfl (v := .ref (gS γ 1809 0)) rfl uw_X7 gw_937 rfl dX7_wake_56 ?_
            refine rw_iload_n hX hl 0 rfl dX7_wake_59 rfl ?_
            obtain ⟨h53, hw1⟩ := ar_some hw
            replace hw := hw1
            clear hw1
            obtain ⟨j52, ej52⟩ : ∃ j, ((gi σ 845 j6) : Int32).toNatClampNeg = j := ⟨_, rfl⟩
            rw [ej52] at hw
            refine rw_iald hX hR 809 (n := 24) (i := (gi σ 845 j6)) (v := (gi σ 809 j52)) rfl (by decide) rfl rfl h53 (by rw [ej52]) dX7_wake_60 ?_
            refine lv_goto (tgt := 70) hX.1.1 hX.1.2.1 dX7_wake_61 (by decide) ?_
            exact J70 x2 (gi σ 845 j6) (gi σ 809 j52) σ _ _ (by omega) (by omega) _ _ _ hw hR (lh_sub hl [1, 2, 0] rfl)
        · replace hw := if_t hw c10
          refine rw_aload_n hX hl 1 rfl (Or.inr ⟨_, rfl⟩) dX7_wake_36 rfl ?_
          refine rw_get hX hR 8 4 0 (C := RX7) (T := TX7) (N := 48) rfl (by decide) (Nat.le_of_ble_eq_true rfl) rfl (v := .ref (gS γ 1804 0)) rfl uw_X7 gw_932 rfl dX7_wake_37 ?_
          refine rw_iload_n hX hl 0 rfl dX7_wake_40 rfl ?_
          obtain ⟨h55, hw1⟩ := ar_some hw
          replace hw := hw1
          clear hw1
          obtain ⟨j54, ej54⟩ : ∃ j, ((gi σ 845 j6) : Int32).toNatClampNeg = j := ⟨_, rfl⟩
          rw [ej54] at hw
          refine rw_iald hX hR 804 (n := 24) (i := (gi σ 845 j6)) (v := (gi σ 804 j54)) rfl (by decide) rfl rfl h55 (by rw [ej54]) dX7_wake_41 ?_
          refine lv_goto (tgt := 70) hX.1.1 hX.1.2.1 dX7_wake_42 (by decide) ?_
          exact J70 x2 (gi σ 845 j6) (gi σ 804 j54) σ _ _ (by omega) (by omega) _ _ _ hw hR (lh_sub hl [1, 2, 0] rfl)
  refine rw_entry (ca1 rfl (ca1 rfl ca0)) (Nat.le_of_ble_eq_true rfl) (fun ls hl1 => ?_)
  replace hl := hl1
  clear hl1
  refine lv_iconst (v := 0) hX.1.1 hX.1.2.1 dX7_wake_0 (by decide) ?_
  refine rw_istore_n (lv' := [(2, .int 0), (0, .ref (gS γ 8 0)), (1, .int a1)]) hX hl (by decide) rfl dX7_wake_1 rfl (fun ls hl1 => ?_)
  replace hl := hl1
  clear hl1
  refine rw_aload_n hX hl 1 rfl (Or.inr ⟨_, rfl⟩) dX7_wake_2 rfl ?_
  refine rw_get hX hR 8 45 0 (C := RX7) (T := TX7) (N := 48) rfl (by decide) (Nat.le_of_ble_eq_true rfl) rfl (v := .ref (gS γ 1845 0)) rfl uw_X7 gw_973 rfl dX7_wake_3 ?_
  refine lv_iconst (v := 0) hX.1.1 hX.1.2.1 dX7_wake_6 (by decide) ?_
  refine rw_iload_n hX hl 2 rfl dX7_wake_7 rfl ?_
  obtain ⟨h2, hw1⟩ := ar_some hw
  replace hw := hw1
  clear hw1
  obtain ⟨j1, ej1⟩ : ∃ j, (0 : Int32).toNatClampNeg = j := ⟨_, rfl⟩
  rw [ej1] at hw
  refine rw_iast hX hR 845 (n := 25) (i := 0) (x := a1) rfl (by decide) rfl rfl h2 dX7_wake_8 (fun σ1 H locs e1 hR1 => ?_)
  replace hR := hR1
  clear hR1
  rw [ej1] at e1
  subst e1
  refine rw_aload_n hX hl 1 rfl (Or.inr ⟨_, rfl⟩) dX7_wake_9 rfl ?_
  refine rw_get hX hR 8 46 0 (C := RX7) (T := TX7) (N := 48) rfl (by decide) (Nat.le_of_ble_eq_true rfl) rfl (v := .ref (gS γ 1846 0)) rfl uw_X7 gw_974 rfl dX7_wake_10 ?_
  refine lv_iconst (v := 0) hX.1.1 hX.1.2.1 dX7_wake_13 (by decide) ?_
  refine lv_iconst (v := 0) hX.1.1 hX.1.2.1 dX7_wake_14 (by decide) ?_
  obtain ⟨h4, hw1⟩ := ar_some hw
  replace hw := hw1
  clear hw1
  obtain ⟨j3, ej3⟩ : ∃ j, (0 : Int32).toNatClampNeg = j := ⟨_, rfl⟩
  rw [ej3] at hw
  refine rw_iast hX hR 846 (n := 25) (i := 0) (x := 0) rfl (by decide) rfl rfl h4 dX7_wake_15 (fun σ1 H locs e1 hR1 => ?_)
  replace hR := hR1
  clear hR1
  rw [ej3] at e1
  subst e1
  exact L16 _ _ _ _ (by omega) (by omega) _ _ _ hw hR (lh_sub hl [1, 0] rfl)
set_option maxHeartbeats 8000000 in
set_option maxRecDepth 100000 in
theorem C_f8_fallsAsleep (l : Launch) (γ : GT) (ad : Nat → Nat → Nat) {fu : Nat} (a1 : Int32) (σ : St) (σ' : St) (hw : f8_fallsAsleep fu a1 σ = some σ') : Met l yX7_fallsAsleep (Cond.code yX7_fallsAsleep cX7_fallsAsleep 2 (Option.none : Option Jvm.ClassFile.FieldType) :: GW) (rmo 2 0 0) (va_Pc [.ref (gS γ 8 0), .int a1] (RU γ ad σ)) (QV γ ad σ') 0 0 (gA γ) := by
  refine Met.ofW (cc := cX7_fallsAsleep) (maxL := 2) (ret := (Option.none : Option Jvm.ClassFile.FieldType)) (by decide +kernel) rfl ?_
  intro p e s m args below meth c s₁ B hml hv
  obtain ⟨rfl, hU⟩ := hv
  obtain ⟨hX, hR⟩ := cx_of (own := RX7) B hml rfl hU
  have hr := B.returns
  have hlocks := B.notSynchronized
  have hc0 : (0 : Nat) ≤ 0 := Nat.le_refl 0
  show W p l e (rmo 2 0 0) s m ([.ref (gS γ 8 0), .int a1] : List Value).toArray below meth c s.heap [] 0 0 (MQ below (QV γ ad σ') ([.ref (gS γ 8 0), .int a1] : List Value).toArray s 0 0 (gA γ)) (entryFrame m ([.ref (gS γ 8 0), .int a1] : List Value).toArray 2)
  unfold f8_fallsAsleep at hw
  refine rw_entry (ca1 rfl (ca1 rfl ca0)) (Nat.le_of_ble_eq_true rfl) (fun ls hl1 => ?_)
  replace hl := hl1
  clear hl1
  refine rw_aload_n hX hl 0 rfl (Or.inr ⟨_, rfl⟩) dX7_fallsAsleep_0 rfl ?_
  refine rw_get hX hR 8 13 0 (C := RX7) (T := TX7) (N := 48) rfl (by decide) (Nat.le_of_ble_eq_true rfl) rfl (v := .ref (gS γ 1813 0)) rfl uw_X7 gw_941 rfl dX7_fallsAsleep_1 ?_
  refine rw_iload_n hX hl 1 rfl dX7_fallsAsleep_4 rfl ?_
  refine lv_iconst (v := 0) hX.1.1 hX.1.2.1 dX7_fallsAsleep_5 (by decide) ?_
  obtain ⟨h2, hw1⟩ := ar_some hw
  replace hw := hw1
  clear hw1
  obtain ⟨j1, ej1⟩ : ∃ j, (a1 : Int32).toNatClampNeg = j := ⟨_, rfl⟩
  rw [ej1] at hw
  refine rw_zast hX hR 813 (n := 24) (i := a1) (x := false) rfl (by decide) rfl rfl h2 dX7_fallsAsleep_6 (fun σ1 H locs e1 hR1 => ?_)
  replace hR := hR1
  clear hR1
  rw [ej1] at e1
  subst e1
  refine rw_aload_n hX hl 0 rfl (Or.inr ⟨_, rfl⟩) dX7_fallsAsleep_7 rfl ?_
  refine rw_get hX hR 8 16 0 (C := RX7) (T := TX7) (N := 48) rfl (by decide) (Nat.le_of_ble_eq_true rfl) rfl (v := .ref (gS γ 1816 0)) rfl uw_X7 gw_944 rfl dX7_fallsAsleep_8 ?_
  refine rw_iload_n hX hl 1 rfl dX7_fallsAsleep_11 rfl ?_
  refine rw_aload_n hX hl 0 rfl (Or.inr ⟨_, rfl⟩) dX7_fallsAsleep_12 rfl ?_
  refine rw_get hX hR 8 15 0 (C := RX7) (T := TX7) (N := 48) rfl (by decide) (Nat.le_of_ble_eq_true rfl) rfl (v := .ref (gS γ 1815 0)) rfl uw_X7 gw_943 rfl dX7_fallsAsleep_13 ?_
  refine rw_iload_n hX hl 1 rfl dX7_fallsAsleep_16 rfl ?_
  obtain ⟨h4, hw1⟩ := ar_some hw
  replace hw := hw1
  clear hw1
  obtain ⟨j3, ej3⟩ : ∃ j, (a1 : Int32).toNatClampNeg = j := ⟨_, rfl⟩
  rw [ej3] at hw
  refine rw_iald hX hR 815 (n := 24) (i := a1) (v := (gi (zb σ 813 j1 false) 815 j3)) rfl (by decide) rfl rfl h4 (by rw [ej3]) dX7_fallsAsleep_17 ?_
  obtain ⟨h6, hw1⟩ := ar_some hw
  replace hw := hw1
  clear hw1
  obtain ⟨j5, ej5⟩ : ∃ j, (a1 : Int32).toNatClampNeg = j := ⟨_, rfl⟩
  rw [ej5] at hw
  refine rw_iast hX hR 816 (n := 24) (i := a1) (x := (gi (zb σ 813 j1 false) 815 j3)) rfl (by decide) rfl rfl h6 dX7_fallsAsleep_18 (fun σ1 H locs e1 hR1 => ?_)
  replace hR := hR1
  clear hR1
  rw [ej5] at e1
  subst e1
  refine rw_aload_n hX hl 0 rfl (Or.inr ⟨_, rfl⟩) dX7_fallsAsleep_19 rfl ?_
  refine lv_iconst (v := 3) hX.1.1 hX.1.2.1 dX7_fallsAsleep_20 (by decide) ?_
  refine rw_iload_n hX hl 1 rfl dX7_fallsAsleep_21 rfl ?_
  obtain ⟨σ8, g9, hw1⟩ := ob1_some hw
  replace hw := hw1
  clear hw1
  refine rw_cVv hX hR pk_f8_event (mc := 0) (ms := 0) ⟨rfl, rfl, (show 1 + 1 ≤ 2 by omega), (show 8 + (3 + 11) + 64 * 1 ≤ 64 * 2 by omega)⟩ (As := [.int 3, .int a1]) (rest := []) rfl (C_f8_event l γ ad 3 a1 (zi (zb σ 813 j1 false) 816 j5 (gi (zb σ 813 j1 false) 815 j3)) σ8 g9) gw_1137 gw_1139 gs_65 (rs_recv hX hR 8 0 (C := RX7) (T := TX7) (N := 48) rfl (by decide) (Nat.le_of_ble_eq_true rfl) rfl) rfl hl.1 ca0 (Nat.le_of_ble_eq_true rfl) dX7_fallsAsleep_22 ⟨(show 0 + 0 ≤ 0 by omega), (show 0 + 0 ≤ 0 by omega)⟩ (fun H locs hR1 => ?_)
  replace hR := hR1
  clear hR1
  refine W.widen (k := 0) (n := 0) (by omega) (by omega) ?_
  exact rq_ve hX hR hr hw dX7_fallsAsleep_25 hlocks
set_option maxHeartbeats 8000000 in
set_option maxRecDepth 100000 in
theorem C_f8_bindNow (l : Launch) (γ : GT) (ad : Nat → Nat → Nat) {fu : Nat} (a1 : Int32) (σ : St) (σ' : St) (hw : f8_bindNow fu a1 σ = some σ') : Met l yX7_bindNow (Cond.code yX7_bindNow cX7_bindNow 2 (Option.none : Option Jvm.ClassFile.FieldType) :: GW) (rmo 4 0 0) (va_Pc [.ref (gS γ 8 0), .int a1] (RU γ ad σ)) (QV γ ad σ') 0 0 (gA γ) := by
  refine Met.ofW (cc := cX7_bindNow) (maxL := 2) (ret := (Option.none : Option Jvm.ClassFile.FieldType)) (by decide +kernel) rfl ?_
  intro p e s m args below meth c s₁ B hml hv
  obtain ⟨rfl, hU⟩ := hv
  obtain ⟨hX, hR⟩ := cx_of (own := RX7) B hml rfl hU
  have hr := B.returns
  have hlocks := B.notSynchronized
  have hc0 : (0 : Nat) ≤ 0 := Nat.le_refl 0
  show W p l e (rmo 4 0 0) s m ([.ref (gS γ 8 0), .int a1] : List Value).toArray below meth c s.heap [] 0 0 (MQ below (QV γ ad σ') ([.ref (gS γ 8 0), .int a1] : List Value).toArray s 0 0 (gA γ)) (entryFrame m ([.ref (gS γ 8 0), .int a1] : List Value).toArray 2)
  unfold f8_bindNow at hw
  have J83 : ∀ (x1 : Int32) (y1 : Int32) (y2 : Int32) (σ : St) (cells slots : Nat), cells ≤ 0 → slots ≤ 0 → ∀ (H : Heap) (locs : List Loc) (ls : Array Slot), f8_bindNow_j83 fu x1 y1 y2 σ = some σ' → RS γ ad σ s H locs → lh ls 2 [(0, .ref (gS γ 8 0)), (1, .int x1)] → W p l e (rmo 4 0 0) s m ([.ref (gS γ 8 0), .int a1] : List Value).toArray below meth c H locs cells slots (MQ below (QV γ ad σ') ([.ref (gS γ 8 0), .int a1] : List Value).toArray s 0 0 (gA γ)) (F0 m 83 ls [.int y2, .int y1, .ref (gS γ 1814 0)]) := by
    intro x1 y1 y2 σ cells slots hc1 hc2 H locs ls hw hR hl
    unfold f8_bindNow_j83 at hw
    obtain ⟨h14, hw1⟩ := ar_some hw
    replace hw := hw1
    clear hw1
    obtain ⟨j13, ej13⟩ : ∃ j, (y1 : Int32).toNatClampNeg = j := ⟨_, rfl⟩
    rw [ej13] at hw
    refine rw_iast hX hR 814 (n := 24) (i := y1) (x := y2) rfl (by decide) rfl rfl h14 dX7_bindNow_83 (fun σ1 H locs e1 hR1 => ?_)
    replace hR := hR1
    clear hR1
    rw [ej13] at e1
    subst e1
    refine rw_aload_n hX hl 0 rfl (Or.inr ⟨_, rfl⟩) dX7_bindNow_84 rfl ?_
    refine rw_get hX hR 8 12 0 (C := RX7) (T := TX7) (N := 48) rfl (by decide) (Nat.le_of_ble_eq_true rfl) rfl (v := .ref (gS γ 1812 0)) rfl uw_X7 gw_940 rfl dX7_bindNow_85 ?_
    refine rw_iload_n hX hl 1 rfl dX7_bindNow_88 rfl ?_
    refine rw_aload_n hX hl 0 rfl (Or.inr ⟨_, rfl⟩) dX7_bindNow_89 rfl ?_
    refine rw_aload_n hX hl 0 rfl (Or.inr ⟨_, rfl⟩) dX7_bindNow_90 rfl ?_
    refine rw_get hX hR 8 5 0 (C := RX7) (T := TX7) (N := 48) rfl (by decide) (Nat.le_of_ble_eq_true rfl) rfl (v := .ref (gS γ 1805 0)) rfl uw_X7 gw_933 rfl dX7_bindNow_91 ?_
    refine rw_iload_n hX hl 1 rfl dX7_bindNow_94 rfl ?_
    obtain ⟨h16, hw1⟩ := ar_some hw
    replace hw := hw1
    clear hw1
    obtain ⟨j15, ej15⟩ : ∃ j, (x1 : Int32).toNatClampNeg = j := ⟨_, rfl⟩
    rw [ej15] at hw
    refine rw_iald hX hR 805 (n := 24) (i := x1) (v := (gi (zi σ 814 j13 y2) 805 j15)) rfl (by decide) rfl rfl h16 (by rw [ej15]) dX7_bindNow_95 ?_
    obtain ⟨v17, g19, hw1⟩ := ob1_some hw
    replace hw := hw1
    clear hw1
    refine rw_cVi hX hR pk_f8_driverFor (mc := 0) (ms := 0) ⟨rfl, rfl, (show 1 + 1 ≤ 4 by omega), (show 8 + (5 + 11) + 64 * 1 ≤ 64 * 4 by omega)⟩ (As := [.int (gi (zi σ 814 j13 y2) 805 j15)]) (rest := [.int x1, .ref (gS γ 1812 0)]) rfl (C_f8_driverFor l γ ad (gi (zi σ 814 j13 y2) 805 j15) (zi σ 814 j13 y2) v17 g19) gw_1105 gw_1107 gs_57 (rs_recv hX hR 8 0 (C := RX7) (T := TX7) (N := 48) rfl (by decide) (Nat.le_of_ble_eq_true rfl) rfl) rfl hl.1 (ca1 rfl (ca1 rfl ca0)) (Nat.le_of_ble_eq_true rfl) dX7_bindNow_96 ⟨(show cells + 0 ≤ 0 by omega), (show slots + 0 ≤ 0 by omega)⟩ (fun H locs hR1 => ?_)
    replace hR := hR1
    clear hR1
    obtain ⟨h21, hw1⟩ := ar_some hw
    replace hw := hw1
    clear hw1
    obtain ⟨j20, ej20⟩ : ∃ j, (x1 : Int32).toNatClampNeg = j := ⟨_, rfl⟩
    rw [ej20] at hw
    refine rw_iast hX hR 812 (n := 24) (i := x1) (x := v17) rfl (by decide) rfl rfl h21 dX7_bindNow_99 (fun σ1 H locs e1 hR1 => ?_)
    replace hR := hR1
    clear hR1
    rw [ej20] at e1
    subst e1
    refine rw_aload_n hX hl 0 rfl (Or.inr ⟨_, rfl⟩) dX7_bindNow_100 rfl ?_
    refine rw_get hX hR 8 13 0 (C := RX7) (T := TX7) (N := 48) rfl (by decide) (Nat.le_of_ble_eq_true rfl) rfl (v := .ref (gS γ 1813 0)) rfl uw_X7 gw_941 rfl dX7_bindNow_101 ?_
    refine rw_iload_n hX hl 1 rfl dX7_bindNow_104 rfl ?_
    refine lv_iconst (v := 1) hX.1.1 hX.1.2.1 dX7_bindNow_105 (by decide) ?_
    obtain ⟨h23, hw1⟩ := ar_some hw
    replace hw := hw1
    clear hw1
    obtain ⟨j22, ej22⟩ : ∃ j, (x1 : Int32).toNatClampNeg = j := ⟨_, rfl⟩
    rw [ej22] at hw
    refine rw_zast hX hR 813 (n := 24) (i := x1) (x := true) rfl (by decide) rfl rfl h23 dX7_bindNow_106 (fun σ1 H locs e1 hR1 => ?_)
    replace hR := hR1
    clear hR1
    rw [ej22] at e1
    subst e1
    refine rw_aload_n hX hl 0 rfl (Or.inr ⟨_, rfl⟩) dX7_bindNow_107 rfl ?_
    refine rw_get hX hR 8 15 0 (C := RX7) (T := TX7) (N := 48) rfl (by decide) (Nat.le_of_ble_eq_true rfl) rfl (v := .ref (gS γ 1815 0)) rfl uw_X7 gw_943 rfl dX7_bindNow_108 ?_
    refine rw_iload_n hX hl 1 rfl dX7_bindNow_111 rfl ?_
    refine lv_iconst (v := 0) hX.1.1 hX.1.2.1 dX7_bindNow_112 (by decide) ?_
    obtain ⟨h25, hw1⟩ := ar_some hw
    replace hw := hw1
    clear hw1
    obtain ⟨j24, ej24⟩ : ∃ j, (x1 : Int32).toNatClampNeg = j := ⟨_, rfl⟩
    rw [ej24] at hw
    refine rw_iast hX hR 815 (n := 24) (i := x1) (x := 0) rfl (by decide) rfl rfl h25 dX7_bindNow_113 (fun σ1 H locs e1 hR1 => ?_)
    replace hR := hR1
    clear hR1
    rw [ej24] at e1
    subst e1
    refine rw_aload_n hX hl 0 rfl (Or.inr ⟨_, rfl⟩) dX7_bindNow_114 rfl ?_
    refine rw_get hX hR 8 16 0 (C := RX7) (T := TX7) (N := 48) rfl (by decide) (Nat.le_of_ble_eq_true rfl) rfl (v := .ref (gS γ 1816 0)) rfl uw_X7 gw_944 rfl dX7_bindNow_115 ?_
    refine rw_iload_n hX hl 1 rfl dX7_bindNow_118 rfl ?_
    refine lv_iconst (v := 0) hX.1.1 hX.1.2.1 dX7_bindNow_119 (by decide) ?_
    obtain ⟨h27, hw1⟩ := ar_some hw
    replace hw := hw1
    clear hw1
    obtain ⟨j26, ej26⟩ : ∃ j, (x1 : Int32).toNatClampNeg = j := ⟨_, rfl⟩
    rw [ej26] at hw
    refine rw_iast hX hR 816 (n := 24) (i := x1) (x := 0) rfl (by decide) rfl rfl h27 dX7_bindNow_120 (fun σ1 H locs e1 hR1 => ?_)
    replace hR := hR1
    clear hR1
    rw [ej26] at e1
    subst e1
    refine rw_aload_n hX hl 0 rfl (Or.inr ⟨_, rfl⟩) dX7_bindNow_121 rfl ?_
    refine rw_get hX hR 8 17 0 (C := RX7) (T := TX7) (N := 48) rfl (by decide) (Nat.le_of_ble_eq_true rfl) rfl (v := .ref (gS γ 1817 0)) rfl uw_X7 gw_945 rfl dX7_bindNow_122 ?_
    refine rw_iload_n hX hl 1 rfl dX7_bindNow_125 rfl ?_
    refine lv_iconst (v := 0) hX.1.1 hX.1.2.1 dX7_bindNow_126 (by decide) ?_
    obtain ⟨h29, hw1⟩ := ar_some hw
    replace hw := hw1
    clear hw1
    obtain ⟨j28, ej28⟩ : ∃ j, (x1 : Int32).toNatClampNeg = j := ⟨_, rfl⟩
    rw [ej28] at hw
    refine rw_zast hX hR 817 (n := 24) (i := x1) (x := false) rfl (by decide) rfl rfl h29 dX7_bindNow_127 (fun σ1 H locs e1 hR1 => ?_)
    replace hR := hR1
    clear hR1
    rw [ej28] at e1
    subst e1
    refine rw_aload_n hX hl 0 rfl (Or.inr ⟨_, rfl⟩) dX7_bindNow_128 rfl ?_
    refine rw_get hX hR 8 21 0 (C := RX7) (T := TX7) (N := 48) rfl (by decide) (Nat.le_of_ble_eq_true rfl) rfl (v := .ref (gS γ 1821 0)) rfl uw_X7 gw_949 rfl dX7_bindNow_129 ?_
    refine rw_iload_n hX hl 1 rfl dX7_bindNow_132 rfl ?_
    refine rw_aload_n hX hl 0 rfl (Or.inr ⟨_, rfl⟩) dX7_bindNow_133 rfl ?_
    refine rw_get hX hR 8 1 0 (C := RX7) (T := TX7) (N := 48) rfl (by decide) (Nat.le_of_ble_eq_true rfl) rfl (v := .int (gi (zb (zi (zi (zb (zi (zi σ 814 j13 y2) 812 j20 v17) 813 j22 true) 815 j24 0) 816 j26 0) 817 j28 false) 801 0)) rfl uw_X7 gw_929 rfl dX7_bindNow_134 ?_
    obtain ⟨h31, hw1⟩ := ar_some hw
    replace hw := hw1
    clear hw1
    obtain ⟨j30, ej30⟩ : ∃ j, (x1 : Int32).toNatClampNeg = j := ⟨_, rfl⟩
    rw [ej30] at hw
    refine rw_iast hX hR 821 (n := 24) (i := x1) (x := (gi (zb (zi (zi (zb (zi (zi σ 814 j13 y2) 812 j20 v17) 813 j22 true) 815 j24 0) 816 j26 0) 817 j28 false) 801 0)) rfl (by decide) rfl rfl h31 dX7_bindNow_137 (fun σ1 H locs e1 hR1 => ?_)
    replace hR := hR1
    clear hR1
    rw [ej30] at e1
    subst e1
    refine rw_aload_n hX hl 0 rfl (Or.inr ⟨_, rfl⟩) dX7_bindNow_138 rfl ?_
    refine rw_get hX hR 8 20 0 (C := RX7) (T := TX7) (N := 48) rfl (by decide) (Nat.le_of_ble_eq_true rfl) rfl (v := .ref (gS γ 1820 0)) rfl uw_X7 gw_948 rfl dX7_bindNow_139 ?_
    refine rw_iload_n hX hl 1 rfl dX7_bindNow_142 rfl ?_
    refine rw_aload_n hX hl 0 rfl (Or.inr ⟨_, rfl⟩) dX7_bindNow_143 rfl ?_
    refine rw_get hX hR 8 23 0 (C := RX7) (T := TX7) (N := 48) rfl (by decide) (Nat.le_of_ble_eq_true rfl) rfl (v := .int (gi (zi (zb (zi (zi (zb (zi (zi σ 814 j13 y2) 812 j20 v17) 813 j22 true) 815 j24 0) 816 j26 0) 817 j28 false) 821 j30 (gi (zb (zi (zi (zb (zi (zi σ 814 j13 y2) 812 j20 v17) 813 j22 true) 815 j24 0) 816 j26 0) 817 j28 false) 801 0)) 823 0)) rfl uw_X7 gw_951 rfl dX7_bindNow_144 ?_
    obtain ⟨h33, hw1⟩ := ar_some hw
    replace hw := hw1
    clear hw1
    obtain ⟨j32, ej32⟩ : ∃ j, (x1 : Int32).toNatClampNeg = j := ⟨_, rfl⟩
    rw [ej32] at hw
    refine rw_iast hX hR 820 (n := 24) (i := x1) (x := (gi (zi (zb (zi (zi (zb (zi (zi σ 814 j13 y2) 812 j20 v17) 813 j22 true) 815 j24 0) 816 j26 0) 817 j28 false) 821 j30 (gi (zb (zi (zi (zb (zi (zi σ 814 j13 y2) 812 j20 v17) 813 j22 true) 815 j24 0) 816 j26 0) 817 j28 false) 801 0)) 823 0)) rfl (by decide) rfl rfl h33 dX7_bindNow_147 (fun σ1 H locs e1 hR1 => ?_)
    replace hR := hR1
    clear hR1
    rw [ej32] at e1
    subst e1
    refine rw_aload_n hX hl 0 rfl (Or.inr ⟨_, rfl⟩) dX7_bindNow_148 rfl ?_
    refine lv_dup hX.1.1 hX.1.2.1 dX7_bindNow_149 rfl ?_
    refine rw_get hX hR 8 23 0 (C := RX7) (T := TX7) (N := 48) rfl (by decide) (Nat.le_of_ble_eq_true rfl) rfl (v := .int (gi (zi (zi (zb (zi (zi (zb (zi (zi σ 814 j13 y2) 812 j20 v17) 813 j22 true) 815 j24 0) 816 j26 0) 817 j28 false) 821 j30 (gi (zb (zi (zi (zb (zi (zi σ 814 j13 y2) 812 j20 v17) 813 j22 true) 815 j24 0) 816 j26 0) 817 j28 false) 801 0)) 820 j32 (gi (zi (zb (zi (zi (zb (zi (zi σ 814 j13 y2) 812 j20 v17) 813 j22 true) 815 j24 0) 816 j26 0) 817 j28 false) 821 j30 (gi (zb (zi (zi (zb (zi (zi σ 814 j13 y2) 812 j20 v17) 813 j22 true) 815 j24 0) 816 j26 0) 817 j28 false) 801 0)) 823 0)) 823 0)) rfl uw_X7 gw_951 rfl dX7_bindNow_150 ?_
    refine lv_iconst (v := 1) hX.1.1 hX.1.2.1 dX7_bindNow_153 (by decide) ?_
    refine lv_iadd (x := (gi (zi (zi (zb (zi (zi (zb (zi (zi σ 814 j13 y2) 812 j20 v17) 813 j22 true) 815 j24 0) 816 j26 0) 817 j28 false) 821 j30 (gi (zb (zi (zi (zb (zi (zi σ 814 j13 y2) 812 j20 v17) 813 j22 true) 815 j24 0) 816 j26 0) 817 j28 false) 801 0)) 820 j32 (gi (zi (zb (zi (zi (zb (zi (zi σ 814 j13 y2) 812 j20 v17) 813 j22 true) 815 j24 0) 816 j26 0) 817 j28 false) 821 j30 (gi (zb (zi (zi (zb (zi (zi σ 814 j13 y2) 812 j20 v17) 813 j22 true) 815 j24 0) 816 j26 0) 817 j28 false) 801 0)) 823 0)) 823 0)) (y := 1) hX.1.1 hX.1.2.1 dX7_bindNow_154 ?_
    refine rw_puti (x := ((gi (zi (zi (zb (zi (zi (zb (zi (zi σ 814 j13 y2) 812 j20 v17) 813 j22 true) 815 j24 0) 816 j26 0) 817 j28 false) 821 j30 (gi (zb (zi (zi (zb (zi (zi σ 814 j13 y2) 812 j20 v17) 813 j22 true) 815 j24 0) 816 j26 0) 817 j28 false) 801 0)) 820 j32 (gi (zi (zb (zi (zi (zb (zi (zi σ 814 j13 y2) 812 j20 v17) 813 j22 true) 815 j24 0) 816 j26 0) 817 j28 false) 821 j30 (gi (zb (zi (zi (zb (zi (zi σ 814 j13 y2) 812 j20 v17) 813 j22 true) 815 j24 0) 816 j26 0) 817 j28 false) 801 0)) 823 0)) 823 0) + 1)) hX hR 8 23 0 823 (C := RX7) (T := TX7) (N := 48) rfl (by decide) rfl rfl (Nat.le_of_ble_eq_true rfl) rfl uw_X7 tyX7 tyX7_ok nmX7 gw_951 rfl rfl (by decide) dX7_bindNow_155 (fun σ1 H locs e1 hR1 => ?_)
    replace hR := hR1
    clear hR1
    subst e1
    refine rw_aload_n hX hl 0 rfl (Or.inr ⟨_, rfl⟩) dX7_bindNow_158 rfl ?_
    refine lv_iconst (v := 0) hX.1.1 hX.1.2.1 dX7_bindNow_159 (by decide) ?_
    refine rw_iload_n hX hl 1 rfl dX7_bindNow_160 rfl ?_
    obtain ⟨σ35, g36, hw1⟩ := ob1_some hw
    replace hw := hw1
    clear hw1
    refine rw_cVv hX hR pk_f8_event (mc := 0) (ms := 0) ⟨rfl, rfl, (show 1 + 1 ≤ 4 by omega), (show 8 + (3 + 11) + 64 * 1 ≤ 64 * 4 by omega)⟩ (As := [.int 0, .int x1]) (rest := []) rfl (C_f8_event l γ ad 0 x1 (zi (zi (zi (zb (zi (zi (zb (zi (zi σ 814 j13 y2) 812 j20 v17) 813 j22 true) 815 j24 0) 816 j26 0) 817 j28 false) 821 j30 (gi (zb (zi (zi (zb (zi (zi σ 814 j13 y2) 812 j20 v17) 813 j22 true) 815 j24 0) 816 j26 0) 817 j28 false) 801 0)) 820 j32 (gi (zi (zb (zi (zi (zb (zi (zi σ 814 j13 y2) 812 j20 v17) 813 j22 true) 815 j24 0) 816 j26 0) 817 j28 false) 821 j30 (gi (zb (zi (zi (zb (zi (zi σ 814 j13 y2) 812 j20 v17) 813 j22 true) 815 j24 0) 816 j26 0) 817 j28 false) 801 0)) 823 0)) 823 0 ((gi (zi (zi (zb (zi (zi (zb (zi (zi σ 814 j13 y2) 812 j20 v17) 813 j22 true) 815 j24 0) 816 j26 0) 817 j28 false) 821 j30 (gi (zb (zi (zi (zb (zi (zi σ 814 j13 y2) 812 j20 v17) 813 j22 true) 815 j24 0) 816 j26 0) 817 j28 false) 801 0)) 820 j32 (gi (zi (zb (zi (zi (zb (zi (zi σ 814 j13 y2) 812 j20 v17) 813 j22 true) 815 j24 0) 816 j26 0) 817 j28 false) 821 j30 (gi (zb (zi (zi (zb (zi (zi σ 814 j13 y2) 812 j20 v17) 813 j22 true) 815 j24 0) 816 j26 0) 817 j28 false) 801 0)) 823 0)) 823 0) + 1)) σ35 g36) gw_1137 gw_1139 gs_65 (rs_recv hX hR 8 0 (C := RX7) (T := TX7) (N := 48) rfl (by decide) (Nat.le_of_ble_eq_true rfl) rfl) rfl hl.1 ca0 (Nat.le_of_ble_eq_true rfl) dX7_bindNow_161 ⟨(show (cells + 0) + 0 ≤ 0 by omega), (show (slots + 0) + 0 ≤ 0 by omega)⟩ (fun H locs hR1 => ?_)
    replace hR := hR1
    clear hR1
    refine W.widen (k := 0) (n := 0) (by omega) (by omega) ?_
    exact rq_ve hX hR hr hw dX7_bindNow_164 hlocks
  have J60 : ∀ (x1 : Int32) (σ : St) (cells slots : Nat), cells ≤ 0 → slots ≤ 0 → ∀ (H : Heap) (locs : List Loc) (ls : Array Slot), f8_bindNow_j60 fu x1 σ = some σ' → RS γ ad σ s H locs → lh ls 2 [(0, .ref (gS γ 8 0)), (1, .int x1)] → W p l e (rmo 4 0 0) s m ([.ref (gS γ 8 0), .int a1] : List Value).toArray below meth c H locs cells slots (MQ below (QV γ ad σ') ([.ref (gS γ 8 0), .int a1] : List Value).toArray s 0 0 (gA γ)) (F0 m 60 ls []) := by
    intro x1 σ cells slots hc1 hc2 H locs ls hw hR hl
    unfold f8_bindNow_j60 at hw
    refine rw_aload_n hX hl 0 rfl (Or.inr ⟨_, rfl⟩) dX7_bindNow_60 rfl ?_
    refine rw_get hX hR 8 14 0 (C := RX7) (T := TX7) (N := 48) rfl (by decide) (Nat.le_of_ble_eq_true rfl) rfl (v := .ref (gS γ 1814 0)) rfl uw_X7 gw_942 rfl dX7_bindNow_61 ?_
    refine rw_iload_n hX hl 1 rfl dX7_bindNow_64 rfl ?_
    refine rw_aload_n hX hl 0 rfl (Or.inr ⟨_, rfl⟩) dX7_bindNow_65 rfl ?_
    refine rw_get hX hR 8 6 0 (C := RX7) (T := TX7) (N := 48) rfl (by decide) (Nat.le_of_ble_eq_true rfl) rfl (v := .ref (gS γ 1806 0)) rfl uw_X7 gw_934 rfl dX7_bindNow_66 ?_
    refine rw_iload_n hX hl 1 rfl dX7_bindNow_69 rfl ?_
    obtain ⟨h11, hw1⟩ := ar_some hw
    replace hw := hw1
    clear hw1
    obtain ⟨j10, ej10⟩ : ∃ j, (x1 : Int32).toNatClampNeg = j := ⟨_, rfl⟩
    rw [ej10] at hw
    refine rw_iald hX hR 806 (n := 24) (i := x1) (v := (gi σ 806 j10)) rfl (by decide) rfl rfl h11 (by rw [ej10]) dX7_bindNow_70 ?_
    refine lv_if_le (x := (gi σ 806 j10)) (tgt := 82) hX.1.1 hX.1.2.1 dX7_bindNow_71 (by decide) (fun c12 => ?_) (fun c12 => ?_)
    · replace hw := if_t hw c12
      refine lv_iconst (v := (-1)) hX.1.1 hX.1.2.1 dX7_bindNow_82 (by decide) ?_
      exact J83 x1 x1 (-1) σ _ _ (by omega) (by omega) _ _ _ hw hR (lh_sub hl [0, 1] rfl)
    · replace hw := if_f hw c12
      refine rw_aload_n hX hl 0 rfl (Or.inr ⟨_, rfl⟩) dX7_bindNow_74 rfl ?_
      refine rw_iload_n hX hl 1 rfl dX7_bindNow_75 rfl ?_
      obtain ⟨v37, g39, hw1⟩ := ob1_some hw
      replace hw := hw1
      clear hw1
      refine rw_cVi hX hR pk_f8_roomFor (mc := 0) (ms := 0) ⟨rfl, rfl, (show 3 + 1 ≤ 4 by omega), (show 8 + (6 + 11) + 64 * 3 ≤ 64 * 4 by omega)⟩ (As := [.int x1]) (rest := [.int x1, .ref (gS γ 1814 0)]) rfl (C_f8_roomFor l γ ad x1 σ v37 g39) gw_1113 gw_1115 gs_59 (rs_recv hX hR 8 0 (C := RX7) (T := TX7) (N := 48) rfl (by decide) (Nat.le_of_ble_eq_true rfl) rfl) rfl hl.1 (ca1 rfl (ca1 rfl ca0)) (Nat.le_of_ble_eq_true rfl) dX7_bindNow_76 ⟨(show cells + 0 ≤ 0 by omega), (show slots + 0 ≤ 0 by omega)⟩ (fun H locs hR1 => ?_)
      replace hR := hR1
      clear hR1
      refine lv_goto (tgt := 83) hX.1.1 hX.1.2.1 dX7_bindNow_79 (by decide) ?_
      exact J83 x1 x1 v37 σ _ _ (by omega) (by omega) _ _ _ hw hR (lh_sub hl [0, 1] rfl)
  have J40 : ∀ (x1 : Int32) (σ : St) (cells slots : Nat), cells ≤ 0 → slots ≤ 0 → ∀ (H : Heap) (locs : List Loc) (ls : Array Slot), f8_bindNow_j40 fu x1 σ = some σ' → RS γ ad σ s H locs → lh ls 2 [(0, .ref (gS γ 8 0)), (1, .int x1)] → W p l e (rmo 4 0 0) s m ([.ref (gS γ 8 0), .int a1] : List Value).toArray below meth c H locs cells slots (MQ below (QV γ ad σ') ([.ref (gS γ 8 0), .int a1] : List Value).toArray s 0 0 (gA γ)) (F0 m 40 ls []) := by
    intro x1 σ cells slots hc1 hc2 H locs ls hw hR hl
    unfold f8_bindNow_j40 at hw
    refine rw_aload_n hX hl 0 rfl (Or.inr ⟨_, rfl⟩) dX7_bindNow_40 rfl ?_
    refine rw_get hX hR 8 10 0 (C := RX7) (T := TX7) (N := 48) rfl (by decide) (Nat.le_of_ble_eq_true rfl) rfl (v := .ref (gS γ 1810 0)) rfl uw_X7 gw_938 rfl dX7_bindNow_41 ?_
    refine rw_iload_n hX hl 1 rfl dX7_bindNow_44 rfl ?_
    obtain ⟨h8, hw1⟩ := ar_some hw
    replace hw := hw1
    clear hw1
    obtain ⟨j7, ej7⟩ : ∃ j, (x1 : Int32).toNatClampNeg = j := ⟨_, rfl⟩
    rw [ej7] at hw
    refine rw_iald hX hR 810 (n := 24) (i := x1) (v := (gi σ 810 j7)) rfl (by decide) rfl rfl h8 (by rw [ej7]) dX7_bindNow_45 ?_
    refine lv_iconst (v := (-1)) hX.1.1 hX.1.2.1 dX7_bindNow_46 (by decide) ?_
    refine lv_icmp_eq (x := (gi σ 810 j7)) (y := (-1)) (tgt := 60) hX.1.1 hX.1.2.1 dX7_bindNow_47 (by decide) (fun c9 => ?_) (fun c9 => ?_)
    · replace hw := if_t hw c9
      exact J60 x1 σ _ _ (by omega) (by omega) _ _ _ hw hR (lh_sub hl [0, 1] rfl)
    · replace hw := if_f hw c9
      refine rw_aload_n hX hl 0 rfl (Or.inr ⟨_, rfl⟩) dX7_bindNow_50 rfl ?_
      refine rw_aload_n hX hl 0 rfl (Or.inr ⟨_, rfl⟩) dX7_bindNow_51 rfl ?_
      refine rw_get hX hR 8 10 0 (C := RX7) (T := TX7) (N := 48) rfl (by decide) (Nat.le_of_ble_eq_true rfl) rfl (v := .ref (gS γ 1810 0)) rfl uw_X7 gw_938 rfl dX7_bindNow_52 ?_
      refine rw_iload_n hX hl 1 rfl dX7_bindNow_55 rfl ?_
      obtain ⟨h41, hw1⟩ := ar_some hw
      replace hw := hw1
      clear hw1
      obtain ⟨j40, ej40⟩ : ∃ j, (x1 : Int32).toNatClampNeg = j := ⟨_, rfl⟩
      rw [ej40] at hw
      refine rw_iald hX hR 810 (n := 24) (i := x1) (v := (gi σ 810 j40)) rfl (by decide) rfl rfl h41 (by rw [ej40]) dX7_bindNow_56 ?_
      obtain ⟨σ43, g44, hw1⟩ := ob1_some hw
      replace hw := hw1
      clear hw1
      refine rw_cVv hX hR pk_f8_wake (mc := 0) (ms := 0) ⟨rfl, rfl, (show 2 + 1 ≤ 4 by omega), (show 8 + (5 + 11) + 64 * 2 ≤ 64 * 4 by omega)⟩ (As := [.int (gi σ 810 j40)]) (rest := []) rfl (C_f8_wake l γ ad (gi σ 810 j40) σ σ43 g44) gw_1133 gw_1135 gs_64 (rs_recv hX hR 8 0 (C := RX7) (T := TX7) (N := 48) rfl (by decide) (Nat.le_of_ble_eq_true rfl) rfl) rfl hl.1 ca0 (Nat.le_of_ble_eq_true rfl) dX7_bindNow_57 ⟨(show cells + 0 ≤ 0 by omega), (show slots + 0 ≤ 0 by omega)⟩ (fun H locs hR1 => ?_)
      replace hR := hR1
      clear hR1
      exact J60 x1 σ43 _ _ (by omega) (by omega) _ _ _ hw hR (lh_sub hl [0, 1] rfl)
  have J20 : ∀ (x1 : Int32) (σ : St) (cells slots : Nat), cells ≤ 0 → slots ≤ 0 → ∀ (H : Heap) (locs : List Loc) (ls : Array Slot), f8_bindNow_j20 fu x1 σ = some σ' → RS γ ad σ s H locs → lh ls 2 [(0, .ref (gS γ 8 0)), (1, .int x1)] → W p l e (rmo 4 0 0) s m ([.ref (gS γ 8 0), .int a1] : List Value).toArray below meth c H locs cells slots (MQ below (QV γ ad σ') ([.ref (gS γ 8 0), .int a1] : List Value).toArray s 0 0 (gA γ)) (F0 m 20 ls []) := by
    intro x1 σ cells slots hc1 hc2 H locs ls hw hR hl
    unfold f8_bindNow_j20 at hw
    refine rw_aload_n hX hl 0 rfl (Or.inr ⟨_, rfl⟩) dX7_bindNow_20 rfl ?_
    refine rw_get hX hR 8 9 0 (C := RX7) (T := TX7) (N := 48) rfl (by decide) (Nat.le_of_ble_eq_true rfl) rfl (v := .ref (gS γ 1809 0)) rfl uw_X7 gw_937 rfl dX7_bindNow_21 ?_
    refine rw_iload_n hX hl 1 rfl dX7_bindNow_24 rfl ?_
    obtain ⟨h5, hw1⟩ := ar_some hw
    replace hw := hw1
    clear hw1
    obtain ⟨j4, ej4⟩ : ∃ j, (x1 : Int32).toNatClampNeg = j := ⟨_, rfl⟩
    rw [ej4] at hw
    refine rw_iald hX hR 809 (n := 24) (i := x1) (v := (gi σ 809 j4)) rfl (by decide) rfl rfl h5 (by rw [ej4]) dX7_bindNow_25 ?_
    refine lv_iconst (v := (-1)) hX.1.1 hX.1.2.1 dX7_bindNow_26 (by decide) ?_
    refine lv_icmp_eq (x := (gi σ 809 j4)) (y := (-1)) (tgt := 40) hX.1.1 hX.1.2.1 dX7_bindNow_27 (by decide) (fun c6 => ?_) (fun c6 => ?_)
    · replace hw := if_t hw c6
      exact J40 x1 σ _ _ (by omega) (by omega) _ _ _ hw hR (lh_sub hl [0, 1] rfl)
    · replace hw := if_f hw c6
      refine rw_aload_n hX hl 0 rfl (Or.inr ⟨_, rfl⟩) dX7_bindNow_30 rfl ?_
      refine rw_aload_n hX hl 0 rfl (Or.inr ⟨_, rfl⟩) dX7_bindNow_31 rfl ?_
      refine rw_get hX hR 8 9 0 (C := RX7) (T := TX7) (N := 48) rfl (by decide) (Nat.le_of_ble_eq_true rfl) rfl (v := .ref (gS γ 1809 0)) rfl uw_X7 gw_937 rfl dX7_bindNow_32 ?_
      refine rw_iload_n hX hl 1 rfl dX7_bindNow_35 rfl ?_
      obtain ⟨h46, hw1⟩ := ar_some hw
      replace hw := hw1
      clear hw1
      obtain ⟨j45, ej45⟩ : ∃ j, (x1 : Int32).toNatClampNeg = j := ⟨_, rfl⟩
      rw [ej45] at hw
      refine rw_iald hX hR 809 (n := 24) (i := x1) (v := (gi σ 809 j45)) rfl (by decide) rfl rfl h46 (by rw [ej45]) dX7_bindNow_36 ?_
      obtain ⟨σ48, g49, hw1⟩ := ob1_some hw
      replace hw := hw1
      clear hw1
      refine rw_cVv hX hR pk_f8_wake (mc := 0) (ms := 0) ⟨rfl, rfl, (show 2 + 1 ≤ 4 by omega), (show 8 + (5 + 11) + 64 * 2 ≤ 64 * 4 by omega)⟩ (As := [.int (gi σ 809 j45)]) (rest := []) rfl (C_f8_wake l γ ad (gi σ 809 j45) σ σ48 g49) gw_1133 gw_1135 gs_64 (rs_recv hX hR 8 0 (C := RX7) (T := TX7) (N := 48) rfl (by decide) (Nat.le_of_ble_eq_true rfl) rfl) rfl hl.1 ca0 (Nat.le_of_ble_eq_true rfl) dX7_bindNow_37 ⟨(show cells + 0 ≤ 0 by omega), (show slots + 0 ≤ 0 by omega)⟩ (fun H locs hR1 => ?_)
      replace hR := hR1
      clear hR1
      exact J40 x1 σ48 _ _ (by omega) (by omega) _ _ _ hw hR (lh_sub hl [0, 1] rfl)
  refine rw_entry (ca1 rfl (ca1 rfl ca0)) (Nat.le_of_ble_eq_true rfl) (fun ls hl1 => ?_)
  replace hl := hl1
  clear hl1
  refine rw_aload_n hX hl 0 rfl (Or.inr ⟨_, rfl⟩) dX7_bindNow_0 rfl ?_
  refine rw_get hX hR 8 4 0 (C := RX7) (T := TX7) (N := 48) rfl (by decide) (Nat.le_of_ble_eq_true rfl) rfl (v := .ref (gS γ 1804 0)) rfl uw_X7 gw_932 rfl dX7_bindNow_1 ?_
  refine rw_iload_n hX hl 1 rfl dX7_bindNow_4 rfl ?_
  obtain ⟨h2, hw1⟩ := ar_some hw
  replace hw := hw1
  clear hw1
  obtain ⟨j1, ej1⟩ : ∃ j, (a1 : Int32).toNatClampNeg = j := ⟨_, rfl⟩
  rw [ej1] at hw
  refine rw_iald hX hR 804 (n := 24) (i := a1) (v := (gi σ 804 j1)) rfl (by decide) rfl rfl h2 (by rw [ej1]) dX7_bindNow_5 ?_
  refine lv_iconst (v := (-1)) hX.1.1 hX.1.2.1 dX7_bindNow_6 (by decide) ?_
  refine lv_icmp_eq (x := (gi σ 804 j1)) (y := (-1)) (tgt := 20) hX.1.1 hX.1.2.1 dX7_bindNow_7 (by decide) (fun c3 => ?_) (fun c3 => ?_)
  · replace hw := if_t hw c3
    exact J20 a1 σ _ _ (by omega) (by omega) _ _ _ hw hR (lh_sub hl [0, 1] rfl)
  · replace hw := if_f hw c3
    refine rw_aload_n hX hl 0 rfl (Or.inr ⟨_, rfl⟩) dX7_bindNow_10 rfl ?_
    refine rw_aload_n hX hl 0 rfl (Or.inr ⟨_, rfl⟩) dX7_bindNow_11 rfl ?_
    refine rw_get hX hR 8 4 0 (C := RX7) (T := TX7) (N := 48) rfl (by decide) (Nat.le_of_ble_eq_true rfl) rfl (v := .ref (gS γ 1804 0)) rfl uw_X7 gw_932 rfl dX7_bindNow_12 ?_
    refine rw_iload_n hX hl 1 rfl dX7_bindNow_15 rfl ?_
    obtain ⟨h51, hw1⟩ := ar_some hw
    replace hw := hw1
    clear hw1
    obtain ⟨j50, ej50⟩ : ∃ j, (a1 : Int32).toNatClampNeg = j := ⟨_, rfl⟩
    rw [ej50] at hw
    refine rw_iald hX hR 804 (n := 24) (i := a1) (v := (gi σ 804 j50)) rfl (by decide) rfl rfl h51 (by rw [ej50]) dX7_bindNow_16 ?_
    obtain ⟨σ53, g54, hw1⟩ := ob1_some hw
    replace hw := hw1
    clear hw1
    refine rw_cVv hX hR pk_f8_wake (mc := 0) (ms := 0) ⟨rfl, rfl, (show 2 + 1 ≤ 4 by omega), (show 8 + (5 + 11) + 64 * 2 ≤ 64 * 4 by omega)⟩ (As := [.int (gi σ 804 j50)]) (rest := []) rfl (C_f8_wake l γ ad (gi σ 804 j50) σ σ53 g54) gw_1133 gw_1135 gs_64 (rs_recv hX hR 8 0 (C := RX7) (T := TX7) (N := 48) rfl (by decide) (Nat.le_of_ble_eq_true rfl) rfl) rfl hl.1 ca0 (Nat.le_of_ble_eq_true rfl) dX7_bindNow_17 ⟨(show 0 + 0 ≤ 0 by omega), (show 0 + 0 ≤ 0 by omega)⟩ (fun H locs hR1 => ?_)
    replace hR := hR1
    clear hR1
    exact J20 a1 σ53 _ _ (by omega) (by omega) _ _ _ hw hR (lh_sub hl [0, 1] rfl)
set_option maxHeartbeats 8000000 in
set_option maxRecDepth 100000 in
theorem C_f8_settle (l : Launch) (γ : GT) (ad : Nat → Nat → Nat) {fu : Nat} (σ : St) (σ' : St) (hw : f8_settle fu σ = some σ') : Met l yX7_settle (Cond.code yX7_settle cX7_settle 3 (Option.none : Option Jvm.ClassFile.FieldType) :: GW) (rmo 5 0 0) (va_Pc [.ref (gS γ 8 0)] (RU γ ad σ)) (QV γ ad σ') 0 0 (gA γ) := by
  refine Met.ofW (cc := cX7_settle) (maxL := 3) (ret := (Option.none : Option Jvm.ClassFile.FieldType)) (by decide +kernel) rfl ?_
  intro p e s m args below meth c s₁ B hml hv
  obtain ⟨rfl, hU⟩ := hv
  obtain ⟨hX, hR⟩ := cx_of (own := RX7) B hml rfl hU
  have hr := B.returns
  have hlocks := B.notSynchronized
  have hc0 : (0 : Nat) ≤ 0 := Nat.le_refl 0
  show W p l e (rmo 5 0 0) s m ([.ref (gS γ 8 0)] : List Value).toArray below meth c s.heap [] 0 0 (MQ below (QV γ ad σ') ([.ref (gS γ 8 0)] : List Value).toArray s 0 0 (gA γ)) (entryFrame m ([.ref (gS γ 8 0)] : List Value).toArray 3)
  unfold f8_settle at hw
  have L13 : ∀ (n : Nat) (s9 : (Bool × St)) (cells slots : Nat), cells ≤ 0 → slots ≤ 0 → ∀ (H : Heap) (locs : List Loc) (ls : Array Slot), lp (fun s8 => f8_settle_b13 fu s8.1 s8.2) n s9 = some σ' → RS γ ad (s9.2) s H locs → lh ls 3 [(0, .ref (gS γ 8 0)), (1, .int (b2i s9.1))] → W p l e (rmo 5 0 0) s m ([.ref (gS γ 8 0)] : List Value).toArray below meth c H locs cells slots (MQ below (QV γ ad σ') ([.ref (gS γ 8 0)] : List Value).toArray s 0 0 (gA γ)) (F0 m 13 ls []) := by
    intro n13
    induction n13 with
    | zero => intro s9 cells slots hc1 hc2 H locs ls hw hR hl; exact (lp_zero hw).elim
    | succ n13 ih13 =>
      intro s9 cells slots hc1 hc2 H locs ls hw hR hl
      obtain ⟨o13, hw1, hb13, ho13⟩ := lp_succ hw
      replace hw := hw1
      clear hw1
      obtain ⟨x1, σ⟩ := s9
      replace hw : f8_settle_b13 fu x1 σ = some o13 := hw
      replace hR : RS γ ad σ s H locs := hR
      replace hl : lh ls 3 [(0, .ref (gS γ 8 0)), (1, .int (b2i x1))] := hl
      unfold f8_settle_b13 at hw
      have L21 : ∀ (n : Nat) (s9 : (Bool × Int32 × St)) (cells slots : Nat), cells ≤ 0 → slots ≤ 0 → ∀ (H : Heap) (locs : List Loc) (ls : Array Slot), lp (fun s8 => f8_settle_b21 fu s8.1 s8.2.1 s8.2.2) n s9 = some o13 → RS γ ad (s9.2.2) s H locs → lh ls 3 [(0, .ref (gS γ 8 0)), (1, .int (b2i s9.1)), (2, .int s9.2.1)] → W p l e (rmo 5 0 0) s m ([.ref (gS γ 8 0)] : List Value).toArray below meth c H locs cells slots (MQ below (QV γ ad σ') ([.ref (gS γ 8 0)] : List Value).toArray s 0 0 (gA γ)) (F0 m 21 ls []) := by
        intro n21
        induction n21 with
        | zero => intro s9 cells slots hc1 hc2 H locs ls hw hR hl; exact (lp_zero hw).elim
        | succ n21 ih21 =>
          intro s9 cells slots hc1 hc2 H locs ls hw hR hl
          obtain ⟨o21, hw1, hb21, ho21⟩ := lp_succ hw
          replace hw := hw1
          clear hw1
          obtain ⟨x1, x2, σ⟩ := s9
          replace hw : f8_settle_b21 fu x1 x2 σ = some o21 := hw
          replace hR : RS γ ad σ s H locs := hR
          replace hl : lh ls 3 [(0, .ref (gS γ 8 0)), (1, .int (b2i x1)), (2, .int x2)] := hl
          unfold f8_settle_b21 at hw
          have J73 : ∀ (x1 : Bool) (x2 : Int32) (σ : St) (cells slots : Nat), cells ≤ 0 → slots ≤ 0 → ∀ (H : Heap) (locs : List Loc) (ls : Array Slot), f8_settle_j73 fu x1 x2 σ = some o21 → RS γ ad σ s H locs → lh ls 3 [(0, .ref (gS γ 8 0)), (1, .int (b2i x1)), (2, .int x2)] → W p l e (rmo 5 0 0) s m ([.ref (gS γ 8 0)] : List Value).toArray below meth c H locs cells slots (MQ below (QV γ ad σ') ([.ref (gS γ 8 0)] : List Value).toArray s 0 0 (gA γ)) (F0 m 73 ls []) := by
            intro x1 x2 σ cells slots hc1 hc2 H locs ls hw hR hl
            unfold f8_settle_j73 at hw
            refine rw_iinc (k := 2) (v := (x2 + 1)) (lv' := [(2, .int (x2 + 1)), (0, .ref (gS γ 8 0)), (1, .int (b2i x1))]) hX hl rfl (congrArg (fun q => x2 + q) (show Int32.ofInt 1 = 1 by decide)) (by decide) rfl dX7_settle_73 (fun ls hl1 => ?_)
            replace hl := hl1
            clear hl1
            refine lv_goto (tgt := 21) hX.1.1 hX.1.2.1 dX7_settle_76 (by decide) ?_
            exact ih21 _ _ _ (by omega) (by omega) _ _ _ (lp_back hw hb21) hR (lh_sub hl [1, 2, 0] rfl)
          have J63 : ∀ (x2 : Int32) (y0 : Bool) (σ : St) (cells slots : Nat), cells ≤ 0 → slots ≤ 0 → ∀ (H : Heap) (locs : List Loc) (ls : Array Slot), f8_settle_j63 fu x2 y0 σ = some o21 → RS γ ad σ s H locs → lh ls 3 [(0, .ref (gS γ 8 0)), (2, .int x2)] → W p l e (rmo 5 0 0) s m ([.ref (gS γ 8 0)] : List Value).toArray below meth c H locs cells slots (MQ below (QV γ ad σ') ([.ref (gS γ 8 0)] : List Value).toArray s 0 0 (gA γ)) (F0 m 63 ls [.int (b2i y0)]) := by
            intro x2 y0 σ cells slots hc1 hc2 H locs ls hw hR hl
            unfold f8_settle_j63 at hw
            refine rw_istore_n (lv' := [(1, .int (b2i y0)), (0, .ref (gS γ 8 0)), (2, .int x2)]) hX hl (by decide) rfl dX7_settle_63 rfl (fun ls hl1 => ?_)
            replace hl := hl1
            clear hl1
            refine rw_iload_n hX hl 0 rfl dX7_settle_64 rfl ?_
            refine rw_ifeqZ (b := y0) (tgt := 73) hX dX7_settle_65 (by decide) (fun c8 => ?_) (fun c8 => ?_)
            · replace hw := if_f hw c8
              exact J73 y0 x2 σ _ _ (by omega) (by omega) _ _ _ hw hR (lh_sub hl [1, 0, 2] rfl)
            · replace hw := if_t hw c8
              refine rw_aload_n hX hl 1 rfl (Or.inr ⟨_, rfl⟩) dX7_settle_68 rfl ?_
              refine rw_iload_n hX hl 2 rfl dX7_settle_69 rfl ?_
              obtain ⟨σ10, g11, hw1⟩ := ob1_some hw
              replace hw := hw1
              clear hw1
              refine rw_cVv hX hR pk_f8_bindNow (mc := 0) (ms := 0) ⟨rfl, rfl, (show 4 + 1 ≤ 5 by omega), (show 8 + (2 + 11) + 64 * 4 ≤ 64 * 5 by omega)⟩ (As := [.int x2]) (rest := []) rfl (C_f8_bindNow l γ ad x2 σ σ10 g11) gw_1129 gw_1131 gs_63 (rs_recv hX hR 8 0 (C := RX7) (T := TX7) (N := 48) rfl (by decide) (Nat.le_of_ble_eq_true rfl) rfl) rfl hl.1 ca0 (Nat.le_of_ble_eq_true rfl) dX7_settle_70 ⟨(show cells + 0 ≤ 0 by omega), (show slots + 0 ≤ 0 by omega)⟩ (fun H locs hR1 => ?_)
              replace hR := hR1
              clear hR1
              exact J73 y0 x2 σ10 _ _ (by omega) (by omega) _ _ _ hw hR (lh_sub hl [1, 0, 2] rfl)
          refine rw_iload_n hX hl 2 rfl dX7_settle_21 rfl ?_
          refine rw_aload_n hX hl 0 rfl (Or.inr ⟨_, rfl⟩) dX7_settle_22 rfl ?_
          refine rw_get hX hR 8 3 0 (C := RX7) (T := TX7) (N := 48) rfl (by decide) (Nat.le_of_ble_eq_true rfl) rfl (v := .int (gi σ 803 0)) rfl uw_X7 gw_931 rfl dX7_settle_23 ?_
          refine lv_icmp_ge (x := x2) (y := (gi σ 803 0)) (tgt := 79) hX.1.1 hX.1.2.1 dX7_settle_26 (by decide) (fun c3 => ?_) (fun c3 => ?_)
          · replace hw := if_t hw c3
            replace hw := lp_out hw ho21
            refine lv_goto (tgt := 13) hX.1.1 hX.1.2.1 dX7_settle_79 (by decide) ?_
            exact ih13 _ _ _ (by omega) (by omega) _ _ _ (lp_back hw hb13) hR (lh_sub hl [0, 1] rfl)
          · replace hw := if_f hw c3
            refine rw_iload_n hX hl 1 rfl dX7_settle_29 rfl ?_
            refine rw_ifneZ (b := x1) (tgt := 79) hX dX7_settle_30 (by decide) (fun c4 => ?_) (fun c4 => ?_)
            · replace hw := if_t hw c4
              replace hw := lp_out hw ho21
              refine lv_goto (tgt := 13) hX.1.1 hX.1.2.1 dX7_settle_79 (by decide) ?_
              exact ih13 _ _ _ (by omega) (by omega) _ _ _ (lp_back hw hb13) hR (lh_sub hl [0, 1] rfl)
            · replace hw := if_f hw c4
              refine rw_aload_n hX hl 0 rfl (Or.inr ⟨_, rfl⟩) dX7_settle_33 rfl ?_
              refine rw_get hX hR 8 11 0 (C := RX7) (T := TX7) (N := 48) rfl (by decide) (Nat.le_of_ble_eq_true rfl) rfl (v := .ref (gS γ 1811 0)) rfl uw_X7 gw_939 rfl dX7_settle_34 ?_
              refine rw_iload_n hX hl 2 rfl dX7_settle_37 rfl ?_
              obtain ⟨h6, hw1⟩ := ar_some hw
              replace hw := hw1
              clear hw1
              obtain ⟨j5, ej5⟩ : ∃ j, (x2 : Int32).toNatClampNeg = j := ⟨_, rfl⟩
              rw [ej5] at hw
              refine rw_zald hX hR 811 (n := 24) (i := x2) (v := (gb σ 811 j5)) rfl (by decide) rfl rfl h6 (by rw [ej5]) dX7_settle_38 ?_
              refine rw_ifeqZ (b := (gb σ 811 j5)) (tgt := 62) hX dX7_settle_39 (by decide) (fun c7 => ?_) (fun c7 => ?_)
              · replace hw := if_f hw c7
                refine lv_iconst (v := 0) hX.1.1 hX.1.2.1 dX7_settle_62 (by decide) ?_
                exact J63 x2 false σ _ _ (by omega) (by omega) _ _ _ hw hR (lh_sub hl [0, 2] rfl)
              · replace hw := if_t hw c7
                refine rw_aload_n hX hl 0 rfl (Or.inr ⟨_, rfl⟩) dX7_settle_42 rfl ?_
                refine rw_iload_n hX hl 2 rfl dX7_settle_43 rfl ?_
                obtain ⟨v12, g14, hw1⟩ := ob1_some hw
                replace hw := hw1
                clear hw1
                refine rw_cVi hX hR pk_f8_isBound (mc := 0) (ms := 0) ⟨rfl, rfl, (show 1 + 1 ≤ 5 by omega), (show 8 + (2 + 11) + 64 * 1 ≤ 64 * 5 by omega)⟩ (As := [.int x2]) (rest := []) rfl (C_f8_isBound l γ ad x2 σ v12 g14) gw_1097 gw_1099 gs_55 (rs_recv hX hR 8 0 (C := RX7) (T := TX7) (N := 48) rfl (by decide) (Nat.le_of_ble_eq_true rfl) rfl) rfl hl.1 ca0 (Nat.le_of_ble_eq_true rfl) dX7_settle_44 ⟨(show cells + 0 ≤ 0 by omega), (show slots + 0 ≤ 0 by omega)⟩ (fun H locs hR1 => ?_)
                replace hR := hR1
                clear hR1
                refine rw_ifneZ (b := v12) (tgt := 62) hX dX7_settle_47 (by decide) (fun c15 => ?_) (fun c15 => ?_)
                · replace hw := if_t hw c15
                  refine lv_iconst (v := 0) hX.1.1 hX.1.2.1 dX7_settle_62 (by decide) ?_
                  exact J63 x2 false σ _ _ (by omega) (by omega) _ _ _ hw hR (lh_sub hl [0, 2] rfl)
                · replace hw := if_f hw c15
                  refine rw_aload_n hX hl 0 rfl (Or.inr ⟨_, rfl⟩) dX7_settle_50 rfl ?_
                  refine rw_iload_n hX hl 2 rfl dX7_settle_51 rfl ?_
                  obtain ⟨v16, g18, hw1⟩ := ob1_some hw
                  replace hw := hw1
                  clear hw1
                  refine rw_cVi hX hR pk_f8_refused (mc := 0) (ms := 0) ⟨rfl, rfl, (show 4 + 1 ≤ 5 by omega), (show 8 + (3 + 11) + 64 * 4 ≤ 64 * 5 by omega)⟩ (As := [.int x2]) (rest := []) rfl (C_f8_refused l γ ad x2 σ v16 g18) gw_1101 gw_1103 gs_56 (rs_recv hX hR 8 0 (C := RX7) (T := TX7) (N := 48) rfl (by decide) (Nat.le_of_ble_eq_true rfl) rfl) rfl hl.1 ca0 (Nat.le_of_ble_eq_true rfl) dX7_settle_52 ⟨(show (cells + 0) + 0 ≤ 0 by omega), (show (slots + 0) + 0 ≤ 0 by omega)⟩ (fun H locs hR1 => ?_)
                  replace hR := hR1
                  clear hR1
                  refine lv_if_ne (x := v16) (tgt := 62) hX.1.1 hX.1.2.1 dX7_settle_55 (by decide) (fun c19 => ?_) (fun c19 => ?_)
                  · replace hw := if_f hw c19
                    refine lv_iconst (v := 0) hX.1.1 hX.1.2.1 dX7_settle_62 (by decide) ?_
                    exact J63 x2 false σ _ _ (by omega) (by omega) _ _ _ hw hR (lh_sub hl [0, 2] rfl)
                  · replace hw := if_t hw c19
                    refine lv_iconst (v := 1) hX.1.1 hX.1.2.1 dX7_settle_58 (by decide) ?_
                    refine lv_goto (tgt := 63) hX.1.1 hX.1.2.1 dX7_settle_59 (by decide) ?_
                    exact J63 x2 true σ _ _ (by omega) (by omega) _ _ _ hw hR (lh_sub hl [0, 2] rfl)
      refine rw_iload_n hX hl 1 rfl dX7_settle_13 rfl ?_
      refine rw_ifeqZ (b := x1) (tgt := 82) hX dX7_settle_14 (by decide) (fun c2 => ?_) (fun c2 => ?_)
      · replace hw := if_f hw c2
        replace hw := lp_out hw ho13
        refine W.widen (k := 0) (n := 0) (by omega) (by omega) ?_
        exact rq_ve hX hR hr hw dX7_settle_82 hlocks
      · replace hw := if_t hw c2
        refine lv_iconst (v := 0) hX.1.1 hX.1.2.1 dX7_settle_17 (by decide) ?_
        refine rw_istore_n (lv' := [(1, .int 0), (0, .ref (gS γ 8 0))]) hX hl (by decide) rfl dX7_settle_18 rfl (fun ls hl1 => ?_)
        replace hl := hl1
        clear hl1
        refine lv_iconst (v := 0) hX.1.1 hX.1.2.1 dX7_settle_19 (by decide) ?_
        refine rw_istore_n (lv' := [(2, .int 0), (1, .int 0), (0, .ref (gS γ 8 0))]) hX hl (by decide) rfl dX7_settle_20 rfl (fun ls hl1 => ?_)
        replace hl := hl1
        clear hl1
        exact L21 _ _ _ _ (by omega) (by omega) _ _ _ hw hR (lh_sub hl [2, 1, 0] rfl)
  have J12 : ∀ (y0 : Bool) (σ : St) (cells slots : Nat), cells ≤ 0 → slots ≤ 0 → ∀ (H : Heap) (locs : List Loc) (ls : Array Slot), f8_settle_j12 fu y0 σ = some σ' → RS γ ad σ s H locs → lh ls 3 [(0, .ref (gS γ 8 0))] → W p l e (rmo 5 0 0) s m ([.ref (gS γ 8 0)] : List Value).toArray below meth c H locs cells slots (MQ below (QV γ ad σ') ([.ref (gS γ 8 0)] : List Value).toArray s 0 0 (gA γ)) (F0 m 12 ls [.int (b2i y0)]) := by
    intro y0 σ cells slots hc1 hc2 H locs ls hw hR hl
    unfold f8_settle_j12 at hw
    refine rw_istore_n (lv' := [(1, .int (b2i y0)), (0, .ref (gS γ 8 0))]) hX hl (by decide) rfl dX7_settle_12 rfl (fun ls hl1 => ?_)
    replace hl := hl1
    clear hl1
    exact L13 _ _ _ _ (by omega) (by omega) _ _ _ hw hR (lh_sub hl [1, 0] rfl)
  refine rw_entry (ca1 rfl ca0) (Nat.le_of_ble_eq_true rfl) (fun ls hl1 => ?_)
  replace hl := hl1
  clear hl1
  refine rw_aload_n hX hl 0 rfl (Or.inr ⟨_, rfl⟩) dX7_settle_0 rfl ?_
  refine rw_get hX hR 8 2 0 (C := RX7) (T := TX7) (N := 48) rfl (by decide) (Nat.le_of_ble_eq_true rfl) rfl (v := .int (b2i (gb σ 802 0))) rfl uw_X7 gw_930 rfl dX7_settle_1 ?_
  refine rw_ifneZ (b := (gb σ 802 0)) (tgt := 11) hX dX7_settle_4 (by decide) (fun c1 => ?_) (fun c1 => ?_)
  · replace hw := if_t hw c1
    refine lv_iconst (v := 0) hX.1.1 hX.1.2.1 dX7_settle_11 (by decide) ?_
    exact J12 false σ _ _ (by omega) (by omega) _ _ _ hw hR (lh_sub hl [0] rfl)
  · replace hw := if_f hw c1
    refine lv_iconst (v := 1) hX.1.1 hX.1.2.1 dX7_settle_7 (by decide) ?_
    refine lv_goto (tgt := 12) hX.1.1 hX.1.2.1 dX7_settle_8 (by decide) ?_
    exact J12 true σ _ _ (by omega) (by omega) _ _ _ hw hR (lh_sub hl [0] rfl)
set_option maxHeartbeats 8000000 in
set_option maxRecDepth 100000 in
theorem C_f8_has (l : Launch) (γ : GT) (ad : Nat → Nat → Nat) {fu : Nat} (a0 : Int32) (a1 : Int32) (σ : St) (r : Bool) (hw : f8_has fu a0 a1 σ = some r) : Met l yX7_has (Cond.code yX7_has cX7_has 2 (Option.some Jvm.ClassFile.FieldType.boolean) :: GW) (rmo 1 0 0) (va_Pc [.int a0, .int a1] (RU γ ad σ)) (QI γ ad σ (b2i r)) 0 0 (gA γ) := by
  refine Met.ofW (cc := cX7_has) (maxL := 2) (ret := (Option.some Jvm.ClassFile.FieldType.boolean)) (by decide +kernel) rfl ?_
  intro p e s m args below meth c s₁ B hml hv
  obtain ⟨rfl, hU⟩ := hv
  obtain ⟨hX, hR⟩ := cx_of (own := RX7) B hml rfl hU
  have hr := B.returns
  have hlocks := B.notSynchronized
  have hc0 : (0 : Nat) ≤ 0 := Nat.le_refl 0
  show W p l e (rmo 1 0 0) s m ([.int a0, .int a1] : List Value).toArray below meth c s.heap [] 0 0 (MQ below (QI γ ad σ (b2i r)) ([.int a0, .int a1] : List Value).toArray s 0 0 (gA γ)) (entryFrame m ([.int a0, .int a1] : List Value).toArray 2)
  unfold f8_has at hw
  refine rw_entry (ca1 rfl (ca1 rfl ca0)) (Nat.le_of_ble_eq_true rfl) (fun ls hl1 => ?_)
  replace hl := hl1
  clear hl1
  refine rw_iload_n hX hl 1 rfl dX7_has_0 rfl ?_
  refine lv_iconst (v := (-1)) hX.1.1 hX.1.2.1 dX7_has_1 (by decide) ?_
  refine lv_icmp_eq (x := a1) (y := (-1)) (tgt := 18) hX.1.1 hX.1.2.1 dX7_has_2 (by decide) (fun c1 => ?_) (fun c1 => ?_)
  · replace hw := if_t hw c1
    refine lv_iconst (v := 0) hX.1.1 hX.1.2.1 dX7_has_18 (by decide) ?_
    exact rq_z hX hR hr (v := false) rfl hw dX7_has_19 hlocks
  · replace hw := if_f hw c1
    refine rw_iload_n hX hl 0 rfl dX7_has_5 rfl ?_
    refine rw_iload_n hX hl 1 rfl dX7_has_6 rfl ?_
    refine lv_ishr (x := a0) (y := a1) hX.1.1 hX.1.2.1 dX7_has_7 ?_
    refine lv_iconst (v := 1) hX.1.1 hX.1.2.1 dX7_has_8 (by decide) ?_
    refine lv_iand (x := (a0 >>> (a1 &&& 31))) (y := 1) hX.1.1 hX.1.2.1 dX7_has_9 ?_
    refine lv_iconst (v := 1) hX.1.1 hX.1.2.1 dX7_has_10 (by decide) ?_
    refine lv_icmp_ne (x := ((a0 >>> (a1 &&& 31)) &&& 1)) (y := 1) (tgt := 18) hX.1.1 hX.1.2.1 dX7_has_11 (by decide) (fun c2 => ?_) (fun c2 => ?_)
    · replace hw := if_f hw c2
      refine lv_iconst (v := 0) hX.1.1 hX.1.2.1 dX7_has_18 (by decide) ?_
      exact rq_z hX hR hr (v := false) rfl hw dX7_has_19 hlocks
    · replace hw := if_t hw c2
      refine lv_iconst (v := 1) hX.1.1 hX.1.2.1 dX7_has_14 (by decide) ?_
      refine lv_goto (tgt := 19) hX.1.1 hX.1.2.1 dX7_has_15 (by decide) ?_
      exact rq_z hX hR hr (v := true) rfl hw dX7_has_19 hlocks
set_option maxHeartbeats 8000000 in
set_option maxRecDepth 100000 in
theorem C_f8_endCalls (l : Launch) (γ : GT) (ad : Nat → Nat → Nat) {fu : Nat} (a1 : Int32) (σ : St) (r : Int32) (σ' : St) (hw : f8_endCalls fu a1 σ = some (r, σ')) : Met l yX7_endCalls (Cond.code yX7_endCalls cX7_endCalls 4 (Option.some Jvm.ClassFile.FieldType.int) :: GW) (rmo 1 0 0) (va_Pc [.ref (gS γ 8 0), .int a1] (RU γ ad σ)) (QI γ ad σ' r) 0 0 (gA γ) := by
  refine Met.ofW (cc := cX7_endCalls) (maxL := 4) (ret := (Option.some Jvm.ClassFile.FieldType.int)) (by decide +kernel) rfl ?_
  intro p e s m args below meth c s₁ B hml hv
  obtain ⟨rfl, hU⟩ := hv
  obtain ⟨hX, hR⟩ := cx_of (own := RX7) B hml rfl hU
  have hr := B.returns
  have hlocks := B.notSynchronized
  have hc0 : (0 : Nat) ≤ 0 := Nat.le_refl 0
  show W p l e (rmo 1 0 0) s m ([.ref (gS γ 8 0), .int a1] : List Value).toArray below meth c s.heap [] 0 0 (MQ below (QI γ ad σ' r) ([.ref (gS γ 8 0), .int a1] : List Value).toArray s 0 0 (gA γ)) (entryFrame m ([.ref (gS γ 8 0), .int a1] : List Value).toArray 4)
  unfold f8_endCalls at hw
  have L4 : ∀ (x1 : Int32) (n : Nat) (s9 : (Int32 × Int32 × St)) (cells slots : Nat), cells ≤ 0 → slots ≤ 0 → ∀ (H : Heap) (locs : List Loc) (ls : Array Slot), lp (fun s8 => f8_endCalls_b4 fu x1 s8.1 s8.2.1 s8.2.2) n s9 = some (r, σ') → RS γ ad (s9.2.2) s H locs → lh ls 4 [(0, .ref (gS γ 8 0)), (1, .int x1), (2, .int s9.1), (3, .int s9.2.1)] → W p l e (rmo 1 0 0) s m ([.ref (gS γ 8 0), .int a1] : List Value).toArray below meth c H locs cells slots (MQ below (QI γ ad σ' r) ([.ref (gS γ 8 0), .int a1] : List Value).toArray s 0 0 (gA γ)) (F0 m 4 ls []) := by
    intro x1 n4
    induction n4 with
    | zero => intro s9 cells slots hc1 hc2 H locs ls hw hR hl; exact (lp_zero hw).elim
    | succ n4 ih4 =>
      intro s9 cells slots hc1 hc2 H locs ls hw hR hl
      obtain ⟨o4, hw1, hb4, ho4⟩ := lp_succ hw
      replace hw := hw1
      clear hw1
      obtain ⟨x2, x3, σ⟩ := s9
      replace hw : f8_endCalls_b4 fu x1 x2 x3 σ = some o4 := hw
      replace hR : RS γ ad σ s H locs := hR
      replace hl : lh ls 4 [(0, .ref (gS γ 8 0)), (1, .int x1), (2, .int x2), (3, .int x3)] := hl
      unfold f8_endCalls_b4 at hw
      have J46 : ∀ (x2 : Int32) (x3 : Int32) (σ : St) (cells slots : Nat), cells ≤ 0 → slots ≤ 0 → ∀ (H : Heap) (locs : List Loc) (ls : Array Slot), f8_endCalls_j46 fu x1 x2 x3 σ = some o4 → RS γ ad σ s H locs → lh ls 4 [(0, .ref (gS γ 8 0)), (1, .int x1), (2, .int x2), (3, .int x3)] → W p l e (rmo 1 0 0) s m ([.ref (gS γ 8 0), .int a1] : List Value).toArray below meth c H locs cells slots (MQ below (QI γ ad σ' r) ([.ref (gS γ 8 0), .int a1] : List Value).toArray s 0 0 (gA γ)) (F0 m 46 ls []) := by
        intro x2 x3 σ cells slots hc1 hc2 H locs ls hw hR hl
        unfold f8_endCalls_j46 at hw
        refine rw_iinc (k := 3) (v := (x3 + 1)) (lv' := [(3, .int (x3 + 1)), (0, .ref (gS γ 8 0)), (1, .int x1), (2, .int x2)]) hX hl rfl (congrArg (fun q => x3 + q) (show Int32.ofInt 1 = 1 by decide)) (by decide) rfl dX7_endCalls_46 (fun ls hl1 => ?_)
        replace hl := hl1
        clear hl1
        refine lv_goto (tgt := 4) hX.1.1 hX.1.2.1 dX7_endCalls_49 (by decide) ?_
        exact ih4 _ _ _ (by omega) (by omega) _ _ _ (lp_back hw hb4) hR (lh_sub hl [1, 2, 3, 0] rfl)
      refine rw_iload_n hX hl 3 rfl dX7_endCalls_4 rfl ?_
      refine rw_aload_n hX hl 0 rfl (Or.inr ⟨_, rfl⟩) dX7_endCalls_5 rfl ?_
      refine rw_get hX hR 8 34 0 (C := RX7) (T := TX7) (N := 48) rfl (by decide) (Nat.le_of_ble_eq_true rfl) rfl (v := .int (gi σ 834 0)) rfl uw_X7 gw_962 rfl dX7_endCalls_6 ?_
      refine lv_icmp_ge (x := x3) (y := (gi σ 834 0)) (tgt := 52) hX.1.1 hX.1.2.1 dX7_endCalls_9 (by decide) (fun c1 => ?_) (fun c1 => ?_)
      · replace hw := if_t hw c1
        replace hw := lp_out hw ho4
        refine rw_iload_n hX hl 2 rfl dX7_endCalls_52 rfl ?_
        refine W.widen (k := 0) (n := 0) (by omega) (by omega) ?_
        exact rq_ie hX hR hr hw dX7_endCalls_53 hlocks
      · replace hw := if_f hw c1
        refine rw_aload_n hX hl 0 rfl (Or.inr ⟨_, rfl⟩) dX7_endCalls_12 rfl ?_
        refine rw_get hX hR 8 37 0 (C := RX7) (T := TX7) (N := 48) rfl (by decide) (Nat.le_of_ble_eq_true rfl) rfl (v := .ref (gS γ 1837 0)) rfl uw_X7 gw_965 rfl dX7_endCalls_13 ?_
        refine rw_iload_n hX hl 3 rfl dX7_endCalls_16 rfl ?_
        obtain ⟨h3, hw1⟩ := ar_some hw
        replace hw := hw1
        clear hw1
        obtain ⟨j2, ej2⟩ : ∃ j, (x3 : Int32).toNatClampNeg = j := ⟨_, rfl⟩
        rw [ej2] at hw
        refine rw_iald hX hR 837 (n := 100) (i := x3) (v := (gi σ 837 j2)) rfl (by decide) rfl rfl h3 (by rw [ej2]) dX7_endCalls_17 ?_
        refine lv_if_ne (x := (gi σ 837 j2)) (tgt := 46) hX.1.1 hX.1.2.1 dX7_endCalls_18 (by decide) (fun c4 => ?_) (fun c4 => ?_)
        · replace hw := if_f hw c4
          exact J46 x2 x3 σ _ _ (by omega) (by omega) _ _ _ hw hR (lh_sub hl [0, 1, 2, 3] rfl)
        · replace hw := if_t hw c4
          refine rw_aload_n hX hl 0 rfl (Or.inr ⟨_, rfl⟩) dX7_endCalls_21 rfl ?_
          refine rw_get hX hR 8 31 0 (C := RX7) (T := TX7) (N := 48) rfl (by decide) (Nat.le_of_ble_eq_true rfl) rfl (v := .ref (gS γ 1831 0)) rfl uw_X7 gw_959 rfl dX7_endCalls_22 ?_
          refine rw_aload_n hX hl 0 rfl (Or.inr ⟨_, rfl⟩) dX7_endCalls_25 rfl ?_
          refine rw_get hX hR 8 35 0 (C := RX7) (T := TX7) (N := 48) rfl (by decide) (Nat.le_of_ble_eq_true rfl) rfl (v := .ref (gS γ 1835 0)) rfl uw_X7 gw_963 rfl dX7_endCalls_26 ?_
          refine rw_iload_n hX hl 3 rfl dX7_endCalls_29 rfl ?_
          obtain ⟨h6, hw1⟩ := ar_some hw
          replace hw := hw1
          clear hw1
          obtain ⟨j5, ej5⟩ : ∃ j, (x3 : Int32).toNatClampNeg = j := ⟨_, rfl⟩
          rw [ej5] at hw
          refine rw_iald hX hR 835 (n := 100) (i := x3) (v := (gi σ 835 j5)) rfl (by decide) rfl rfl h6 (by rw [ej5]) dX7_endCalls_30 ?_
          obtain ⟨h8, hw1⟩ := ar_some hw
          replace hw := hw1
          clear hw1
          obtain ⟨j7, ej7⟩ : ∃ j, ((gi σ 835 j5) : Int32).toNatClampNeg = j := ⟨_, rfl⟩
          rw [ej7] at hw
          refine rw_iald hX hR 831 (n := 40) (i := (gi σ 835 j5)) (v := (gi σ 831 j7)) rfl (by decide) rfl rfl h8 (by rw [ej7]) dX7_endCalls_31 ?_
          refine rw_iload_n hX hl 1 rfl dX7_endCalls_32 rfl ?_
          refine lv_icmp_ne (x := (gi σ 831 j7)) (y := x1) (tgt := 46) hX.1.1 hX.1.2.1 dX7_endCalls_33 (by decide) (fun c9 => ?_) (fun c9 => ?_)
          · replace hw := if_f hw c9
            exact J46 x2 x3 σ _ _ (by omega) (by omega) _ _ _ hw hR (lh_sub hl [0, 1, 2, 3] rfl)
          · replace hw := if_t hw c9
            refine rw_aload_n hX hl 0 rfl (Or.inr ⟨_, rfl⟩) dX7_endCalls_36 rfl ?_
            refine rw_get hX hR 8 37 0 (C := RX7) (T := TX7) (N := 48) rfl (by decide) (Nat.le_of_ble_eq_true rfl) rfl (v := .ref (gS γ 1837 0)) rfl uw_X7 gw_965 rfl dX7_endCalls_37 ?_
            refine rw_iload_n hX hl 3 rfl dX7_endCalls_40 rfl ?_
            refine lv_iconst (v := 2) hX.1.1 hX.1.2.1 dX7_endCalls_41 (by decide) ?_
            obtain ⟨h11, hw1⟩ := ar_some hw
            replace hw := hw1
            clear hw1
            obtain ⟨j10, ej10⟩ : ∃ j, (x3 : Int32).toNatClampNeg = j := ⟨_, rfl⟩
            rw [ej10] at hw
            refine rw_iast hX hR 837 (n := 100) (i := x3) (x := 2) rfl (by decide) rfl rfl h11 dX7_endCalls_42 (fun σ1 H locs e1 hR1 => ?_)
            replace hR := hR1
            clear hR1
            rw [ej10] at e1
            subst e1
            refine rw_iinc (k := 2) (v := (x2 + 1)) (lv' := [(2, .int (x2 + 1)), (0, .ref (gS γ 8 0)), (1, .int x1), (3, .int x3)]) hX hl rfl (congrArg (fun q => x2 + q) (show Int32.ofInt 1 = 1 by decide)) (by decide) rfl dX7_endCalls_43 (fun ls hl1 => ?_)
            replace hl := hl1
            clear hl1
            exact J46 (x2 + 1) x3 (zi σ 837 j10 2) _ _ (by omega) (by omega) _ _ _ hw hR (lh_sub hl [1, 2, 0, 3] rfl)
  refine rw_entry (ca1 rfl (ca1 rfl ca0)) (Nat.le_of_ble_eq_true rfl) (fun ls hl1 => ?_)
  replace hl := hl1
  clear hl1
  refine lv_iconst (v := 0) hX.1.1 hX.1.2.1 dX7_endCalls_0 (by decide) ?_
  refine rw_istore_n (lv' := [(2, .int 0), (0, .ref (gS γ 8 0)), (1, .int a1)]) hX hl (by decide) rfl dX7_endCalls_1 rfl (fun ls hl1 => ?_)
  replace hl := hl1
  clear hl1
  refine lv_iconst (v := 0) hX.1.1 hX.1.2.1 dX7_endCalls_2 (by decide) ?_
  refine rw_istore_n (lv' := [(3, .int 0), (2, .int 0), (0, .ref (gS γ 8 0)), (1, .int a1)]) hX hl (by decide) rfl dX7_endCalls_3 rfl (fun ls hl1 => ?_)
  replace hl := hl1
  clear hl1
  exact L4 a1 _ _ _ _ (by omega) (by omega) _ _ _ hw hR (lh_sub hl [2, 3, 1, 0] rfl)
set_option maxHeartbeats 8000000 in
set_option maxRecDepth 100000 in
theorem C_f8_letMaps (l : Launch) (γ : GT) (ad : Nat → Nat → Nat) {fu : Nat} (a1 : Int32) (σ : St) (σ' : St) (hw : f8_letMaps fu a1 σ = some σ') : Met l yX7_letMaps (Cond.code yX7_letMaps cX7_letMaps 3 (Option.none : Option Jvm.ClassFile.FieldType) :: GW) (rmo 1 0 0) (va_Pc [.ref (gS γ 8 0), .int a1] (RU γ ad σ)) (QV γ ad σ') 0 0 (gA γ) := by
  refine Met.ofW (cc := cX7_letMaps) (maxL := 3) (ret := (Option.none : Option Jvm.ClassFile.FieldType)) (by decide +kernel) rfl ?_
  intro p e s m args below meth c s₁ B hml hv
  obtain ⟨rfl, hU⟩ := hv
  obtain ⟨hX, hR⟩ := cx_of (own := RX7) B hml rfl hU
  have hr := B.returns
  have hlocks := B.notSynchronized
  have hc0 : (0 : Nat) ≤ 0 := Nat.le_refl 0
  show W p l e (rmo 1 0 0) s m ([.ref (gS γ 8 0), .int a1] : List Value).toArray below meth c s.heap [] 0 0 (MQ below (QV γ ad σ') ([.ref (gS γ 8 0), .int a1] : List Value).toArray s 0 0 (gA γ)) (entryFrame m ([.ref (gS γ 8 0), .int a1] : List Value).toArray 3)
  unfold f8_letMaps at hw
  have L2 : ∀ (x1 : Int32) (n : Nat) (s9 : (Int32 × St)) (cells slots : Nat), cells ≤ 0 → slots ≤ 0 → ∀ (H : Heap) (locs : List Loc) (ls : Array Slot), lp (fun s8 => f8_letMaps_b2 fu x1 s8.1 s8.2) n s9 = some σ' → RS γ ad (s9.2) s H locs → lh ls 3 [(0, .ref (gS γ 8 0)), (1, .int x1), (2, .int s9.1)] → W p l e (rmo 1 0 0) s m ([.ref (gS γ 8 0), .int a1] : List Value).toArray below meth c H locs cells slots (MQ below (QV γ ad σ') ([.ref (gS γ 8 0), .int a1] : List Value).toArray s 0 0 (gA γ)) (F0 m 2 ls []) := by
    intro x1 n2
    induction n2 with
    | zero => intro s9 cells slots hc1 hc2 H locs ls hw hR hl; exact (lp_zero hw).elim
    | succ n2 ih2 =>
      intro s9 cells slots hc1 hc2 H locs ls hw hR hl
      obtain ⟨o2, hw1, hb2, ho2⟩ := lp_succ hw
      replace hw := hw1
      clear hw1
      obtain ⟨x2, σ⟩ := s9
      replace hw : f8_letMaps_b2 fu x1 x2 σ = some o2 := hw
      replace hR : RS γ ad σ s H locs := hR
      replace hl : lh ls 3 [(0, .ref (gS γ 8 0)), (1, .int x1), (2, .int x2)] := hl
      unfold f8_letMaps_b2 at hw
      have J33 : ∀ (x2 : Int32) (y1 : Int32) (y2 : Int32) (σ : St) (cells slots : Nat), cells ≤ 0 → slots ≤ 0 → ∀ (H : Heap) (locs : List Loc) (ls : Array Slot), f8_letMaps_j33 fu x1 x2 y1 y2 σ = some o2 → RS γ ad σ s H locs → lh ls 3 [(0, .ref (gS γ 8 0)), (1, .int x1), (2, .int x2)] → W p l e (rmo 1 0 0) s m ([.ref (gS γ 8 0), .int a1] : List Value).toArray below meth c H locs cells slots (MQ below (QV γ ad σ') ([.ref (gS γ 8 0), .int a1] : List Value).toArray s 0 0 (gA γ)) (F0 m 33 ls [.int y2, .int y1, .ref (gS γ 1839 0)]) := by
        intro x2 y1 y2 σ cells slots hc1 hc2 H locs ls hw hR hl
        unfold f8_letMaps_j33 at hw
        obtain ⟨h8, hw1⟩ := ar_some hw
        replace hw := hw1
        clear hw1
        obtain ⟨j7, ej7⟩ : ∃ j, (y1 : Int32).toNatClampNeg = j := ⟨_, rfl⟩
        rw [ej7] at hw
        refine rw_iast hX hR 839 (n := 16) (i := y1) (x := y2) rfl (by decide) rfl rfl h8 dX7_letMaps_33 (fun σ1 H locs e1 hR1 => ?_)
        replace hR := hR1
        clear hR1
        rw [ej7] at e1
        subst e1
        refine rw_iinc (k := 2) (v := (x2 + 1)) (lv' := [(2, .int (x2 + 1)), (0, .ref (gS γ 8 0)), (1, .int x1)]) hX hl rfl (congrArg (fun q => x2 + q) (show Int32.ofInt 1 = 1 by decide)) (by decide) rfl dX7_letMaps_34 (fun ls hl1 => ?_)
        replace hl := hl1
        clear hl1
        refine lv_goto (tgt := 2) hX.1.1 hX.1.2.1 dX7_letMaps_37 (by decide) ?_
        exact ih2 _ _ _ (by omega) (by omega) _ _ _ (lp_back hw hb2) hR (lh_sub hl [1, 2, 0] rfl)
      refine rw_iload_n hX hl 2 rfl dX7_letMaps_2 rfl ?_
      refine lv_bipush (v := 16) hX.1.1 hX.1.2.1 dX7_letMaps_3 (by decide) ?_
      refine lv_icmp_ge (x := x2) (y := 16) (tgt := 40) hX.1.1 hX.1.2.1 dX7_letMaps_5 (by decide) (fun c1 => ?_) (fun c1 => ?_)
      · replace hw := if_t hw c1
        replace hw := lp_out hw ho2
        refine W.widen (k := 0) (n := 0) (by omega) (by omega) ?_
        exact rq_ve hX hR hr hw dX7_letMaps_40 hlocks
      · replace hw := if_f hw c1
        refine rw_aload_n hX hl 0 rfl (Or.inr ⟨_, rfl⟩) dX7_letMaps_8 rfl ?_
        refine rw_get hX hR 8 39 0 (C := RX7) (T := TX7) (N := 48) rfl (by decide) (Nat.le_of_ble_eq_true rfl) rfl (v := .ref (gS γ 1839 0)) rfl uw_X7 gw_967 rfl dX7_letMaps_9 ?_
        refine rw_iload_n hX hl 2 rfl dX7_letMaps_12 rfl ?_
        refine rw_aload_n hX hl 0 rfl (Or.inr ⟨_, rfl⟩) dX7_letMaps_13 rfl ?_
        refine rw_get hX hR 8 39 0 (C := RX7) (T := TX7) (N := 48) rfl (by decide) (Nat.le_of_ble_eq_true rfl) rfl (v := .ref (gS γ 1839 0)) rfl uw_X7 gw_967 rfl dX7_letMaps_14 ?_
        refine rw_iload_n hX hl 2 rfl dX7_letMaps_17 rfl ?_
        obtain ⟨h3, hw1⟩ := ar_some hw
        replace hw := hw1
        clear hw1
        obtain ⟨j2, ej2⟩ : ∃ j, (x2 : Int32).toNatClampNeg = j := ⟨_, rfl⟩
        rw [ej2] at hw
        refine rw_iald hX hR 839 (n := 16) (i := x2) (v := (gi σ 839 j2)) rfl (by decide) rfl rfl h3 (by rw [ej2]) dX7_letMaps_18 ?_
        refine rw_iload_n hX hl 1 rfl dX7_letMaps_19 rfl ?_
        refine lv_icmp_ne (x := (gi σ 839 j2)) (y := x1) (tgt := 27) hX.1.1 hX.1.2.1 dX7_letMaps_20 (by decide) (fun c4 => ?_) (fun c4 => ?_)
        · replace hw := if_f hw c4
          refine rw_aload_n hX hl 0 rfl (Or.inr ⟨_, rfl⟩) dX7_letMaps_27 rfl ?_
          refine rw_get hX hR 8 39 0 (C := RX7) (T := TX7) (N := 48) rfl (by decide) (Nat.le_of_ble_eq_true rfl) rfl (v := .ref (gS γ 1839 0)) rfl uw_X7 gw_967 rfl dX7_letMaps_28 ?_
          refine rw_iload_n hX hl 2 rfl dX7_letMaps_31 rfl ?_
          obtain ⟨h6, hw1⟩ := ar_some hw
          replace hw := hw1
          clear hw1
          obtain ⟨j5, ej5⟩ : ∃ j, (x2 : Int32).toNatClampNeg = j := ⟨_, rfl⟩
          rw [ej5] at hw
          refine rw_iald hX hR 839 (n := 16) (i := x2) (v := (gi σ 839 j5)) rfl (by decide) rfl rfl h6 (by rw [ej5]) dX7_letMaps_32 ?_
          exact J33 x2 x2 (gi σ 839 j5) σ _ _ (by omega) (by omega) _ _ _ hw hR (lh_sub hl [0, 1, 2] rfl)
        · replace hw := if_t hw c4
          refine lv_iconst (v := (-1)) hX.1.1 hX.1.2.1 dX7_letMaps_23 (by decide) ?_
          refine lv_goto (tgt := 33) hX.1.1 hX.1.2.1 dX7_letMaps_24 (by decide) ?_
          exact J33 x2 x2 (-1) σ _ _ (by omega) (by omega) _ _ _ hw hR (lh_sub hl [0, 1, 2] rfl)
  refine rw_entry (ca1 rfl (ca1 rfl ca0)) (Nat.le_of_ble_eq_true rfl) (fun ls hl1 => ?_)
  replace hl := hl1
  clear hl1
  refine lv_iconst (v := 0) hX.1.1 hX.1.2.1 dX7_letMaps_0 (by decide) ?_
  refine rw_istore_n (lv' := [(2, .int 0), (0, .ref (gS γ 8 0)), (1, .int a1)]) hX hl (by decide) rfl dX7_letMaps_1 rfl (fun ls hl1 => ?_)
  replace hl := hl1
  clear hl1
  exact L2 a1 _ _ _ _ (by omega) (by omega) _ _ _ hw hR (lh_sub hl [1, 2, 0] rfl)
set_option maxHeartbeats 8000000 in
set_option maxRecDepth 100000 in
theorem C_f8_lastOf (l : Launch) (γ : GT) (ad : Nat → Nat → Nat) {fu : Nat} (a1 : Int32) (σ : St) (r : Int32) (hw : f8_lastOf fu a1 σ = some r) : Met l yX7_lastOf (Cond.code yX7_lastOf cX7_lastOf 4 (Option.some Jvm.ClassFile.FieldType.int) :: GW) (rmo 2 0 0) (va_Pc [.ref (gS γ 8 0), .int a1] (RU γ ad σ)) (QI γ ad σ r) 0 0 (gA γ) := by
  refine Met.ofW (cc := cX7_lastOf) (maxL := 4) (ret := (Option.some Jvm.ClassFile.FieldType.int)) (by decide +kernel) rfl ?_
  intro p e s m args below meth c s₁ B hml hv
  obtain ⟨rfl, hU⟩ := hv
  obtain ⟨hX, hR⟩ := cx_of (own := RX7) B hml rfl hU
  have hr := B.returns
  have hlocks := B.notSynchronized
  have hc0 : (0 : Nat) ≤ 0 := Nat.le_refl 0
  show W p l e (rmo 2 0 0) s m ([.ref (gS γ 8 0), .int a1] : List Value).toArray below meth c s.heap [] 0 0 (MQ below (QI γ ad σ r) ([.ref (gS γ 8 0), .int a1] : List Value).toArray s 0 0 (gA γ)) (entryFrame m ([.ref (gS γ 8 0), .int a1] : List Value).toArray 4)
  unfold f8_lastOf at hw
  have L4 : ∀ (x1 : Int32) (n : Nat) (s9 : (Int32 × Int32)) (cells slots : Nat), cells ≤ 0 → slots ≤ 0 → ∀ (H : Heap) (locs : List Loc) (ls : Array Slot), lp (fun s8 => f8_lastOf_b4 fu x1 s8.1 s8.2 σ) n s9 = some r → RS γ ad σ s H locs → lh ls 4 [(0, .ref (gS γ 8 0)), (1, .int x1), (2, .int s9.1), (3, .int s9.2)] → W p l e (rmo 2 0 0) s m ([.ref (gS γ 8 0), .int a1] : List Value).toArray below meth c H locs cells slots (MQ below (QI γ ad σ r) ([.ref (gS γ 8 0), .int a1] : List Value).toArray s 0 0 (gA γ)) (F0 m 4 ls []) := by
    intro x1 n4
    induction n4 with
    | zero => intro s9 cells slots hc1 hc2 H locs ls hw hR hl; exact (lp_zero hw).elim
    | succ n4 ih4 =>
      intro s9 cells slots hc1 hc2 H locs ls hw hR hl
      obtain ⟨o4, hw1, hb4, ho4⟩ := lp_succ hw
      replace hw := hw1
      clear hw1
      obtain ⟨x2, x3⟩ := s9
      replace hw : f8_lastOf_b4 fu x1 x2 x3 σ = some o4 := hw
      replace hl : lh ls 4 [(0, .ref (gS γ 8 0)), (1, .int x1), (2, .int x2), (3, .int x3)] := hl
      unfold f8_lastOf_b4 at hw
      have J53 : ∀ (x3 : Int32) (y0 : Int32) (cells slots : Nat), cells ≤ 0 → slots ≤ 0 → ∀ (H : Heap) (locs : List Loc) (ls : Array Slot), f8_lastOf_j53 fu x1 x3 y0 σ = some o4 → RS γ ad σ s H locs → lh ls 4 [(0, .ref (gS γ 8 0)), (1, .int x1), (3, .int x3)] → W p l e (rmo 2 0 0) s m ([.ref (gS γ 8 0), .int a1] : List Value).toArray below meth c H locs cells slots (MQ below (QI γ ad σ r) ([.ref (gS γ 8 0), .int a1] : List Value).toArray s 0 0 (gA γ)) (F0 m 53 ls [.int y0]) := by
        intro x3 y0 cells slots hc1 hc2 H locs ls hw hR hl
        unfold f8_lastOf_j53 at hw
        refine rw_istore_n (lv' := [(2, .int y0), (0, .ref (gS γ 8 0)), (1, .int x1), (3, .int x3)]) hX hl (by decide) rfl dX7_lastOf_53 rfl (fun ls hl1 => ?_)
        replace hl := hl1
        clear hl1
        refine rw_iinc (k := 3) (v := (x3 + 1)) (lv' := [(3, .int (x3 + 1)), (2, .int y0), (0, .ref (gS γ 8 0)), (1, .int x1)]) hX hl rfl (congrArg (fun q => x3 + q) (show Int32.ofInt 1 = 1 by decide)) (by decide) rfl dX7_lastOf_54 (fun ls hl1 => ?_)
        replace hl := hl1
        clear hl1
        refine lv_goto (tgt := 4) hX.1.1 hX.1.2.1 dX7_lastOf_57 (by decide) ?_
        exact ih4 _ _ _ (by omega) (by omega) _ _ _ (lp_back hw hb4) hR (lh_sub hl [2, 3, 1, 0] rfl)
      have J52 : ∀ (x2 : Int32) (x3 : Int32) (cells slots : Nat), cells ≤ 0 → slots ≤ 0 → ∀ (H : Heap) (locs : List Loc) (ls : Array Slot), f8_lastOf_j52 fu x1 x2 x3 σ = some o4 → RS γ ad σ s H locs → lh ls 4 [(0, .ref (gS γ 8 0)), (1, .int x1), (2, .int x2), (3, .int x3)] → W p l e (rmo 2 0 0) s m ([.ref (gS γ 8 0), .int a1] : List Value).toArray below meth c H locs cells slots (MQ below (QI γ ad σ r) ([.ref (gS γ 8 0), .int a1] : List Value).toArray s 0 0 (gA γ)) (F0 m 52 ls []) := by
        intro x2 x3 cells slots hc1 hc2 H locs ls hw hR hl
        unfold f8_lastOf_j52 at hw
        refine rw_iload_n hX hl 2 rfl dX7_lastOf_52 rfl ?_
        exact J53 x3 x2 _ _ (by omega) (by omega) _ _ _ hw hR (lh_sub hl [0, 1, 3] rfl)
      have J48 : ∀ (x3 : Int32) (cells slots : Nat), cells ≤ 0 → slots ≤ 0 → ∀ (H : Heap) (locs : List Loc) (ls : Array Slot), f8_lastOf_j48 fu x1 x3 σ = some o4 → RS γ ad σ s H locs → lh ls 4 [(0, .ref (gS γ 8 0)), (1, .int x1), (3, .int x3)] → W p l e (rmo 2 0 0) s m ([.ref (gS γ 8 0), .int a1] : List Value).toArray below meth c H locs cells slots (MQ below (QI γ ad σ r) ([.ref (gS γ 8 0), .int a1] : List Value).toArray s 0 0 (gA γ)) (F0 m 48 ls []) := by
        intro x3 cells slots hc1 hc2 H locs ls hw hR hl
        unfold f8_lastOf_j48 at hw
        refine rw_iload_n hX hl 2 rfl dX7_lastOf_48 rfl ?_
        refine lv_goto (tgt := 53) hX.1.1 hX.1.2.1 dX7_lastOf_49 (by decide) ?_
        exact J53 x3 x3 _ _ (by omega) (by omega) _ _ _ hw hR (lh_sub hl [0, 1, 2] rfl)
      refine rw_iload_n hX hl 3 rfl dX7_lastOf_4 rfl ?_
      refine rw_aload_n hX hl 0 rfl (Or.inr ⟨_, rfl⟩) dX7_lastOf_5 rfl ?_
      refine rw_get hX hR 8 3 0 (C := RX7) (T := TX7) (N := 48) rfl (by decide) (Nat.le_of_ble_eq_true rfl) rfl (v := .int (gi σ 803 0)) rfl uw_X7 gw_931 rfl dX7_lastOf_6 ?_
      refine lv_icmp_ge (x := x3) (y := (gi σ 803 0)) (tgt := 60) hX.1.1 hX.1.2.1 dX7_lastOf_9 (by decide) (fun c1 => ?_) (fun c1 => ?_)
      · replace hw := if_t hw c1
        replace hw := lp_out hw ho4
        refine rw_iload_n hX hl 2 rfl dX7_lastOf_60 rfl ?_
        refine W.widen (k := 0) (n := 0) (by omega) (by omega) ?_
        exact rq_i hX hR hr hw dX7_lastOf_61 hlocks
      · replace hw := if_f hw c1
        refine rw_iload_n hX hl 1 rfl dX7_lastOf_12 rfl ?_
        refine rw_iload_n hX hl 3 rfl dX7_lastOf_13 rfl ?_
        obtain ⟨v2, g4, hw1⟩ := ob1_some hw
        replace hw := hw1
        clear hw1
        refine rw_cSi hX hR pk_f8_has (mc := 0) (ms := 0) ⟨rfl, rfl, (show 1 + 1 ≤ 2 by omega), (show 8 + (2 + 11) + 64 * 1 ≤ 64 * 2 by omega)⟩ (As := [.int x1, .int x3]) (rest := []) rfl (C_f8_has l γ ad x1 x3 σ v2 g4) gw_1145 gw_1146 rfl hl.1 ca0 (Nat.le_of_ble_eq_true rfl) dX7_lastOf_14 ⟨(show cells + 0 ≤ 0 by omega), (show slots + 0 ≤ 0 by omega)⟩ (fun H locs hR1 => ?_)
        replace hR := hR1
        clear hR1
        refine rw_ifeqZ (b := v2) (tgt := 52) hX dX7_lastOf_17 (by decide) (fun c5 => ?_) (fun c5 => ?_)
        · replace hw := if_f hw c5
          exact J52 x2 x3 _ _ (by omega) (by omega) _ _ _ hw hR (lh_sub hl [0, 1, 2, 3] rfl)
        · replace hw := if_t hw c5
          refine rw_aload_n hX hl 0 rfl (Or.inr ⟨_, rfl⟩) dX7_lastOf_20 rfl ?_
          refine rw_iload_n hX hl 3 rfl dX7_lastOf_21 rfl ?_
          obtain ⟨v6, g8, hw1⟩ := ob1_some hw
          replace hw := hw1
          clear hw1
          refine rw_cVi hX hR pk_f8_isBound (mc := 0) (ms := 0) ⟨rfl, rfl, (show 1 + 1 ≤ 2 by omega), (show 8 + (2 + 11) + 64 * 1 ≤ 64 * 2 by omega)⟩ (As := [.int x3]) (rest := []) rfl (C_f8_isBound l γ ad x3 σ v6 g8) gw_1097 gw_1099 gs_55 (rs_recv hX hR 8 0 (C := RX7) (T := TX7) (N := 48) rfl (by decide) (Nat.le_of_ble_eq_true rfl) rfl) rfl hl.1 ca0 (Nat.le_of_ble_eq_true rfl) dX7_lastOf_22 ⟨(show (cells + 0) + 0 ≤ 0 by omega), (show (slots + 0) + 0 ≤ 0 by omega)⟩ (fun H locs hR1 => ?_)
          replace hR := hR1
          clear hR1
          refine rw_ifeqZ (b := v6) (tgt := 52) hX dX7_lastOf_25 (by decide) (fun c9 => ?_) (fun c9 => ?_)
          · replace hw := if_f hw c9
            exact J52 x2 x3 _ _ (by omega) (by omega) _ _ _ hw hR (lh_sub hl [0, 1, 2, 3] rfl)
          · replace hw := if_t hw c9
            refine rw_iload_n hX hl 2 rfl dX7_lastOf_28 rfl ?_
            refine lv_iconst (v := (-1)) hX.1.1 hX.1.2.1 dX7_lastOf_29 (by decide) ?_
            refine lv_icmp_eq (x := x2) (y := (-1)) (tgt := 48) hX.1.1 hX.1.2.1 dX7_lastOf_30 (by decide) (fun c10 => ?_) (fun c10 => ?_)
            · replace hw := if_t hw c10
              exact J48 x3 _ _ (by omega) (by omega) _ _ _ hw hR (lh_sub hl [0, 1, 3] rfl)
            · replace hw := if_f hw c10
              refine rw_aload_n hX hl 0 rfl (Or.inr ⟨_, rfl⟩) dX7_lastOf_33 rfl ?_
              refine rw_get hX hR 8 20 0 (C := RX7) (T := TX7) (N := 48) rfl (by decide) (Nat.le_of_ble_eq_true rfl) rfl (v := .ref (gS γ 1820 0)) rfl uw_X7 gw_948 rfl dX7_lastOf_34 ?_
              refine rw_iload_n hX hl 3 rfl dX7_lastOf_37 rfl ?_
              obtain ⟨h12, hw1⟩ := ar_some hw
              replace hw := hw1
              clear hw1
              obtain ⟨j11, ej11⟩ : ∃ j, (x3 : Int32).toNatClampNeg = j := ⟨_, rfl⟩
              rw [ej11] at hw
              refine rw_iald hX hR 820 (n := 24) (i := x3) (v := (gi σ 820 j11)) rfl (by decide) rfl rfl h12 (by rw [ej11]) dX7_lastOf_38 ?_
              refine rw_aload_n hX hl 0 rfl (Or.inr ⟨_, rfl⟩) dX7_lastOf_39 rfl ?_
              refine rw_get hX hR 8 20 0 (C := RX7) (T := TX7) (N := 48) rfl (by decide) (Nat.le_of_ble_eq_true rfl) rfl (v := .ref (gS γ 1820 0)) rfl uw_X7 gw_948 rfl dX7_lastOf_40 ?_
              refine rw_iload_n hX hl 2 rfl dX7_lastOf_43 rfl ?_
              obtain ⟨h14, hw1⟩ := ar_some hw
              replace hw := hw1
              clear hw1
              obtain ⟨j13, ej13⟩ : ∃ j, (x2 : Int32).toNatClampNeg = j := ⟨_, rfl⟩
              rw [ej13] at hw
              refine rw_iald hX hR 820 (n := 24) (i := x2) (v := (gi σ 820 j13)) rfl (by decide) rfl rfl h14 (by rw [ej13]) dX7_lastOf_44 ?_
              refine lv_icmp_le (x := (gi σ 820 j11)) (y := (gi σ 820 j13)) (tgt := 52) hX.1.1 hX.1.2.1 dX7_lastOf_45 (by decide) (fun c15 => ?_) (fun c15 => ?_)
              · replace hw := if_t hw c15
                exact J52 x2 x3 _ _ (by omega) (by omega) _ _ _ hw hR (lh_sub hl [0, 1, 2, 3] rfl)
              · replace hw := if_f hw c15
                exact J48 x3 _ _ (by omega) (by omega) _ _ _ hw hR (lh_sub hl [0, 1, 3] rfl)
  refine rw_entry (ca1 rfl (ca1 rfl ca0)) (Nat.le_of_ble_eq_true rfl) (fun ls hl1 => ?_)
  replace hl := hl1
  clear hl1
  refine lv_iconst (v := (-1)) hX.1.1 hX.1.2.1 dX7_lastOf_0 (by decide) ?_
  refine rw_istore_n (lv' := [(2, .int (-1)), (0, .ref (gS γ 8 0)), (1, .int a1)]) hX hl (by decide) rfl dX7_lastOf_1 rfl (fun ls hl1 => ?_)
  replace hl := hl1
  clear hl1
  refine lv_iconst (v := 0) hX.1.1 hX.1.2.1 dX7_lastOf_2 (by decide) ?_
  refine rw_istore_n (lv' := [(3, .int 0), (2, .int (-1)), (0, .ref (gS γ 8 0)), (1, .int a1)]) hX hl (by decide) rfl dX7_lastOf_3 rfl (fun ls hl1 => ?_)
  replace hl := hl1
  clear hl1
  exact L4 a1 _ _ _ _ (by omega) (by omega) _ _ _ hw hR (lh_sub hl [2, 3, 1, 0] rfl)
set_option maxHeartbeats 8000000 in
set_option maxRecDepth 100000 in
theorem C_f8_unbindAll (l : Launch) (γ : GT) (ad : Nat → Nat → Nat) {fu : Nat} (a1 : Int32) (σ : St) (r : Int32) (σ' : St) (hw : f8_unbindAll fu a1 σ = some (r, σ')) : Met l yX7_unbindAll (Cond.code yX7_unbindAll cX7_unbindAll 6 (Option.some Jvm.ClassFile.FieldType.int) :: GW) (rmo 3 0 0) (va_Pc [.ref (gS γ 8 0), .int a1] (RU γ ad σ)) (QI γ ad σ' r) 0 0 (gA γ) := by
  refine Met.ofW (cc := cX7_unbindAll) (maxL := 6) (ret := (Option.some Jvm.ClassFile.FieldType.int)) (by decide +kernel) rfl ?_
  intro p e s m args below meth c s₁ B hml hv
  obtain ⟨rfl, hU⟩ := hv
  obtain ⟨hX, hR⟩ := cx_of (own := RX7) B hml rfl hU
  have hr := B.returns
  have hlocks := B.notSynchronized
  have hc0 : (0 : Nat) ≤ 0 := Nat.le_refl 0
  show W p l e (rmo 3 0 0) s m ([.ref (gS γ 8 0), .int a1] : List Value).toArray below meth c s.heap [] 0 0 (MQ below (QI γ ad σ' r) ([.ref (gS γ 8 0), .int a1] : List Value).toArray s 0 0 (gA γ)) (entryFrame m ([.ref (gS γ 8 0), .int a1] : List Value).toArray 6)
  unfold f8_unbindAll at hw
  have L76 : ∀ (x2 : Int32) (n : Nat) (s9 : (Int32 × Int32 × St)) (cells slots : Nat), cells ≤ 0 → slots ≤ 0 → ∀ (H : Heap) (locs : List Loc) (ls : Array Slot), lp (fun s8 => f8_unbindAll_b76 fu x2 s8.1 s8.2.1 s8.2.2) n s9 = some (r, σ') → RS γ ad (s9.2.2) s H locs → lh ls 6 [(0, .ref (gS γ 8 0)), (2, .int x2), (3, .int s9.1), (4, .int s9.2.1)] → W p l e (rmo 3 0 0) s m ([.ref (gS γ 8 0), .int a1] : List Value).toArray below meth c H locs cells slots (MQ below (QI γ ad σ' r) ([.ref (gS γ 8 0), .int a1] : List Value).toArray s 0 0 (gA γ)) (F0 m 76 ls []) := by
    intro x2 n76
    induction n76 with
    | zero => intro s9 cells slots hc1 hc2 H locs ls hw hR hl; exact (lp_zero hw).elim
    | succ n76 ih76 =>
      intro s9 cells slots hc1 hc2 H locs ls hw hR hl
      obtain ⟨o76, hw1, hb76, ho76⟩ := lp_succ hw
      replace hw := hw1
      clear hw1
      obtain ⟨x3, x4, σ⟩ := s9
      replace hw : f8_unbindAll_b76 fu x2 x3 x4 σ = some o76 := hw
      replace hR : RS γ ad σ s H locs := hR
      replace hl : lh ls 6 [(0, .ref (gS γ 8 0)), (2, .int x2), (3, .int x3), (4, .int x4)] := hl
      unfold f8_unbindAll_b76 at hw
      refine rw_iload hX hl 3 rfl dX7_unbindAll_76 ?_
      refine lv_iconst (v := (-1)) hX.1.1 hX.1.2.1 dX7_unbindAll_78 (by decide) ?_
      refine lv_icmp_eq (x := x4) (y := (-1)) (tgt := 167) hX.1.1 hX.1.2.1 dX7_unbindAll_79 (by decide) (fun c5 => ?_) (fun c5 => ?_)
      · replace hw := if_t hw c5
        replace hw := lp_out hw ho76
        refine rw_iload_n hX hl 2 rfl dX7_unbindAll_167 rfl ?_
        refine W.widen (k := 0) (n := 0) (by omega) (by omega) ?_
        exact rq_ie hX hR hr hw dX7_unbindAll_168 hlocks
      · replace hw := if_f hw c5
        refine rw_aload_n hX hl 0 rfl (Or.inr ⟨_, rfl⟩) dX7_unbindAll_82 rfl ?_
        refine rw_iload hX hl 3 rfl dX7_unbindAll_83 ?_
        obtain ⟨v6, σ7, g8, hw1⟩ := ob2_some hw
        replace hw := hw1
        clear hw1
        refine rw_cVi hX hR pk_f8_endCalls (mc := 0) (ms := 0) ⟨rfl, rfl, (show 1 + 1 ≤ 3 by omega), (show 8 + (4 + 11) + 64 * 1 ≤ 64 * 3 by omega)⟩ (As := [.int x4]) (rest := []) rfl (C_f8_endCalls l γ ad x4 σ v6 σ7 g8) gw_1156 gw_1158 gs_68 (rs_recv hX hR 8 0 (C := RX7) (T := TX7) (N := 48) rfl (by decide) (Nat.le_of_ble_eq_true rfl) rfl) rfl hl.1 ca0 (Nat.le_of_ble_eq_true rfl) dX7_unbindAll_85 ⟨(show cells + 0 ≤ 0 by omega), (show slots + 0 ≤ 0 by omega)⟩ (fun H locs hR1 => ?_)
        replace hR := hR1
        clear hR1
        refine rw_istore (lv' := [(5, .int v6), (0, .ref (gS γ 8 0)), (2, .int x2), (3, .int x3), (4, .int x4)]) hX hl (by decide) rfl dX7_unbindAll_88 (fun ls hl1 => ?_)
        replace hl := hl1
        clear hl1
        refine rw_aload_n hX hl 1 rfl (Or.inr ⟨_, rfl⟩) dX7_unbindAll_90 rfl ?_
        refine rw_iload hX hl 4 rfl dX7_unbindAll_91 ?_
        obtain ⟨σ10, g11, hw1⟩ := ob1_some hw
        replace hw := hw1
        clear hw1
        refine rw_cVv hX hR pk_f8_letMaps (mc := 0) (ms := 0) ⟨rfl, rfl, (show 1 + 1 ≤ 3 by omega), (show 8 + (3 + 11) + 64 * 1 ≤ 64 * 3 by omega)⟩ (As := [.int x4]) (rest := []) rfl (C_f8_letMaps l γ ad x4 σ7 σ10 g11) gw_1160 gw_1162 gs_69 (rs_recv hX hR 8 0 (C := RX7) (T := TX7) (N := 48) rfl (by decide) (Nat.le_of_ble_eq_true rfl) rfl) rfl hl.1 ca0 (Nat.le_of_ble_eq_true rfl) dX7_unbindAll_93 ⟨(show (cells + 0) + 0 ≤ 0 by omega), (show (slots + 0) + 0 ≤ 0 by omega)⟩ (fun H locs hR1 => ?_)
        replace hR := hR1
        clear hR1
        refine rw_aload_n hX hl 1 rfl (Or.inr ⟨_, rfl⟩) dX7_unbindAll_96 rfl ?_
        refine rw_get hX hR 8 12 0 (C := RX7) (T := TX7) (N := 48) rfl (by decide) (Nat.le_of_ble_eq_true rfl) rfl (v := .ref (gS γ 1812 0)) rfl uw_X7 gw_940 rfl dX7_unbindAll_97 ?_
        refine rw_iload hX hl 4 rfl dX7_unbindAll_100 ?_
        refine lv_iconst (v := (-1)) hX.1.1 hX.1.2.1 dX7_unbindAll_102 (by decide) ?_
        obtain ⟨h13, hw1⟩ := ar_some hw
        replace hw := hw1
        clear hw1
        obtain ⟨j12, ej12⟩ : ∃ j, (x4 : Int32).toNatClampNeg = j := ⟨_, rfl⟩
        rw [ej12] at hw
        refine rw_iast hX hR 812 (n := 24) (i := x4) (x := (-1)) rfl (by decide) rfl rfl h13 dX7_unbindAll_103 (fun σ1 H locs e1 hR1 => ?_)
        replace hR := hR1
        clear hR1
        rw [ej12] at e1
        subst e1
        refine rw_aload_n hX hl 1 rfl (Or.inr ⟨_, rfl⟩) dX7_unbindAll_104 rfl ?_
        refine rw_get hX hR 8 13 0 (C := RX7) (T := TX7) (N := 48) rfl (by decide) (Nat.le_of_ble_eq_true rfl) rfl (v := .ref (gS γ 1813 0)) rfl uw_X7 gw_941 rfl dX7_unbindAll_105 ?_
        refine rw_iload hX hl 4 rfl dX7_unbindAll_108 ?_
        refine lv_iconst (v := 0) hX.1.1 hX.1.2.1 dX7_unbindAll_110 (by decide) ?_
        obtain ⟨h15, hw1⟩ := ar_some hw
        replace hw := hw1
        clear hw1
        obtain ⟨j14, ej14⟩ : ∃ j, (x4 : Int32).toNatClampNeg = j := ⟨_, rfl⟩
        rw [ej14] at hw
        refine rw_zast hX hR 813 (n := 24) (i := x4) (x := false) rfl (by decide) rfl rfl h15 dX7_unbindAll_111 (fun σ1 H locs e1 hR1 => ?_)
        replace hR := hR1
        clear hR1
        rw [ej14] at e1
        subst e1
        refine rw_aload_n hX hl 1 rfl (Or.inr ⟨_, rfl⟩) dX7_unbindAll_112 rfl ?_
        refine rw_get hX hR 8 14 0 (C := RX7) (T := TX7) (N := 48) rfl (by decide) (Nat.le_of_ble_eq_true rfl) rfl (v := .ref (gS γ 1814 0)) rfl uw_X7 gw_942 rfl dX7_unbindAll_113 ?_
        refine rw_iload hX hl 4 rfl dX7_unbindAll_116 ?_
        refine lv_iconst (v := (-1)) hX.1.1 hX.1.2.1 dX7_unbindAll_118 (by decide) ?_
        obtain ⟨h17, hw1⟩ := ar_some hw
        replace hw := hw1
        clear hw1
        obtain ⟨j16, ej16⟩ : ∃ j, (x4 : Int32).toNatClampNeg = j := ⟨_, rfl⟩
        rw [ej16] at hw
        refine rw_iast hX hR 814 (n := 24) (i := x4) (x := (-1)) rfl (by decide) rfl rfl h17 dX7_unbindAll_119 (fun σ1 H locs e1 hR1 => ?_)
        replace hR := hR1
        clear hR1
        rw [ej16] at e1
        subst e1
        refine rw_aload_n hX hl 1 rfl (Or.inr ⟨_, rfl⟩) dX7_unbindAll_120 rfl ?_
        refine rw_get hX hR 8 22 0 (C := RX7) (T := TX7) (N := 48) rfl (by decide) (Nat.le_of_ble_eq_true rfl) rfl (v := .ref (gS γ 1822 0)) rfl uw_X7 gw_950 rfl dX7_unbindAll_121 ?_
        refine rw_iload hX hl 4 rfl dX7_unbindAll_124 ?_
        refine lv_iconst (v := 0) hX.1.1 hX.1.2.1 dX7_unbindAll_126 (by decide) ?_
        obtain ⟨h19, hw1⟩ := ar_some hw
        replace hw := hw1
        clear hw1
        obtain ⟨j18, ej18⟩ : ∃ j, (x4 : Int32).toNatClampNeg = j := ⟨_, rfl⟩
        rw [ej18] at hw
        refine rw_zast hX hR 822 (n := 24) (i := x4) (x := false) rfl (by decide) rfl rfl h19 dX7_unbindAll_127 (fun σ1 H locs e1 hR1 => ?_)
        replace hR := hR1
        clear hR1
        rw [ej18] at e1
        subst e1
        refine rw_aload_n hX hl 1 rfl (Or.inr ⟨_, rfl⟩) dX7_unbindAll_128 rfl ?_
        refine rw_get hX hR 8 17 0 (C := RX7) (T := TX7) (N := 48) rfl (by decide) (Nat.le_of_ble_eq_true rfl) rfl (v := .ref (gS γ 1817 0)) rfl uw_X7 gw_945 rfl dX7_unbindAll_129 ?_
        refine rw_iload hX hl 4 rfl dX7_unbindAll_132 ?_
        refine lv_iconst (v := 0) hX.1.1 hX.1.2.1 dX7_unbindAll_134 (by decide) ?_
        obtain ⟨h21, hw1⟩ := ar_some hw
        replace hw := hw1
        clear hw1
        obtain ⟨j20, ej20⟩ : ∃ j, (x4 : Int32).toNatClampNeg = j := ⟨_, rfl⟩
        rw [ej20] at hw
        refine rw_zast hX hR 817 (n := 24) (i := x4) (x := false) rfl (by decide) rfl rfl h21 dX7_unbindAll_135 (fun σ1 H locs e1 hR1 => ?_)
        replace hR := hR1
        clear hR1
        rw [ej20] at e1
        subst e1
        refine rw_aload_n hX hl 1 rfl (Or.inr ⟨_, rfl⟩) dX7_unbindAll_136 rfl ?_
        refine rw_get hX hR 8 19 0 (C := RX7) (T := TX7) (N := 48) rfl (by decide) (Nat.le_of_ble_eq_true rfl) rfl (v := .ref (gS γ 1819 0)) rfl uw_X7 gw_947 rfl dX7_unbindAll_137 ?_
        refine rw_iload hX hl 4 rfl dX7_unbindAll_140 ?_
        refine lv_dup2_11 hX.1.1 hX.1.2.1 dX7_unbindAll_142 rfl rfl ?_
        obtain ⟨h23, hw1⟩ := ar_some hw
        replace hw := hw1
        clear hw1
        obtain ⟨j22, ej22⟩ : ∃ j, (x4 : Int32).toNatClampNeg = j := ⟨_, rfl⟩
        rw [ej22] at hw
        refine rw_iald hX hR 819 (n := 24) (i := x4) (v := (gi (zb (zb (zi (zb (zi σ10 812 j12 (-1)) 813 j14 false) 814 j16 (-1)) 822 j18 false) 817 j20 false) 819 j22)) rfl (by decide) rfl rfl h23 (by rw [ej22]) dX7_unbindAll_143 ?_
        refine lv_iconst (v := 1) hX.1.1 hX.1.2.1 dX7_unbindAll_144 (by decide) ?_
        refine lv_iadd (x := (gi (zb (zb (zi (zb (zi σ10 812 j12 (-1)) 813 j14 false) 814 j16 (-1)) 822 j18 false) 817 j20 false) 819 j22)) (y := 1) hX.1.1 hX.1.2.1 dX7_unbindAll_145 ?_
        obtain ⟨h25, hw1⟩ := ar_some hw
        replace hw := hw1
        clear hw1
        obtain ⟨j24, ej24⟩ : ∃ j, (x4 : Int32).toNatClampNeg = j := ⟨_, rfl⟩
        rw [ej24] at hw
        refine rw_iast hX hR 819 (n := 24) (i := x4) (x := ((gi (zb (zb (zi (zb (zi σ10 812 j12 (-1)) 813 j14 false) 814 j16 (-1)) 822 j18 false) 817 j20 false) 819 j22) + 1)) rfl (by decide) rfl rfl h25 dX7_unbindAll_146 (fun σ1 H locs e1 hR1 => ?_)
        replace hR := hR1
        clear hR1
        rw [ej24] at e1
        subst e1
        refine rw_aload_n hX hl 1 rfl (Or.inr ⟨_, rfl⟩) dX7_unbindAll_147 rfl ?_
        refine lv_iconst (v := 1) hX.1.1 hX.1.2.1 dX7_unbindAll_148 (by decide) ?_
        refine rw_iload hX hl 4 rfl dX7_unbindAll_149 ?_
        obtain ⟨σ27, g28, hw1⟩ := ob1_some hw
        replace hw := hw1
        clear hw1
        refine rw_cVv hX hR pk_f8_event (mc := 0) (ms := 0) ⟨rfl, rfl, (show 1 + 1 ≤ 3 by omega), (show 8 + (3 + 11) + 64 * 1 ≤ 64 * 3 by omega)⟩ (As := [.int 1, .int x4]) (rest := []) rfl (C_f8_event l γ ad 1 x4 (zi (zb (zb (zi (zb (zi σ10 812 j12 (-1)) 813 j14 false) 814 j16 (-1)) 822 j18 false) 817 j20 false) 819 j24 ((gi (zb (zb (zi (zb (zi σ10 812 j12 (-1)) 813 j14 false) 814 j16 (-1)) 822 j18 false) 817 j20 false) 819 j22) + 1)) σ27 g28) gw_1137 gw_1139 gs_65 (rs_recv hX hR 8 0 (C := RX7) (T := TX7) (N := 48) rfl (by decide) (Nat.le_of_ble_eq_true rfl) rfl) rfl hl.1 ca0 (Nat.le_of_ble_eq_true rfl) dX7_unbindAll_151 ⟨(show ((cells + 0) + 0) + 0 ≤ 0 by omega), (show ((slots + 0) + 0) + 0 ≤ 0 by omega)⟩ (fun H locs hR1 => ?_)
        replace hR := hR1
        clear hR1
        refine rw_iinc (k := 3) (v := (x3 + 1)) (lv' := [(3, .int (x3 + 1)), (5, .int v6), (0, .ref (gS γ 8 0)), (2, .int x2), (4, .int x4)]) hX hl rfl (congrArg (fun q => x3 + q) (show Int32.ofInt 1 = 1 by decide)) (by decide) rfl dX7_unbindAll_154 (fun ls hl1 => ?_)
        replace hl := hl1
        clear hl1
        refine rw_aload_n hX hl 2 rfl (Or.inr ⟨_, rfl⟩) dX7_unbindAll_157 rfl ?_
        refine rw_iload_n hX hl 3 rfl dX7_unbindAll_158 rfl ?_
        obtain ⟨v29, g31, hw1⟩ := ob1_some hw
        replace hw := hw1
        clear hw1
        refine rw_cVi hX hR pk_f8_lastOf (mc := 0) (ms := 0) ⟨rfl, rfl, (show 2 + 1 ≤ 3 by omega), (show 8 + (4 + 11) + 64 * 2 ≤ 64 * 3 by omega)⟩ (As := [.int x2]) (rest := []) rfl (C_f8_lastOf l γ ad x2 σ27 v29 g31) gw_1152 gw_1154 gs_67 (rs_recv hX hR 8 0 (C := RX7) (T := TX7) (N := 48) rfl (by decide) (Nat.le_of_ble_eq_true rfl) rfl) rfl hl.1 ca0 (Nat.le_of_ble_eq_true rfl) dX7_unbindAll_159 ⟨(show (((cells + 0) + 0) + 0) + 0 ≤ 0 by omega), (show (((slots + 0) + 0) + 0) + 0 ≤ 0 by omega)⟩ (fun H locs hR1 => ?_)
        replace hR := hR1
        clear hR1
        refine rw_istore (lv' := [(4, .int v29), (3, .int (x3 + 1)), (5, .int v6), (0, .ref (gS γ 8 0)), (2, .int x2)]) hX hl (by decide) rfl dX7_unbindAll_162 (fun ls hl1 => ?_)
        replace hl := hl1
        clear hl1
        refine lv_goto (tgt := 76) hX.1.1 hX.1.2.1 dX7_unbindAll_164 (by decide) ?_
        exact ih76 _ _ _ (by omega) (by omega) _ _ _ (lp_back hw hb76) hR (lh_sub hl [3, 4, 1, 0] rfl)
  have L4 : ∀ (σ : St) (n : Nat) (s9 : (Int32 × Int32)) (cells slots : Nat), cells ≤ 0 → slots ≤ 0 → ∀ (H : Heap) (locs : List Loc) (ls : Array Slot), lp (fun s8 => f8_unbindAll_b4 fu s8.1 s8.2 σ) n s9 = some (r, σ') → RS γ ad σ s H locs → lh ls 6 [(0, .ref (gS γ 8 0)), (2, .int s9.1), (3, .int s9.2)] → W p l e (rmo 3 0 0) s m ([.ref (gS γ 8 0), .int a1] : List Value).toArray below meth c H locs cells slots (MQ below (QI γ ad σ' r) ([.ref (gS γ 8 0), .int a1] : List Value).toArray s 0 0 (gA γ)) (F0 m 4 ls []) := by
    intro σ n4
    induction n4 with
    | zero => intro s9 cells slots hc1 hc2 H locs ls hw hR hl; exact (lp_zero hw).elim
    | succ n4 ih4 =>
      intro s9 cells slots hc1 hc2 H locs ls hw hR hl
      obtain ⟨o4, hw1, hb4, ho4⟩ := lp_succ hw
      replace hw := hw1
      clear hw1
      obtain ⟨x2, x3⟩ := s9
      replace hw : f8_unbindAll_b4 fu x2 x3 σ = some o4 := hw
      replace hl : lh ls 6 [(0, .ref (gS γ 8 0)), (2, .int x2), (3, .int x3)] := hl
      unfold f8_unbindAll_b4 at hw
      have J59 : ∀ (x3 : Int32) (y0 : Int32) (y1 : Int32) (cells slots : Nat), cells ≤ 0 → slots ≤ 0 → ∀ (H : Heap) (locs : List Loc) (ls : Array Slot), f8_unbindAll_j59 fu x3 y0 y1 σ = some o4 → RS γ ad σ s H locs → lh ls 6 [(0, .ref (gS γ 8 0)), (3, .int x3)] → W p l e (rmo 3 0 0) s m ([.ref (gS γ 8 0), .int a1] : List Value).toArray below meth c H locs cells slots (MQ below (QI γ ad σ' r) ([.ref (gS γ 8 0), .int a1] : List Value).toArray s 0 0 (gA γ)) (F0 m 59 ls [.int y1, .int y0]) := by
        intro x3 y0 y1 cells slots hc1 hc2 H locs ls hw hR hl
        unfold f8_unbindAll_j59 at hw
        refine lv_ior (x := y0) (y := y1) hX.1.1 hX.1.2.1 dX7_unbindAll_59 ?_
        refine rw_istore_n (lv' := [(2, .int (y0 ||| y1)), (0, .ref (gS γ 8 0)), (3, .int x3)]) hX hl (by decide) rfl dX7_unbindAll_60 rfl (fun ls hl1 => ?_)
        replace hl := hl1
        clear hl1
        refine rw_iinc (k := 2) (v := (x3 + 1)) (lv' := [(3, .int (x3 + 1)), (2, .int (y0 ||| y1)), (0, .ref (gS γ 8 0))]) hX hl rfl (congrArg (fun q => x3 + q) (show Int32.ofInt 1 = 1 by decide)) (by decide) rfl dX7_unbindAll_61 (fun ls hl1 => ?_)
        replace hl := hl1
        clear hl1
        refine lv_goto (tgt := 4) hX.1.1 hX.1.2.1 dX7_unbindAll_64 (by decide) ?_
        exact ih4 _ _ _ (by omega) (by omega) _ _ _ (lp_back hw hb4) hR (lh_sub hl [2, 1, 0] rfl)
      have J52 : ∀ (x3 : Int32) (y0 : Int32) (cells slots : Nat), cells ≤ 0 → slots ≤ 0 → ∀ (H : Heap) (locs : List Loc) (ls : Array Slot), f8_unbindAll_j52 fu x3 y0 σ = some o4 → RS γ ad σ s H locs → lh ls 6 [(0, .ref (gS γ 8 0)), (3, .int x3)] → W p l e (rmo 3 0 0) s m ([.ref (gS γ 8 0), .int a1] : List Value).toArray below meth c H locs cells slots (MQ below (QI γ ad σ' r) ([.ref (gS γ 8 0), .int a1] : List Value).toArray s 0 0 (gA γ)) (F0 m 52 ls [.int y0]) := by
        intro x3 y0 cells slots hc1 hc2 H locs ls hw hR hl
        unfold f8_unbindAll_j52 at hw
        refine lv_iconst (v := 1) hX.1.1 hX.1.2.1 dX7_unbindAll_52 (by decide) ?_
        refine rw_iload_n hX hl 1 rfl dX7_unbindAll_53 rfl ?_
        refine lv_ishl (x := 1) (y := x3) hX.1.1 hX.1.2.1 dX7_unbindAll_54 ?_
        refine lv_goto (tgt := 59) hX.1.1 hX.1.2.1 dX7_unbindAll_55 (by decide) ?_
        exact J59 x3 y0 (1 <<< (x3 &&& 31)) _ _ (by omega) (by omega) _ _ _ hw hR (lh_sub hl [0, 1] rfl)
      refine rw_iload_n hX hl 2 rfl dX7_unbindAll_4 rfl ?_
      refine rw_aload_n hX hl 0 rfl (Or.inr ⟨_, rfl⟩) dX7_unbindAll_5 rfl ?_
      refine rw_get hX hR 8 3 0 (C := RX7) (T := TX7) (N := 48) rfl (by decide) (Nat.le_of_ble_eq_true rfl) rfl (v := .int (gi σ 803 0)) rfl uw_X7 gw_931 rfl dX7_unbindAll_6 ?_
      refine lv_icmp_ge (x := x3) (y := (gi σ 803 0)) (tgt := 67) hX.1.1 hX.1.2.1 dX7_unbindAll_9 (by decide) (fun c1 => ?_) (fun c1 => ?_)
      · replace hw := if_t hw c1
        replace hw := lp_out hw ho4
        refine lv_iconst (v := 0) hX.1.1 hX.1.2.1 dX7_unbindAll_67 (by decide) ?_
        refine rw_istore_n (lv' := [(3, .int 0), (0, .ref (gS γ 8 0)), (2, .int x2)]) hX hl (by decide) rfl dX7_unbindAll_68 rfl (fun ls hl1 => ?_)
        replace hl := hl1
        clear hl1
        refine rw_aload_n hX hl 1 rfl (Or.inr ⟨_, rfl⟩) dX7_unbindAll_69 rfl ?_
        refine rw_iload_n hX hl 2 rfl dX7_unbindAll_70 rfl ?_
        obtain ⟨v2, g4, hw1⟩ := ob1_some hw
        replace hw := hw1
        clear hw1
        refine rw_cVi hX hR pk_f8_lastOf (mc := 0) (ms := 0) ⟨rfl, rfl, (show 2 + 1 ≤ 3 by omega), (show 8 + (4 + 11) + 64 * 2 ≤ 64 * 3 by omega)⟩ (As := [.int x2]) (rest := []) rfl (C_f8_lastOf l γ ad x2 σ v2 g4) gw_1152 gw_1154 gs_67 (rs_recv hX hR 8 0 (C := RX7) (T := TX7) (N := 48) rfl (by decide) (Nat.le_of_ble_eq_true rfl) rfl) rfl hl.1 ca0 (Nat.le_of_ble_eq_true rfl) dX7_unbindAll_71 ⟨(show cells + 0 ≤ 0 by omega), (show slots + 0 ≤ 0 by omega)⟩ (fun H locs hR1 => ?_)
        replace hR := hR1
        clear hR1
        refine rw_istore (lv' := [(4, .int v2), (3, .int 0), (0, .ref (gS γ 8 0)), (2, .int x2)]) hX hl (by decide) rfl dX7_unbindAll_74 (fun ls hl1 => ?_)
        replace hl := hl1
        clear hl1
        exact L76 x2 _ _ _ _ (by omega) (by omega) _ _ _ hw hR (lh_sub hl [2, 3, 1, 0] rfl)
      · replace hw := if_f hw c1
        refine rw_iload_n hX hl 1 rfl dX7_unbindAll_12 rfl ?_
        refine rw_iload_n hX hl 1 rfl dX7_unbindAll_13 rfl ?_
        refine rw_aload_n hX hl 0 rfl (Or.inr ⟨_, rfl⟩) dX7_unbindAll_14 rfl ?_
        refine rw_get hX hR 8 4 0 (C := RX7) (T := TX7) (N := 48) rfl (by decide) (Nat.le_of_ble_eq_true rfl) rfl (v := .ref (gS γ 1804 0)) rfl uw_X7 gw_932 rfl dX7_unbindAll_15 ?_
        refine rw_iload_n hX hl 2 rfl dX7_unbindAll_18 rfl ?_
        obtain ⟨h33, hw1⟩ := ar_some hw
        replace hw := hw1
        clear hw1
        obtain ⟨j32, ej32⟩ : ∃ j, (x3 : Int32).toNatClampNeg = j := ⟨_, rfl⟩
        rw [ej32] at hw
        refine rw_iald hX hR 804 (n := 24) (i := x3) (v := (gi σ 804 j32)) rfl (by decide) rfl rfl h33 (by rw [ej32]) dX7_unbindAll_19 ?_
        obtain ⟨v34, g36, hw1⟩ := ob1_some hw
        replace hw := hw1
        clear hw1
        refine rw_cSi hX hR pk_f8_has (mc := 0) (ms := 0) ⟨rfl, rfl, (show 1 + 1 ≤ 3 by omega), (show 8 + (2 + 11) + 64 * 1 ≤ 64 * 3 by omega)⟩ (As := [.int x2, .int (gi σ 804 j32)]) (rest := [.int x2]) rfl (C_f8_has l γ ad x2 (gi σ 804 j32) σ v34 g36) gw_1145 gw_1146 rfl hl.1 (ca1 rfl ca0) (Nat.le_of_ble_eq_true rfl) dX7_unbindAll_20 ⟨(show cells + 0 ≤ 0 by omega), (show slots + 0 ≤ 0 by omega)⟩ (fun H locs hR1 => ?_)
        replace hR := hR1
        clear hR1
        refine rw_ifneZ (b := v34) (tgt := 52) hX dX7_unbindAll_23 (by decide) (fun c37 => ?_) (fun c37 => ?_)
        · replace hw := if_t hw c37
          exact J52 x3 x2 _ _ (by omega) (by omega) _ _ _ hw hR (lh_sub hl [0, 2] rfl)
        · replace hw := if_f hw c37
          refine rw_iload_n hX hl 1 rfl dX7_unbindAll_26 rfl ?_
          refine rw_aload_n hX hl 0 rfl (Or.inr ⟨_, rfl⟩) dX7_unbindAll_27 rfl ?_
          refine rw_get hX hR 8 9 0 (C := RX7) (T := TX7) (N := 48) rfl (by decide) (Nat.le_of_ble_eq_true rfl) rfl (v := .ref (gS γ 1809 0)) rfl uw_X7 gw_937 rfl dX7_unbindAll_28 ?_
          refine rw_iload_n hX hl 2 rfl dX7_unbindAll_31 rfl ?_
          obtain ⟨h39, hw1⟩ := ar_some hw
          replace hw := hw1
          clear hw1
          obtain ⟨j38, ej38⟩ : ∃ j, (x3 : Int32).toNatClampNeg = j := ⟨_, rfl⟩
          rw [ej38] at hw
          refine rw_iald hX hR 809 (n := 24) (i := x3) (v := (gi σ 809 j38)) rfl (by decide) rfl rfl h39 (by rw [ej38]) dX7_unbindAll_32 ?_
          obtain ⟨v40, g42, hw1⟩ := ob1_some hw
          replace hw := hw1
          clear hw1
          refine rw_cSi hX hR pk_f8_has (mc := 0) (ms := 0) ⟨rfl, rfl, (show 1 + 1 ≤ 3 by omega), (show 8 + (2 + 11) + 64 * 1 ≤ 64 * 3 by omega)⟩ (As := [.int x2, .int (gi σ 809 j38)]) (rest := [.int x2]) rfl (C_f8_has l γ ad x2 (gi σ 809 j38) σ v40 g42) gw_1145 gw_1146 rfl hl.1 (ca1 rfl ca0) (Nat.le_of_ble_eq_true rfl) dX7_unbindAll_33 ⟨(show (cells + 0) + 0 ≤ 0 by omega), (show (slots + 0) + 0 ≤ 0 by omega)⟩ (fun H locs hR1 => ?_)
          replace hR := hR1
          clear hR1
          refine rw_ifneZ (b := v40) (tgt := 52) hX dX7_unbindAll_36 (by decide) (fun c43 => ?_) (fun c43 => ?_)
          · replace hw := if_t hw c43
            exact J52 x3 x2 _ _ (by omega) (by omega) _ _ _ hw hR (lh_sub hl [0, 2] rfl)
          · replace hw := if_f hw c43
            refine rw_iload_n hX hl 1 rfl dX7_unbindAll_39 rfl ?_
            refine rw_aload_n hX hl 0 rfl (Or.inr ⟨_, rfl⟩) dX7_unbindAll_40 rfl ?_
            refine rw_get hX hR 8 10 0 (C := RX7) (T := TX7) (N := 48) rfl (by decide) (Nat.le_of_ble_eq_true rfl) rfl (v := .ref (gS γ 1810 0)) rfl uw_X7 gw_938 rfl dX7_unbindAll_41 ?_
            refine rw_iload_n hX hl 2 rfl dX7_unbindAll_44 rfl ?_
            obtain ⟨h45, hw1⟩ := ar_some hw
            replace hw := hw1
            clear hw1
            obtain ⟨j44, ej44⟩ : ∃ j, (x3 : Int32).toNatClampNeg = j := ⟨_, rfl⟩
            rw [ej44] at hw
            refine rw_iald hX hR 810 (n := 24) (i := x3) (v := (gi σ 810 j44)) rfl (by decide) rfl rfl h45 (by rw [ej44]) dX7_unbindAll_45 ?_
            obtain ⟨v46, g48, hw1⟩ := ob1_some hw
            replace hw := hw1
            clear hw1
            refine rw_cSi hX hR pk_f8_has (mc := 0) (ms := 0) ⟨rfl, rfl, (show 1 + 1 ≤ 3 by omega), (show 8 + (2 + 11) + 64 * 1 ≤ 64 * 3 by omega)⟩ (As := [.int x2, .int (gi σ 810 j44)]) (rest := [.int x2]) rfl (C_f8_has l γ ad x2 (gi σ 810 j44) σ v46 g48) gw_1145 gw_1146 rfl hl.1 (ca1 rfl ca0) (Nat.le_of_ble_eq_true rfl) dX7_unbindAll_46 ⟨(show ((cells + 0) + 0) + 0 ≤ 0 by omega), (show ((slots + 0) + 0) + 0 ≤ 0 by omega)⟩ (fun H locs hR1 => ?_)
            replace hR := hR1
            clear hR1
            refine rw_ifeqZ (b := v46) (tgt := 58) hX dX7_unbindAll_49 (by decide) (fun c49 => ?_) (fun c49 => ?_)
            · replace hw := if_f hw c49
              refine lv_iconst (v := 0) hX.1.1 hX.1.2.1 dX7_unbindAll_58 (by decide) ?_
              exact J59 x3 x2 0 _ _ (by omega) (by omega) _ _ _ hw hR (lh_sub hl [0, 2] rfl)
            · replace hw := if_t hw c49
              exact J52 x3 x2 _ _ (by omega) (by omega) _ _ _ hw hR (lh_sub hl [0, 2] rfl)
  refine rw_entry (ca1 rfl (ca1 rfl ca0)) (Nat.le_of_ble_eq_true rfl) (fun ls hl1 => ?_)
  replace hl := hl1
  clear hl1
  refine rw_iload_n hX hl 1 rfl dX7_unbindAll_0 rfl ?_
  refine rw_istore_n (lv' := [(2, .int a1), (0, .ref (gS γ 8 0)), (1, .int a1)]) hX hl (by decide) rfl dX7_unbindAll_1 rfl (fun ls hl1 => ?_)
  replace hl := hl1
  clear hl1
  refine lv_iconst (v := 0) hX.1.1 hX.1.2.1 dX7_unbindAll_2 (by decide) ?_
  refine rw_istore_n (lv' := [(3, .int 0), (2, .int a1), (0, .ref (gS γ 8 0)), (1, .int a1)]) hX hl (by decide) rfl dX7_unbindAll_3 rfl (fun ls hl1 => ?_)
  replace hl := hl1
  clear hl1
  exact L4 σ _ _ _ _ (by omega) (by omega) _ _ _ hw hR (lh_sub hl [2, 1, 0] rfl)
set_option maxHeartbeats 8000000 in
set_option maxRecDepth 100000 in
theorem C_f8_isNeeded (l : Launch) (γ : GT) (ad : Nat → Nat → Nat) {fu : Nat} (a1 : Int32) (σ : St) (r : Bool) (hw : f8_isNeeded fu a1 σ = some r) : Met l yX7_isNeeded (Cond.code yX7_isNeeded cX7_isNeeded 2 (Option.some Jvm.ClassFile.FieldType.boolean) :: GW) (rmo 3 0 0) (va_Pc [.ref (gS γ 8 0), .int a1] (RU γ ad σ)) (QI γ ad σ (b2i r)) 0 0 (gA γ) := by
  refine Met.ofW (cc := cX7_isNeeded) (maxL := 2) (ret := (Option.some Jvm.ClassFile.FieldType.boolean)) (by decide +kernel) rfl ?_
  intro p e s m args below meth c s₁ B hml hv
  obtain ⟨rfl, hU⟩ := hv
  obtain ⟨hX, hR⟩ := cx_of (own := RX7) B hml rfl hU
  have hr := B.returns
  have hlocks := B.notSynchronized
  have hc0 : (0 : Nat) ≤ 0 := Nat.le_refl 0
  show W p l e (rmo 3 0 0) s m ([.ref (gS γ 8 0), .int a1] : List Value).toArray below meth c s.heap [] 0 0 (MQ below (QI γ ad σ (b2i r)) ([.ref (gS γ 8 0), .int a1] : List Value).toArray s 0 0 (gA γ)) (entryFrame m ([.ref (gS γ 8 0), .int a1] : List Value).toArray 2)
  unfold f8_isNeeded at hw
  refine rw_entry (ca1 rfl (ca1 rfl ca0)) (Nat.le_of_ble_eq_true rfl) (fun ls hl1 => ?_)
  replace hl := hl1
  clear hl1
  refine rw_iload_n hX hl 1 rfl dX7_isNeeded_0 rfl ?_
  refine lv_iconst (v := (-1)) hX.1.1 hX.1.2.1 dX7_isNeeded_1 (by decide) ?_
  refine lv_icmp_eq (x := a1) (y := (-1)) (tgt := 22) hX.1.1 hX.1.2.1 dX7_isNeeded_2 (by decide) (fun c1 => ?_) (fun c1 => ?_)
  · replace hw := if_t hw c1
    refine lv_iconst (v := 1) hX.1.1 hX.1.2.1 dX7_isNeeded_22 (by decide) ?_
    refine lv_goto (tgt := 27) hX.1.1 hX.1.2.1 dX7_isNeeded_23 (by decide) ?_
    exact rq_z hX hR hr (v := true) rfl hw dX7_isNeeded_27 hlocks
  · replace hw := if_f hw c1
    refine rw_aload_n hX hl 0 rfl (Or.inr ⟨_, rfl⟩) dX7_isNeeded_5 rfl ?_
    refine rw_iload_n hX hl 1 rfl dX7_isNeeded_6 rfl ?_
    obtain ⟨v2, g4, hw1⟩ := ob1_some hw
    replace hw := hw1
    clear hw1
    refine rw_cVi hX hR pk_f8_isDevice (mc := 0) (ms := 0) ⟨rfl, rfl, (show 2 + 1 ≤ 3 by omega), (show 8 + (2 + 11) + 64 * 2 ≤ 64 * 3 by omega)⟩ (As := [.int a1]) (rest := []) rfl (C_f8_isDevice l γ ad a1 σ v2 g4) gw_1089 gw_1091 gs_53 (rs_recv hX hR 8 0 (C := RX7) (T := TX7) (N := 48) rfl (by decide) (Nat.le_of_ble_eq_true rfl) rfl) rfl hl.1 ca0 (Nat.le_of_ble_eq_true rfl) dX7_isNeeded_7 ⟨(show 0 + 0 ≤ 0 by omega), (show 0 + 0 ≤ 0 by omega)⟩ (fun H locs hR1 => ?_)
    replace hR := hR1
    clear hR1
    refine rw_ifeqZ (b := v2) (tgt := 26) hX dX7_isNeeded_10 (by decide) (fun c5 => ?_) (fun c5 => ?_)
    · replace hw := if_f hw c5
      refine lv_iconst (v := 0) hX.1.1 hX.1.2.1 dX7_isNeeded_26 (by decide) ?_
      refine W.widen (k := 0) (n := 0) (by omega) (by omega) ?_
      exact rq_z hX hR hr (v := false) rfl hw dX7_isNeeded_27 hlocks
    · replace hw := if_t hw c5
      refine rw_aload_n hX hl 0 rfl (Or.inr ⟨_, rfl⟩) dX7_isNeeded_13 rfl ?_
      refine rw_get hX hR 8 11 0 (C := RX7) (T := TX7) (N := 48) rfl (by decide) (Nat.le_of_ble_eq_true rfl) rfl (v := .ref (gS γ 1811 0)) rfl uw_X7 gw_939 rfl dX7_isNeeded_14 ?_
      refine rw_iload_n hX hl 1 rfl dX7_isNeeded_17 rfl ?_
      obtain ⟨h7, hw1⟩ := ar_some hw
      replace hw := hw1
      clear hw1
      obtain ⟨j6, ej6⟩ : ∃ j, (a1 : Int32).toNatClampNeg = j := ⟨_, rfl⟩
      rw [ej6] at hw
      refine rw_zald hX hR 811 (n := 24) (i := a1) (v := (gb σ 811 j6)) rfl (by decide) rfl rfl h7 (by rw [ej6]) dX7_isNeeded_18 ?_
      refine rw_ifeqZ (b := (gb σ 811 j6)) (tgt := 26) hX dX7_isNeeded_19 (by decide) (fun c8 => ?_) (fun c8 => ?_)
      · replace hw := if_f hw c8
        refine lv_iconst (v := 0) hX.1.1 hX.1.2.1 dX7_isNeeded_26 (by decide) ?_
        refine W.widen (k := 0) (n := 0) (by omega) (by omega) ?_
        exact rq_z hX hR hr (v := false) rfl hw dX7_isNeeded_27 hlocks
      · replace hw := if_t hw c8
        refine lv_iconst (v := 1) hX.1.1 hX.1.2.1 dX7_isNeeded_22 (by decide) ?_
        refine lv_goto (tgt := 27) hX.1.1 hX.1.2.1 dX7_isNeeded_23 (by decide) ?_
        refine W.widen (k := 0) (n := 0) (by omega) (by omega) ?_
        exact rq_z hX hR hr (v := true) rfl hw dX7_isNeeded_27 hlocks
set_option maxHeartbeats 8000000 in
set_option maxRecDepth 100000 in
theorem C_f8_plug (l : Launch) (γ : GT) (ad : Nat → Nat → Nat) {fu : Nat} (a1 : Int32) (a2 : Int32) (a3 : Int32) (a4 : Int32) (a5 : Bool) (a6 : Int32) (a7 : Int32) (σ : St) (r : Int32) (σ' : St) (hw : f8_plug fu a1 a2 a3 a4 a5 a6 a7 σ = some (r, σ')) : Met l yX7_plug (Cond.code yX7_plug cX7_plug 10 (Option.some Jvm.ClassFile.FieldType.int) :: GW) (rmo 6 0 0) (va_Pc [.ref (gS γ 8 0), .int a1, .int a2, .int a3, .int a4, .int (b2i a5), .int a6, .int a7] (RU γ ad σ)) (QI γ ad σ' r) 0 0 (gA γ) := by
  refine Met.ofW (cc := cX7_plug) (maxL := 10) (ret := (Option.some Jvm.ClassFile.FieldType.int)) (by decide +kernel) rfl ?_
  intro p e s m args below meth c s₁ B hml hv
  obtain ⟨rfl, hU⟩ := hv
  obtain ⟨hX, hR⟩ := cx_of (own := RX7) B hml rfl hU
  have hr := B.returns
  have hlocks := B.notSynchronized
  have hc0 : (0 : Nat) ≤ 0 := Nat.le_refl 0
  show W p l e (rmo 6 0 0) s m ([.ref (gS γ 8 0), .int a1, .int a2, .int a3, .int a4, .int (b2i a5), .int a6, .int a7] : List Value).toArray below meth c s.heap [] 0 0 (MQ below (QI γ ad σ' r) ([.ref (gS γ 8 0), .int a1, .int a2, .int a3, .int a4, .int (b2i a5), .int a6, .int a7] : List Value).toArray s 0 0 (gA γ)) (entryFrame m ([.ref (gS γ 8 0), .int a1, .int a2, .int a3, .int a4, .int (b2i a5), .int a6, .int a7] : List Value).toArray 10)
  unfold f8_plug at hw
  have J115 : ∀ (x1 : Int32) (x2 : Int32) (x3 : Int32) (x4 : Int32) (x5 : Bool) (x6 : Int32) (x7 : Int32) (y1 : Int32) (σ : St) (cells slots : Nat), cells ≤ 0 → slots ≤ 0 → ∀ (H : Heap) (locs : List Loc) (ls : Array Slot), f8_plug_j115 fu x1 x2 x3 x4 x5 x6 x7 y1 σ = some (r, σ') → RS γ ad σ s H locs → lh ls 10 [(0, .ref (gS γ 8 0)), (1, .int x1), (2, .int x2), (3, .int x3), (4, .int x4), (5, .int (b2i x5)), (6, .int x6), (7, .int x7)] → W p l e (rmo 6 0 0) s m ([.ref (gS γ 8 0), .int a1, .int a2, .int a3, .int a4, .int (b2i a5), .int a6, .int a7] : List Value).toArray below meth c H locs cells slots (MQ below (QI γ ad σ' r) ([.ref (gS γ 8 0), .int a1, .int a2, .int a3, .int a4, .int (b2i a5), .int a6, .int a7] : List Value).toArray s 0 0 (gA γ)) (F0 m 115 ls [.int y1, .ref (gS γ 8 0)]) := by
    intro x1 x2 x3 x4 x5 x6 x7 y1 σ cells slots hc1 hc2 H locs ls hw hR hl
    unfold f8_plug_j115 at hw
    refine rw_puti (x := y1) hX hR 8 0 0 800 (C := RX7) (T := TX7) (N := 48) rfl (by decide) rfl rfl (Nat.le_of_ble_eq_true rfl) rfl uw_X7 tyX7 tyX7_ok nmX7 gw_928 rfl rfl (by decide) dX7_plug_115 (fun σ1 H locs e1 hR1 => ?_)
    replace hR := hR1
    clear hR1
    subst e1
    refine rw_aload_n hX hl 0 rfl (Or.inr ⟨_, rfl⟩) dX7_plug_118 rfl ?_
    refine rw_get hX hR 8 0 0 (C := RX7) (T := TX7) (N := 48) rfl (by decide) (Nat.le_of_ble_eq_true rfl) rfl (v := .int (gi (zi σ 800 0 y1) 800 0)) rfl uw_X7 gw_928 rfl dX7_plug_119 ?_
    refine lv_if_eq (x := (gi (zi σ 800 0 y1) 800 0)) (tgt := 127) hX.1.1 hX.1.2.1 dX7_plug_122 (by decide) (fun c9 => ?_) (fun c9 => ?_)
    · replace hw := if_t hw c9
      refine rw_aload_n hX hl 0 rfl (Or.inr ⟨_, rfl⟩) dX7_plug_127 rfl ?_
      refine rw_get hX hR 8 3 0 (C := RX7) (T := TX7) (N := 48) rfl (by decide) (Nat.le_of_ble_eq_true rfl) rfl (v := .int (gi (zi σ 800 0 y1) 803 0)) rfl uw_X7 gw_931 rfl dX7_plug_128 ?_
      refine rw_istore (lv' := [(9, .int (gi (zi σ 800 0 y1) 803 0)), (0, .ref (gS γ 8 0)), (1, .int x1), (2, .int x2), (3, .int x3), (4, .int x4), (5, .int (b2i x5)), (6, .int x6), (7, .int x7)]) hX hl (by decide) rfl dX7_plug_131 (fun ls hl1 => ?_)
      replace hl := hl1
      clear hl1
      refine rw_aload_n hX hl 1 rfl (Or.inr ⟨_, rfl⟩) dX7_plug_133 rfl ?_
      refine lv_dup hX.1.1 hX.1.2.1 dX7_plug_134 rfl ?_
      refine rw_get hX hR 8 3 0 (C := RX7) (T := TX7) (N := 48) rfl (by decide) (Nat.le_of_ble_eq_true rfl) rfl (v := .int (gi (zi σ 800 0 y1) 803 0)) rfl uw_X7 gw_931 rfl dX7_plug_135 ?_
      refine lv_iconst (v := 1) hX.1.1 hX.1.2.1 dX7_plug_138 (by decide) ?_
      refine lv_iadd (x := (gi (zi σ 800 0 y1) 803 0)) (y := 1) hX.1.1 hX.1.2.1 dX7_plug_139 ?_
      refine rw_puti (x := ((gi (zi σ 800 0 y1) 803 0) + 1)) hX hR 8 3 0 803 (C := RX7) (T := TX7) (N := 48) rfl (by decide) rfl rfl (Nat.le_of_ble_eq_true rfl) rfl uw_X7 tyX7 tyX7_ok nmX7 gw_931 rfl rfl (by decide) dX7_plug_140 (fun σ1 H locs e1 hR1 => ?_)
      replace hR := hR1
      clear hR1
      subst e1
      refine rw_aload_n hX hl 1 rfl (Or.inr ⟨_, rfl⟩) dX7_plug_143 rfl ?_
      refine rw_get hX hR 8 4 0 (C := RX7) (T := TX7) (N := 48) rfl (by decide) (Nat.le_of_ble_eq_true rfl) rfl (v := .ref (gS γ 1804 0)) rfl uw_X7 gw_932 rfl dX7_plug_144 ?_
      refine rw_iload hX hl 0 rfl dX7_plug_147 ?_
      refine rw_iload_n hX hl 2 rfl dX7_plug_149 rfl ?_
      obtain ⟨h11, hw1⟩ := ar_some hw
      replace hw := hw1
      clear hw1
      obtain ⟨j10, ej10⟩ : ∃ j, ((gi (zi σ 800 0 y1) 803 0) : Int32).toNatClampNeg = j := ⟨_, rfl⟩
      rw [ej10] at hw
      refine rw_iast hX hR 804 (n := 24) (i := (gi (zi σ 800 0 y1) 803 0)) (x := x1) rfl (by decide) rfl rfl h11 dX7_plug_150 (fun σ1 H locs e1 hR1 => ?_)
      replace hR := hR1
      clear hR1
      rw [ej10] at e1
      subst e1
      refine rw_aload_n hX hl 1 rfl (Or.inr ⟨_, rfl⟩) dX7_plug_151 rfl ?_
      refine rw_get hX hR 8 5 0 (C := RX7) (T := TX7) (N := 48) rfl (by decide) (Nat.le_of_ble_eq_true rfl) rfl (v := .ref (gS γ 1805 0)) rfl uw_X7 gw_933 rfl dX7_plug_152 ?_
      refine rw_iload hX hl 0 rfl dX7_plug_155 ?_
      refine rw_iload_n hX hl 3 rfl dX7_plug_157 rfl ?_
      obtain ⟨h13, hw1⟩ := ar_some hw
      replace hw := hw1
      clear hw1
      obtain ⟨j12, ej12⟩ : ∃ j, ((gi (zi σ 800 0 y1) 803 0) : Int32).toNatClampNeg = j := ⟨_, rfl⟩
      rw [ej12] at hw
      refine rw_iast hX hR 805 (n := 24) (i := (gi (zi σ 800 0 y1) 803 0)) (x := x2) rfl (by decide) rfl rfl h13 dX7_plug_158 (fun σ1 H locs e1 hR1 => ?_)
      replace hR := hR1
      clear hR1
      rw [ej12] at e1
      subst e1
      refine rw_aload_n hX hl 1 rfl (Or.inr ⟨_, rfl⟩) dX7_plug_159 rfl ?_
      refine rw_get hX hR 8 6 0 (C := RX7) (T := TX7) (N := 48) rfl (by decide) (Nat.le_of_ble_eq_true rfl) rfl (v := .ref (gS γ 1806 0)) rfl uw_X7 gw_934 rfl dX7_plug_160 ?_
      refine rw_iload hX hl 0 rfl dX7_plug_163 ?_
      refine rw_iload_n hX hl 4 rfl dX7_plug_165 rfl ?_
      obtain ⟨h15, hw1⟩ := ar_some hw
      replace hw := hw1
      clear hw1
      obtain ⟨j14, ej14⟩ : ∃ j, ((gi (zi σ 800 0 y1) 803 0) : Int32).toNatClampNeg = j := ⟨_, rfl⟩
      rw [ej14] at hw
      refine rw_iast hX hR 806 (n := 24) (i := (gi (zi σ 800 0 y1) 803 0)) (x := x3) rfl (by decide) rfl rfl h15 dX7_plug_166 (fun σ1 H locs e1 hR1 => ?_)
      replace hR := hR1
      clear hR1
      rw [ej14] at e1
      subst e1
      refine rw_aload_n hX hl 1 rfl (Or.inr ⟨_, rfl⟩) dX7_plug_167 rfl ?_
      refine rw_get hX hR 8 7 0 (C := RX7) (T := TX7) (N := 48) rfl (by decide) (Nat.le_of_ble_eq_true rfl) rfl (v := .ref (gS γ 1807 0)) rfl uw_X7 gw_935 rfl dX7_plug_168 ?_
      refine rw_iload hX hl 0 rfl dX7_plug_171 ?_
      refine rw_iload hX hl 5 rfl dX7_plug_173 ?_
      obtain ⟨h17, hw1⟩ := ar_some hw
      replace hw := hw1
      clear hw1
      obtain ⟨j16, ej16⟩ : ∃ j, ((gi (zi σ 800 0 y1) 803 0) : Int32).toNatClampNeg = j := ⟨_, rfl⟩
      rw [ej16] at hw
      refine rw_iast hX hR 807 (n := 24) (i := (gi (zi σ 800 0 y1) 803 0)) (x := x4) rfl (by decide) rfl rfl h17 dX7_plug_175 (fun σ1 H locs e1 hR1 => ?_)
      replace hR := hR1
      clear hR1
      rw [ej16] at e1
      subst e1
      refine rw_aload_n hX hl 1 rfl (Or.inr ⟨_, rfl⟩) dX7_plug_176 rfl ?_
      refine rw_get hX hR 8 8 0 (C := RX7) (T := TX7) (N := 48) rfl (by decide) (Nat.le_of_ble_eq_true rfl) rfl (v := .ref (gS γ 1808 0)) rfl uw_X7 gw_936 rfl dX7_plug_177 ?_
      refine rw_iload hX hl 0 rfl dX7_plug_180 ?_
      refine rw_iload hX hl 6 rfl dX7_plug_182 ?_
      obtain ⟨h19, hw1⟩ := ar_some hw
      replace hw := hw1
      clear hw1
      obtain ⟨j18, ej18⟩ : ∃ j, ((gi (zi σ 800 0 y1) 803 0) : Int32).toNatClampNeg = j := ⟨_, rfl⟩
      rw [ej18] at hw
      refine rw_zast hX hR 808 (n := 24) (i := (gi (zi σ 800 0 y1) 803 0)) (x := x5) rfl (by decide) rfl rfl h19 dX7_plug_184 (fun σ1 H locs e1 hR1 => ?_)
      replace hR := hR1
      clear hR1
      rw [ej18] at e1
      subst e1
      refine rw_aload_n hX hl 1 rfl (Or.inr ⟨_, rfl⟩) dX7_plug_185 rfl ?_
      refine rw_get hX hR 8 9 0 (C := RX7) (T := TX7) (N := 48) rfl (by decide) (Nat.le_of_ble_eq_true rfl) rfl (v := .ref (gS γ 1809 0)) rfl uw_X7 gw_937 rfl dX7_plug_186 ?_
      refine rw_iload hX hl 0 rfl dX7_plug_189 ?_
      refine rw_iload hX hl 7 rfl dX7_plug_191 ?_
      obtain ⟨h21, hw1⟩ := ar_some hw
      replace hw := hw1
      clear hw1
      obtain ⟨j20, ej20⟩ : ∃ j, ((gi (zi σ 800 0 y1) 803 0) : Int32).toNatClampNeg = j := ⟨_, rfl⟩
      rw [ej20] at hw
      refine rw_iast hX hR 809 (n := 24) (i := (gi (zi σ 800 0 y1) 803 0)) (x := x6) rfl (by decide) rfl rfl h21 dX7_plug_193 (fun σ1 H locs e1 hR1 => ?_)
      replace hR := hR1
      clear hR1
      rw [ej20] at e1
      subst e1
      refine rw_aload_n hX hl 1 rfl (Or.inr ⟨_, rfl⟩) dX7_plug_194 rfl ?_
      refine rw_get hX hR 8 10 0 (C := RX7) (T := TX7) (N := 48) rfl (by decide) (Nat.le_of_ble_eq_true rfl) rfl (v := .ref (gS γ 1810 0)) rfl uw_X7 gw_938 rfl dX7_plug_195 ?_
      refine rw_iload hX hl 0 rfl dX7_plug_198 ?_
      refine rw_iload hX hl 8 rfl dX7_plug_200 ?_
      obtain ⟨h23, hw1⟩ := ar_some hw
      replace hw := hw1
      clear hw1
      obtain ⟨j22, ej22⟩ : ∃ j, ((gi (zi σ 800 0 y1) 803 0) : Int32).toNatClampNeg = j := ⟨_, rfl⟩
      rw [ej22] at hw
      refine rw_iast hX hR 810 (n := 24) (i := (gi (zi σ 800 0 y1) 803 0)) (x := x7) rfl (by decide) rfl rfl h23 dX7_plug_202 (fun σ1 H locs e1 hR1 => ?_)
      replace hR := hR1
      clear hR1
      rw [ej22] at e1
      subst e1
      refine rw_aload_n hX hl 1 rfl (Or.inr ⟨_, rfl⟩) dX7_plug_203 rfl ?_
      refine rw_get hX hR 8 11 0 (C := RX7) (T := TX7) (N := 48) rfl (by decide) (Nat.le_of_ble_eq_true rfl) rfl (v := .ref (gS γ 1811 0)) rfl uw_X7 gw_939 rfl dX7_plug_204 ?_
      refine rw_iload hX hl 0 rfl dX7_plug_207 ?_
      refine lv_iconst (v := 1) hX.1.1 hX.1.2.1 dX7_plug_209 (by decide) ?_
      obtain ⟨h25, hw1⟩ := ar_some hw
      replace hw := hw1
      clear hw1
      obtain ⟨j24, ej24⟩ : ∃ j, ((gi (zi σ 800 0 y1) 803 0) : Int32).toNatClampNeg = j := ⟨_, rfl⟩
      rw [ej24] at hw
      refine rw_zast hX hR 811 (n := 24) (i := (gi (zi σ 800 0 y1) 803 0)) (x := true) rfl (by decide) rfl rfl h25 dX7_plug_210 (fun σ1 H locs e1 hR1 => ?_)
      replace hR := hR1
      clear hR1
      rw [ej24] at e1
      subst e1
      refine rw_aload_n hX hl 1 rfl (Or.inr ⟨_, rfl⟩) dX7_plug_211 rfl ?_
      obtain ⟨σ27, g28, hw1⟩ := ob1_some hw
      replace hw := hw1
      clear hw1
      refine rw_cVv hX hR pk_f8_settle (mc := 0) (ms := 0) ⟨rfl, rfl, (show 5 + 1 ≤ 6 by omega), (show 8 + (3 + 11) + 64 * 5 ≤ 64 * 6 by omega)⟩ (As := []) (rest := []) rfl (C_f8_settle l γ ad (zb (zi (zi (zb (zi (zi (zi (zi (zi (zi σ 800 0 y1) 803 0 ((gi (zi σ 800 0 y1) 803 0) + 1)) 804 j10 x1) 805 j12 x2) 806 j14 x3) 807 j16 x4) 808 j18 x5) 809 j20 x6) 810 j22 x7) 811 j24 true) σ27 g28) gw_1093 gw_1095 gs_54 (rs_recv hX hR 8 0 (C := RX7) (T := TX7) (N := 48) rfl (by decide) (Nat.le_of_ble_eq_true rfl) rfl) rfl hl.1 ca0 (Nat.le_of_ble_eq_true rfl) dX7_plug_212 ⟨(show cells + 0 ≤ 0 by omega), (show slots + 0 ≤ 0 by omega)⟩ (fun H locs hR1 => ?_)
      replace hR := hR1
      clear hR1
      refine rw_iload hX hl 0 rfl dX7_plug_215 ?_
      refine W.widen (k := 0) (n := 0) (by omega) (by omega) ?_
      exact rq_ie hX hR hr hw dX7_plug_217 hlocks
    · replace hw := if_f hw c9
      refine lv_iconst (v := 0) hX.1.1 hX.1.2.1 dX7_plug_125 (by decide) ?_
      refine W.widen (k := 0) (n := 0) (by omega) (by omega) ?_
      exact rq_ie hX hR hr hw dX7_plug_126 hlocks
  have J59 : ∀ (x1 : Int32) (x2 : Int32) (x3 : Int32) (x4 : Int32) (x5 : Bool) (x6 : Int32) (x7 : Int32) (y0 : Bool) (σ : St) (cells slots : Nat), cells ≤ 0 → slots ≤ 0 → ∀ (H : Heap) (locs : List Loc) (ls : Array Slot), f8_plug_j59 fu x1 x2 x3 x4 x5 x6 x7 y0 σ = some (r, σ') → RS γ ad σ s H locs → lh ls 10 [(0, .ref (gS γ 8 0)), (1, .int x1), (2, .int x2), (3, .int x3), (4, .int x4), (5, .int (b2i x5)), (6, .int x6), (7, .int x7)] → W p l e (rmo 6 0 0) s m ([.ref (gS γ 8 0), .int a1, .int a2, .int a3, .int a4, .int (b2i a5), .int a6, .int a7] : List Value).toArray below meth c H locs cells slots (MQ below (QI γ ad σ' r) ([.ref (gS γ 8 0), .int a1, .int a2, .int a3, .int a4, .int (b2i a5), .int a6, .int a7] : List Value).toArray s 0 0 (gA γ)) (F0 m 59 ls [.int (b2i y0)]) := by
    intro x1 x2 x3 x4 x5 x6 x7 y0 σ cells slots hc1 hc2 H locs ls hw hR hl
    unfold f8_plug_j59 at hw
    refine rw_istore (lv' := [(8, .int (b2i y0)), (0, .ref (gS γ 8 0)), (1, .int x1), (2, .int x2), (3, .int x3), (4, .int x4), (5, .int (b2i x5)), (6, .int x6), (7, .int x7)]) hX hl (by decide) rfl dX7_plug_59 (fun ls hl1 => ?_)
    replace hl := hl1
    clear hl1
    refine rw_aload_n hX hl 1 rfl (Or.inr ⟨_, rfl⟩) dX7_plug_61 rfl ?_
    refine rw_aload_n hX hl 1 rfl (Or.inr ⟨_, rfl⟩) dX7_plug_62 rfl ?_
    refine rw_iload_n hX hl 2 rfl dX7_plug_63 rfl ?_
    obtain ⟨v5, g7, hw1⟩ := ob1_some hw
    replace hw := hw1
    clear hw1
    refine rw_cVi hX hR pk_f8_isNeeded (mc := 0) (ms := 0) ⟨rfl, rfl, (show 3 + 1 ≤ 6 by omega), (show 8 + (2 + 11) + 64 * 3 ≤ 64 * 6 by omega)⟩ (As := [.int x1]) (rest := [.ref (gS γ 8 0)]) rfl (C_f8_isNeeded l γ ad x1 σ v5 g7) gw_1085 gw_1087 gs_52 (rs_recv hX hR 8 0 (C := RX7) (T := TX7) (N := 48) rfl (by decide) (Nat.le_of_ble_eq_true rfl) rfl) rfl hl.1 (ca1 rfl ca0) (Nat.le_of_ble_eq_true rfl) dX7_plug_64 ⟨(show cells + 0 ≤ 0 by omega), (show slots + 0 ≤ 0 by omega)⟩ (fun H locs hR1 => ?_)
    replace hR := hR1
    clear hR1
    refine rw_ifeqZ (b := v5) (tgt := 88) hX dX7_plug_67 (by decide) (fun c8 => ?_) (fun c8 => ?_)
    · replace hw := if_f hw c8
      refine lv_iconst (v := 1) hX.1.1 hX.1.2.1 dX7_plug_88 (by decide) ?_
      refine lv_goto (tgt := 115) hX.1.1 hX.1.2.1 dX7_plug_89 (by decide) ?_
      exact J115 x1 x2 x3 x4 x5 x6 x7 1 σ _ _ (by omega) (by omega) _ _ _ hw hR (lh_sub hl [1, 2, 3, 4, 5, 6, 7, 8] rfl)
    · replace hw := if_t hw c8
      refine rw_aload_n hX hl 1 rfl (Or.inr ⟨_, rfl⟩) dX7_plug_70 rfl ?_
      refine rw_iload hX hl 7 rfl dX7_plug_71 ?_
      obtain ⟨v29, g31, hw1⟩ := ob1_some hw
      replace hw := hw1
      clear hw1
      refine rw_cVi hX hR pk_f8_isNeeded (mc := 0) (ms := 0) ⟨rfl, rfl, (show 3 + 1 ≤ 6 by omega), (show 8 + (2 + 11) + 64 * 3 ≤ 64 * 6 by omega)⟩ (As := [.int x6]) (rest := [.ref (gS γ 8 0)]) rfl (C_f8_isNeeded l γ ad x6 σ v29 g31) gw_1085 gw_1087 gs_52 (rs_recv hX hR 8 0 (C := RX7) (T := TX7) (N := 48) rfl (by decide) (Nat.le_of_ble_eq_true rfl) rfl) rfl hl.1 (ca1 rfl ca0) (Nat.le_of_ble_eq_true rfl) dX7_plug_73 ⟨(show (cells + 0) + 0 ≤ 0 by omega), (show (slots + 0) + 0 ≤ 0 by omega)⟩ (fun H locs hR1 => ?_)
      replace hR := hR1
      clear hR1
      refine rw_ifeqZ (b := v29) (tgt := 88) hX dX7_plug_76 (by decide) (fun c32 => ?_) (fun c32 => ?_)
      · replace hw := if_f hw c32
        refine lv_iconst (v := 1) hX.1.1 hX.1.2.1 dX7_plug_88 (by decide) ?_
        refine lv_goto (tgt := 115) hX.1.1 hX.1.2.1 dX7_plug_89 (by decide) ?_
        exact J115 x1 x2 x3 x4 x5 x6 x7 1 σ _ _ (by omega) (by omega) _ _ _ hw hR (lh_sub hl [1, 2, 3, 4, 5, 6, 7, 8] rfl)
      · replace hw := if_t hw c32
        refine rw_aload_n hX hl 1 rfl (Or.inr ⟨_, rfl⟩) dX7_plug_79 rfl ?_
        refine rw_iload hX hl 8 rfl dX7_plug_80 ?_
        obtain ⟨v33, g35, hw1⟩ := ob1_some hw
        replace hw := hw1
        clear hw1
        refine rw_cVi hX hR pk_f8_isNeeded (mc := 0) (ms := 0) ⟨rfl, rfl, (show 3 + 1 ≤ 6 by omega), (show 8 + (2 + 11) + 64 * 3 ≤ 64 * 6 by omega)⟩ (As := [.int x7]) (rest := [.ref (gS γ 8 0)]) rfl (C_f8_isNeeded l γ ad x7 σ v33 g35) gw_1085 gw_1087 gs_52 (rs_recv hX hR 8 0 (C := RX7) (T := TX7) (N := 48) rfl (by decide) (Nat.le_of_ble_eq_true rfl) rfl) rfl hl.1 (ca1 rfl ca0) (Nat.le_of_ble_eq_true rfl) dX7_plug_82 ⟨(show ((cells + 0) + 0) + 0 ≤ 0 by omega), (show ((slots + 0) + 0) + 0 ≤ 0 by omega)⟩ (fun H locs hR1 => ?_)
        replace hR := hR1
        clear hR1
        refine rw_ifneZ (b := v33) (tgt := 92) hX dX7_plug_85 (by decide) (fun c36 => ?_) (fun c36 => ?_)
        · replace hw := if_t hw c36
          refine rw_iload hX hl 0 rfl dX7_plug_92 ?_
          refine rw_ifneZ (b := y0) (tgt := 101) hX dX7_plug_94 (by decide) (fun c37 => ?_) (fun c37 => ?_)
          · replace hw := if_t hw c37
            refine rw_aload_n hX hl 1 rfl (Or.inr ⟨_, rfl⟩) dX7_plug_101 rfl ?_
            refine rw_get hX hR 8 3 0 (C := RX7) (T := TX7) (N := 48) rfl (by decide) (Nat.le_of_ble_eq_true rfl) rfl (v := .int (gi σ 803 0)) rfl uw_X7 gw_931 rfl dX7_plug_102 ?_
            refine lv_bipush (v := 24) hX.1.1 hX.1.2.1 dX7_plug_105 (by decide) ?_
            refine lv_icmp_ne (x := (gi σ 803 0)) (y := 24) (tgt := 114) hX.1.1 hX.1.2.1 dX7_plug_107 (by decide) (fun c38 => ?_) (fun c38 => ?_)
            · replace hw := if_f hw c38
              refine lv_iconst (v := 0) hX.1.1 hX.1.2.1 dX7_plug_114 (by decide) ?_
              exact J115 x1 x2 x3 x4 x5 x6 x7 0 σ _ _ (by omega) (by omega) _ _ _ hw hR (lh_sub hl [1, 2, 3, 4, 5, 6, 7, 8] rfl)
            · replace hw := if_t hw c38
              refine lv_iconst (v := 3) hX.1.1 hX.1.2.1 dX7_plug_110 (by decide) ?_
              refine lv_goto (tgt := 115) hX.1.1 hX.1.2.1 dX7_plug_111 (by decide) ?_
              exact J115 x1 x2 x3 x4 x5 x6 x7 3 σ _ _ (by omega) (by omega) _ _ _ hw hR (lh_sub hl [1, 2, 3, 4, 5, 6, 7, 8] rfl)
          · replace hw := if_f hw c37
            refine lv_iconst (v := 2) hX.1.1 hX.1.2.1 dX7_plug_97 (by decide) ?_
            refine lv_goto (tgt := 115) hX.1.1 hX.1.2.1 dX7_plug_98 (by decide) ?_
            exact J115 x1 x2 x3 x4 x5 x6 x7 2 σ _ _ (by omega) (by omega) _ _ _ hw hR (lh_sub hl [1, 2, 3, 4, 5, 6, 7, 8] rfl)
        · replace hw := if_f hw c36
          refine lv_iconst (v := 1) hX.1.1 hX.1.2.1 dX7_plug_88 (by decide) ?_
          refine lv_goto (tgt := 115) hX.1.1 hX.1.2.1 dX7_plug_89 (by decide) ?_
          exact J115 x1 x2 x3 x4 x5 x6 x7 1 σ _ _ (by omega) (by omega) _ _ _ hw hR (lh_sub hl [1, 2, 3, 4, 5, 6, 7, 8] rfl)
  have J30 : ∀ (x1 : Int32) (x2 : Int32) (x3 : Int32) (x4 : Int32) (x5 : Bool) (x6 : Int32) (x7 : Int32) (σ : St) (cells slots : Nat), cells ≤ 0 → slots ≤ 0 → ∀ (H : Heap) (locs : List Loc) (ls : Array Slot), f8_plug_j30 fu x1 x2 x3 x4 x5 x6 x7 σ = some (r, σ') → RS γ ad σ s H locs → lh ls 10 [(0, .ref (gS γ 8 0)), (1, .int x1), (2, .int x2), (3, .int x3), (4, .int x4), (5, .int (b2i x5)), (6, .int x6), (7, .int x7)] → W p l e (rmo 6 0 0) s m ([.ref (gS γ 8 0), .int a1, .int a2, .int a3, .int a4, .int (b2i a5), .int a6, .int a7] : List Value).toArray below meth c H locs cells slots (MQ below (QI γ ad σ' r) ([.ref (gS γ 8 0), .int a1, .int a2, .int a3, .int a4, .int (b2i a5), .int a6, .int a7] : List Value).toArray s 0 0 (gA γ)) (F0 m 30 ls []) := by
    intro x1 x2 x3 x4 x5 x6 x7 σ cells slots hc1 hc2 H locs ls hw hR hl
    unfold f8_plug_j30 at hw
    refine rw_iload hX hl 4 rfl dX7_plug_30 ?_
    refine lv_iconst (v := (-1)) hX.1.1 hX.1.2.1 dX7_plug_32 (by decide) ?_
    refine lv_bipush (v := 7) hX.1.1 hX.1.2.1 dX7_plug_33 (by decide) ?_
    obtain ⟨v43, g45, hw1⟩ := ob1_some hw
    replace hw := hw1
    clear hw1
    refine rw_cSi hX hR pk_f8_in (mc := 0) (ms := 0) ⟨rfl, rfl, (show 1 + 1 ≤ 6 by omega), (show 8 + (3 + 11) + 64 * 1 ≤ 64 * 6 by omega)⟩ (As := [.int x4, .int (-1), .int 7]) (rest := []) rfl (C_f8_in l γ ad x4 (-1) 7 σ v43 g45) gw_1082 gw_1083 rfl hl.1 ca0 (Nat.le_of_ble_eq_true rfl) dX7_plug_35 ⟨(show cells + 0 ≤ 0 by omega), (show slots + 0 ≤ 0 by omega)⟩ (fun H locs hR1 => ?_)
    replace hR := hR1
    clear hR1
    refine rw_ifeqZ (b := v43) (tgt := 58) hX dX7_plug_38 (by decide) (fun c46 => ?_) (fun c46 => ?_)
    · replace hw := if_f hw c46
      refine lv_iconst (v := 0) hX.1.1 hX.1.2.1 dX7_plug_58 (by decide) ?_
      exact J59 x1 x2 x3 x4 x5 x6 x7 false σ _ _ (by omega) (by omega) _ _ _ hw hR (lh_sub hl [0, 1, 2, 3, 4, 5, 6, 7] rfl)
    · replace hw := if_t hw c46
      refine rw_iload hX hl 6 rfl dX7_plug_41 ?_
      refine lv_iconst (v := (-1)) hX.1.1 hX.1.2.1 dX7_plug_43 (by decide) ?_
      refine lv_icmp_eq (x := x6) (y := (-1)) (tgt := 54) hX.1.1 hX.1.2.1 dX7_plug_44 (by decide) (fun c47 => ?_) (fun c47 => ?_)
      · replace hw := if_t hw c47
        refine lv_iconst (v := 1) hX.1.1 hX.1.2.1 dX7_plug_54 (by decide) ?_
        refine lv_goto (tgt := 59) hX.1.1 hX.1.2.1 dX7_plug_55 (by decide) ?_
        exact J59 x1 x2 x3 x4 x5 x6 x7 true σ _ _ (by omega) (by omega) _ _ _ hw hR (lh_sub hl [0, 1, 2, 3, 4, 5, 6, 7] rfl)
      · replace hw := if_f hw c47
        refine rw_iload hX hl 6 rfl dX7_plug_47 ?_
        refine rw_iload hX hl 7 rfl dX7_plug_49 ?_
        refine lv_icmp_eq (x := x6) (y := x7) (tgt := 58) hX.1.1 hX.1.2.1 dX7_plug_51 (by decide) (fun c48 => ?_) (fun c48 => ?_)
        · replace hw := if_t hw c48
          refine lv_iconst (v := 0) hX.1.1 hX.1.2.1 dX7_plug_58 (by decide) ?_
          exact J59 x1 x2 x3 x4 x5 x6 x7 false σ _ _ (by omega) (by omega) _ _ _ hw hR (lh_sub hl [0, 1, 2, 3, 4, 5, 6, 7] rfl)
        · replace hw := if_f hw c48
          refine lv_iconst (v := 1) hX.1.1 hX.1.2.1 dX7_plug_54 (by decide) ?_
          refine lv_goto (tgt := 59) hX.1.1 hX.1.2.1 dX7_plug_55 (by decide) ?_
          exact J59 x1 x2 x3 x4 x5 x6 x7 true σ _ _ (by omega) (by omega) _ _ _ hw hR (lh_sub hl [0, 1, 2, 3, 4, 5, 6, 7] rfl)
  refine rw_entry (ca1 rfl (ca1 rfl (ca1 rfl (ca1 rfl (ca1 rfl (ca1 rfl (ca1 rfl (ca1 rfl ca0)))))))) (Nat.le_of_ble_eq_true rfl) (fun ls hl1 => ?_)
  replace hl := hl1
  clear hl1
  refine rw_iload_n hX hl 2 rfl dX7_plug_0 rfl ?_
  refine lv_iconst (v := 0) hX.1.1 hX.1.2.1 dX7_plug_1 (by decide) ?_
  refine lv_bipush (v := 31) hX.1.1 hX.1.2.1 dX7_plug_2 (by decide) ?_
  obtain ⟨v1, g3, hw1⟩ := ob1_some hw
  replace hw := hw1
  clear hw1
  refine rw_cSi hX hR pk_f8_in (mc := 0) (ms := 0) ⟨rfl, rfl, (show 1 + 1 ≤ 6 by omega), (show 8 + (3 + 11) + 64 * 1 ≤ 64 * 6 by omega)⟩ (As := [.int a2, .int 0, .int 31]) (rest := []) rfl (C_f8_in l γ ad a2 0 31 σ v1 g3) gw_1082 gw_1083 rfl hl.1 ca0 (Nat.le_of_ble_eq_true rfl) dX7_plug_4 ⟨(show 0 + 0 ≤ 0 by omega), (show 0 + 0 ≤ 0 by omega)⟩ (fun H locs hR1 => ?_)
  replace hR := hR1
  clear hR1
  refine rw_ifeqZ (b := v1) (tgt := 58) hX dX7_plug_7 (by decide) (fun c4 => ?_) (fun c4 => ?_)
  · replace hw := if_f hw c4
    refine lv_iconst (v := 0) hX.1.1 hX.1.2.1 dX7_plug_58 (by decide) ?_
    exact J59 a1 a2 a3 a4 a5 a6 a7 false σ _ _ (by omega) (by omega) _ _ _ hw hR (lh_sub hl [0, 1, 2, 3, 4, 5, 6, 7] rfl)
  · replace hw := if_t hw c4
    refine rw_iload_n hX hl 3 rfl dX7_plug_10 rfl ?_
    refine lv_iconst (v := 0) hX.1.1 hX.1.2.1 dX7_plug_11 (by decide) ?_
    refine lv_iconst (v := 2) hX.1.1 hX.1.2.1 dX7_plug_12 (by decide) ?_
    obtain ⟨v39, g41, hw1⟩ := ob1_some hw
    replace hw := hw1
    clear hw1
    refine rw_cSi hX hR pk_f8_in (mc := 0) (ms := 0) ⟨rfl, rfl, (show 1 + 1 ≤ 6 by omega), (show 8 + (3 + 11) + 64 * 1 ≤ 64 * 6 by omega)⟩ (As := [.int a3, .int 0, .int 2]) (rest := []) rfl (C_f8_in l γ ad a3 0 2 σ v39 g41) gw_1082 gw_1083 rfl hl.1 ca0 (Nat.le_of_ble_eq_true rfl) dX7_plug_13 ⟨(show (0 + 0) + 0 ≤ 0 by omega), (show (0 + 0) + 0 ≤ 0 by omega)⟩ (fun H locs hR1 => ?_)
    replace hR := hR1
    clear hR1
    refine rw_ifneZ (b := v39) (tgt := 30) hX dX7_plug_16 (by decide) (fun c42 => ?_) (fun c42 => ?_)
    · replace hw := if_t hw c42
      exact J30 a1 a2 a3 a4 a5 a6 a7 σ _ _ (by omega) (by omega) _ _ _ hw hR (lh_sub hl [0, 1, 2, 3, 4, 5, 6, 7] rfl)
    · replace hw := if_f hw c42
      refine rw_iload_n hX hl 3 rfl dX7_plug_19 rfl ?_
      refine lv_iconst (v := 4) hX.1.1 hX.1.2.1 dX7_plug_20 (by decide) ?_
      refine lv_icmp_eq (x := a3) (y := 4) (tgt := 30) hX.1.1 hX.1.2.1 dX7_plug_21 (by decide) (fun c49 => ?_) (fun c49 => ?_)
      · replace hw := if_t hw c49
        exact J30 a1 a2 a3 a4 a5 a6 a7 σ _ _ (by omega) (by omega) _ _ _ hw hR (lh_sub hl [0, 1, 2, 3, 4, 5, 6, 7] rfl)
      · replace hw := if_f hw c49
        refine rw_iload_n hX hl 3 rfl dX7_plug_24 rfl ?_
        refine lv_bipush (v := 8) hX.1.1 hX.1.2.1 dX7_plug_25 (by decide) ?_
        refine lv_icmp_ne (x := a3) (y := 8) (tgt := 58) hX.1.1 hX.1.2.1 dX7_plug_27 (by decide) (fun c50 => ?_) (fun c50 => ?_)
        · replace hw := if_f hw c50
          refine lv_iconst (v := 0) hX.1.1 hX.1.2.1 dX7_plug_58 (by decide) ?_
          exact J59 a1 a2 a3 a4 a5 a6 a7 false σ _ _ (by omega) (by omega) _ _ _ hw hR (lh_sub hl [0, 1, 2, 3, 4, 5, 6, 7] rfl)
        · replace hw := if_t hw c50
          exact J30 a1 a2 a3 a4 a5 a6 a7 σ _ _ (by omega) (by omega) _ _ _ hw hR (lh_sub hl [0, 1, 2, 3, 4, 5, 6, 7] rfl)
set_option maxHeartbeats 8000000 in
set_option maxRecDepth 100000 in
theorem C_f8_unplug (l : Launch) (γ : GT) (ad : Nat → Nat → Nat) {fu : Nat} (a1 : Int32) (σ : St) (r : Int32) (σ' : St) (hw : f8_unplug fu a1 σ = some (r, σ')) : Met l yX7_unplug (Cond.code yX7_unplug cX7_unplug 5 (Option.some Jvm.ClassFile.FieldType.int) :: GW) (rmo 6 0 0) (va_Pc [.ref (gS γ 8 0), .int a1] (RU γ ad σ)) (QI γ ad σ' r) 0 0 (gA γ) := by
  refine Met.ofW (cc := cX7_unplug) (maxL := 5) (ret := (Option.some Jvm.ClassFile.FieldType.int)) (by decide +kernel) rfl ?_
  intro p e s m args below meth c s₁ B hml hv
  obtain ⟨rfl, hU⟩ := hv
  obtain ⟨hX, hR⟩ := cx_of (own := RX7) B hml rfl hU
  have hr := B.returns
  have hlocks := B.notSynchronized
  have hc0 : (0 : Nat) ≤ 0 := Nat.le_refl 0
  show W p l e (rmo 6 0 0) s m ([.ref (gS γ 8 0), .int a1] : List Value).toArray below meth c s.heap [] 0 0 (MQ below (QI γ ad σ' r) ([.ref (gS γ 8 0), .int a1] : List Value).toArray s 0 0 (gA γ)) (entryFrame m ([.ref (gS γ 8 0), .int a1] : List Value).toArray 5)
  unfold f8_unplug at hw
  have L109 : ∀ (x2 : Int32) (n : Nat) (s9 : (Int32 × Int32 × St)) (cells slots : Nat), cells ≤ 0 → slots ≤ 0 → ∀ (H : Heap) (locs : List Loc) (ls : Array Slot), lp (fun s8 => f8_unplug_b109 fu x2 s8.1 s8.2.1 s8.2.2) n s9 = some (r, σ') → RS γ ad (s9.2.2) s H locs → lh ls 5 [(0, .ref (gS γ 8 0)), (2, .int x2), (3, .int s9.1), (4, .int s9.2.1)] → W p l e (rmo 6 0 0) s m ([.ref (gS γ 8 0), .int a1] : List Value).toArray below meth c H locs cells slots (MQ below (QI γ ad σ' r) ([.ref (gS γ 8 0), .int a1] : List Value).toArray s 0 0 (gA γ)) (F0 m 109 ls []) := by
    intro x2 n109
    induction n109 with
    | zero => intro s9 cells slots hc1 hc2 H locs ls hw hR hl; exact (lp_zero hw).elim
    | succ n109 ih109 =>
      intro s9 cells slots hc1 hc2 H locs ls hw hR hl
      obtain ⟨o109, hw1, hb109, ho109⟩ := lp_succ hw
      replace hw := hw1
      clear hw1
      obtain ⟨x3, x4, σ⟩ := s9
      replace hw : f8_unplug_b109 fu x2 x3 x4 σ = some o109 := hw
      replace hR : RS γ ad σ s H locs := hR
      replace hl : lh ls 5 [(0, .ref (gS γ 8 0)), (2, .int x2), (3, .int x3), (4, .int x4)] := hl
      unfold f8_unplug_b109 at hw
      have J149 : ∀ (x3 : Int32) (x4 : Int32) (σ : St) (cells slots : Nat), cells ≤ 0 → slots ≤ 0 → ∀ (H : Heap) (locs : List Loc) (ls : Array Slot), f8_unplug_j149 fu x2 x3 x4 σ = some o109 → RS γ ad σ s H locs → lh ls 5 [(0, .ref (gS γ 8 0)), (2, .int x2), (3, .int x3), (4, .int x4)] → W p l e (rmo 6 0 0) s m ([.ref (gS γ 8 0), .int a1] : List Value).toArray below meth c H locs cells slots (MQ below (QI γ ad σ' r) ([.ref (gS γ 8 0), .int a1] : List Value).toArray s 0 0 (gA γ)) (F0 m 149 ls []) := by
        intro x3 x4 σ cells slots hc1 hc2 H locs ls hw hR hl
        unfold f8_unplug_j149 at hw
        refine rw_iinc (k := 3) (v := (x4 + (-1))) (lv' := [(4, .int (x4 + (-1))), (0, .ref (gS γ 8 0)), (2, .int x2), (3, .int x3)]) hX hl rfl (congrArg (fun q => x4 + q) (show Int32.ofInt (-1) = (-1) by decide)) (by decide) rfl dX7_unplug_149 (fun ls hl1 => ?_)
        replace hl := hl1
        clear hl1
        refine lv_goto (tgt := 109) hX.1.1 hX.1.2.1 dX7_unplug_152 (by decide) ?_
        exact ih109 _ _ _ (by omega) (by omega) _ _ _ (lp_back hw hb109) hR (lh_sub hl [1, 2, 3, 0] rfl)
      refine rw_iload hX hl 3 rfl dX7_unplug_109 ?_
      refine lv_if_lt (x := x4) (tgt := 155) hX.1.1 hX.1.2.1 dX7_unplug_111 (by decide) (fun c13 => ?_) (fun c13 => ?_)
      · replace hw := if_t hw c13
        replace hw := lp_out hw ho109
        refine rw_aload_n hX hl 0 rfl (Or.inr ⟨_, rfl⟩) dX7_unplug_155 rfl ?_
        obtain ⟨σ15, g16, hw1⟩ := ob1_some hw
        replace hw := hw1
        clear hw1
        refine rw_cVv hX hR pk_f8_settle (mc := 0) (ms := 0) ⟨rfl, rfl, (show 5 + 1 ≤ 6 by omega), (show 8 + (3 + 11) + 64 * 5 ≤ 64 * 6 by omega)⟩ (As := []) (rest := []) rfl (C_f8_settle l γ ad σ σ15 g16) gw_1093 gw_1095 gs_54 (rs_recv hX hR 8 0 (C := RX7) (T := TX7) (N := 48) rfl (by decide) (Nat.le_of_ble_eq_true rfl) rfl) rfl hl.1 ca0 (Nat.le_of_ble_eq_true rfl) dX7_unplug_156 ⟨(show cells + 0 ≤ 0 by omega), (show slots + 0 ≤ 0 by omega)⟩ (fun H locs hR1 => ?_)
        replace hR := hR1
        clear hR1
        refine rw_iload_n hX hl 2 rfl dX7_unplug_159 rfl ?_
        refine W.widen (k := 0) (n := 0) (by omega) (by omega) ?_
        exact rq_ie hX hR hr hw dX7_unplug_160 hlocks
      · replace hw := if_f hw c13
        refine rw_iload_n hX hl 1 rfl dX7_unplug_114 rfl ?_
        refine rw_iload hX hl 3 rfl dX7_unplug_115 ?_
        obtain ⟨v17, g19, hw1⟩ := ob1_some hw
        replace hw := hw1
        clear hw1
        refine rw_cSi hX hR pk_f8_has (mc := 0) (ms := 0) ⟨rfl, rfl, (show 1 + 1 ≤ 6 by omega), (show 8 + (2 + 11) + 64 * 1 ≤ 64 * 6 by omega)⟩ (As := [.int x2, .int x4]) (rest := []) rfl (C_f8_has l γ ad x2 x4 σ v17 g19) gw_1145 gw_1146 rfl hl.1 ca0 (Nat.le_of_ble_eq_true rfl) dX7_unplug_117 ⟨(show cells + 0 ≤ 0 by omega), (show slots + 0 ≤ 0 by omega)⟩ (fun H locs hR1 => ?_)
        replace hR := hR1
        clear hR1
        refine rw_ifeqZ (b := v17) (tgt := 149) hX dX7_unplug_120 (by decide) (fun c20 => ?_) (fun c20 => ?_)
        · replace hw := if_f hw c20
          exact J149 x3 x4 σ _ _ (by omega) (by omega) _ _ _ hw hR (lh_sub hl [0, 1, 2, 3] rfl)
        · replace hw := if_t hw c20
          refine rw_aload_n hX hl 0 rfl (Or.inr ⟨_, rfl⟩) dX7_unplug_123 rfl ?_
          refine rw_get hX hR 8 11 0 (C := RX7) (T := TX7) (N := 48) rfl (by decide) (Nat.le_of_ble_eq_true rfl) rfl (v := .ref (gS γ 1811 0)) rfl uw_X7 gw_939 rfl dX7_unplug_124 ?_
          refine rw_iload hX hl 3 rfl dX7_unplug_127 ?_
          refine lv_iconst (v := 0) hX.1.1 hX.1.2.1 dX7_unplug_129 (by decide) ?_
          obtain ⟨h22, hw1⟩ := ar_some hw
          replace hw := hw1
          clear hw1
          obtain ⟨j21, ej21⟩ : ∃ j, (x4 : Int32).toNatClampNeg = j := ⟨_, rfl⟩
          rw [ej21] at hw
          refine rw_zast hX hR 811 (n := 24) (i := x4) (x := false) rfl (by decide) rfl rfl h22 dX7_unplug_130 (fun σ1 H locs e1 hR1 => ?_)
          replace hR := hR1
          clear hR1
          rw [ej21] at e1
          subst e1
          refine rw_aload_n hX hl 0 rfl (Or.inr ⟨_, rfl⟩) dX7_unplug_131 rfl ?_
          refine rw_get hX hR 8 17 0 (C := RX7) (T := TX7) (N := 48) rfl (by decide) (Nat.le_of_ble_eq_true rfl) rfl (v := .ref (gS γ 1817 0)) rfl uw_X7 gw_945 rfl dX7_unplug_132 ?_
          refine rw_iload hX hl 3 rfl dX7_unplug_135 ?_
          refine lv_iconst (v := 0) hX.1.1 hX.1.2.1 dX7_unplug_137 (by decide) ?_
          obtain ⟨h24, hw1⟩ := ar_some hw
          replace hw := hw1
          clear hw1
          obtain ⟨j23, ej23⟩ : ∃ j, (x4 : Int32).toNatClampNeg = j := ⟨_, rfl⟩
          rw [ej23] at hw
          refine rw_zast hX hR 817 (n := 24) (i := x4) (x := false) rfl (by decide) rfl rfl h24 dX7_unplug_138 (fun σ1 H locs e1 hR1 => ?_)
          replace hR := hR1
          clear hR1
          rw [ej23] at e1
          subst e1
          refine rw_aload_n hX hl 0 rfl (Or.inr ⟨_, rfl⟩) dX7_unplug_139 rfl ?_
          refine lv_iconst (v := 2) hX.1.1 hX.1.2.1 dX7_unplug_140 (by decide) ?_
          refine rw_iload hX hl 3 rfl dX7_unplug_141 ?_
          obtain ⟨σ26, g27, hw1⟩ := ob1_some hw
          replace hw := hw1
          clear hw1
          refine rw_cVv hX hR pk_f8_event (mc := 0) (ms := 0) ⟨rfl, rfl, (show 1 + 1 ≤ 6 by omega), (show 8 + (3 + 11) + 64 * 1 ≤ 64 * 6 by omega)⟩ (As := [.int 2, .int x4]) (rest := []) rfl (C_f8_event l γ ad 2 x4 (zb (zb σ 811 j21 false) 817 j23 false) σ26 g27) gw_1137 gw_1139 gs_65 (rs_recv hX hR 8 0 (C := RX7) (T := TX7) (N := 48) rfl (by decide) (Nat.le_of_ble_eq_true rfl) rfl) rfl hl.1 ca0 (Nat.le_of_ble_eq_true rfl) dX7_unplug_143 ⟨(show (cells + 0) + 0 ≤ 0 by omega), (show (slots + 0) + 0 ≤ 0 by omega)⟩ (fun H locs hR1 => ?_)
          replace hR := hR1
          clear hR1
          refine rw_iinc (k := 2) (v := (x3 + 1)) (lv' := [(3, .int (x3 + 1)), (0, .ref (gS γ 8 0)), (2, .int x2), (4, .int x4)]) hX hl rfl (congrArg (fun q => x3 + q) (show Int32.ofInt 1 = 1 by decide)) (by decide) rfl dX7_unplug_146 (fun ls hl1 => ?_)
          replace hl := hl1
          clear hl1
          exact J149 (x3 + 1) x4 σ26 _ _ (by omega) (by omega) _ _ _ hw hR (lh_sub hl [1, 2, 0, 3] rfl)
  have L47 : ∀ (σ : St) (n : Nat) (s9 : (Int32 × Int32)) (cells slots : Nat), cells ≤ 0 → slots ≤ 0 → ∀ (H : Heap) (locs : List Loc) (ls : Array Slot), lp (fun s8 => f8_unplug_b47 fu s8.1 s8.2 σ) n s9 = some (r, σ') → RS γ ad σ s H locs → lh ls 5 [(0, .ref (gS γ 8 0)), (2, .int s9.1), (3, .int s9.2)] → W p l e (rmo 6 0 0) s m ([.ref (gS γ 8 0), .int a1] : List Value).toArray below meth c H locs cells slots (MQ below (QI γ ad σ' r) ([.ref (gS γ 8 0), .int a1] : List Value).toArray s 0 0 (gA γ)) (F0 m 47 ls []) := by
    intro σ n47
    induction n47 with
    | zero => intro s9 cells slots hc1 hc2 H locs ls hw hR hl; exact (lp_zero hw).elim
    | succ n47 ih47 =>
      intro s9 cells slots hc1 hc2 H locs ls hw hR hl
      obtain ⟨o47, hw1, hb47, ho47⟩ := lp_succ hw
      replace hw := hw1
      clear hw1
      obtain ⟨x2, x3⟩ := s9
      replace hw : f8_unplug_b47 fu x2 x3 σ = some o47 := hw
      replace hl : lh ls 5 [(0, .ref (gS γ 8 0)), (2, .int x2), (3, .int x3)] := hl
      unfold f8_unplug_b47 at hw
      have J85 : ∀ (x3 : Int32) (y0 : Int32) (y1 : Int32) (cells slots : Nat), cells ≤ 0 → slots ≤ 0 → ∀ (H : Heap) (locs : List Loc) (ls : Array Slot), f8_unplug_j85 fu x3 y0 y1 σ = some o47 → RS γ ad σ s H locs → lh ls 5 [(0, .ref (gS γ 8 0)), (3, .int x3)] → W p l e (rmo 6 0 0) s m ([.ref (gS γ 8 0), .int a1] : List Value).toArray below meth c H locs cells slots (MQ below (QI γ ad σ' r) ([.ref (gS γ 8 0), .int a1] : List Value).toArray s 0 0 (gA γ)) (F0 m 85 ls [.int y1, .int y0]) := by
        intro x3 y0 y1 cells slots hc1 hc2 H locs ls hw hR hl
        unfold f8_unplug_j85 at hw
        refine lv_ior (x := y0) (y := y1) hX.1.1 hX.1.2.1 dX7_unplug_85 ?_
        refine rw_istore_n (lv' := [(2, .int (y0 ||| y1)), (0, .ref (gS γ 8 0)), (3, .int x3)]) hX hl (by decide) rfl dX7_unplug_86 rfl (fun ls hl1 => ?_)
        replace hl := hl1
        clear hl1
        refine rw_iinc (k := 2) (v := (x3 + 1)) (lv' := [(3, .int (x3 + 1)), (2, .int (y0 ||| y1)), (0, .ref (gS γ 8 0))]) hX hl rfl (congrArg (fun q => x3 + q) (show Int32.ofInt 1 = 1 by decide)) (by decide) rfl dX7_unplug_87 (fun ls hl1 => ?_)
        replace hl := hl1
        clear hl1
        refine lv_goto (tgt := 47) hX.1.1 hX.1.2.1 dX7_unplug_90 (by decide) ?_
        exact ih47 _ _ _ (by omega) (by omega) _ _ _ (lp_back hw hb47) hR (lh_sub hl [2, 1, 0] rfl)
      refine rw_iload_n hX hl 2 rfl dX7_unplug_47 rfl ?_
      refine rw_aload_n hX hl 0 rfl (Or.inr ⟨_, rfl⟩) dX7_unplug_48 rfl ?_
      refine rw_get hX hR 8 3 0 (C := RX7) (T := TX7) (N := 48) rfl (by decide) (Nat.le_of_ble_eq_true rfl) rfl (v := .int (gi σ 803 0)) rfl uw_X7 gw_931 rfl dX7_unplug_49 ?_
      refine lv_icmp_ge (x := x3) (y := (gi σ 803 0)) (tgt := 93) hX.1.1 hX.1.2.1 dX7_unplug_52 (by decide) (fun c9 => ?_) (fun c9 => ?_)
      · replace hw := if_t hw c9
        replace hw := lp_out hw ho47
        refine rw_aload_n hX hl 0 rfl (Or.inr ⟨_, rfl⟩) dX7_unplug_93 rfl ?_
        refine rw_iload_n hX hl 1 rfl dX7_unplug_94 rfl ?_
        obtain ⟨v10, σ11, g12, hw1⟩ := ob2_some hw
        replace hw := hw1
        clear hw1
        refine rw_cVi hX hR pk_f8_unbindAll (mc := 0) (ms := 0) ⟨rfl, rfl, (show 3 + 1 ≤ 6 by omega), (show 8 + (6 + 11) + 64 * 3 ≤ 64 * 6 by omega)⟩ (As := [.int x2]) (rest := []) rfl (C_f8_unbindAll l γ ad x2 σ v10 σ11 g12) gw_1148 gw_1150 gs_66 (rs_recv hX hR 8 0 (C := RX7) (T := TX7) (N := 48) rfl (by decide) (Nat.le_of_ble_eq_true rfl) rfl) rfl hl.1 ca0 (Nat.le_of_ble_eq_true rfl) dX7_unplug_95 ⟨(show cells + 0 ≤ 0 by omega), (show slots + 0 ≤ 0 by omega)⟩ (fun H locs hR1 => ?_)
        replace hR := hR1
        clear hR1
        refine rw_istore_n (lv' := [(3, .int v10), (0, .ref (gS γ 8 0)), (2, .int x2)]) hX hl (by decide) rfl dX7_unplug_98 rfl (fun ls hl1 => ?_)
        replace hl := hl1
        clear hl1
        refine lv_iconst (v := 0) hX.1.1 hX.1.2.1 dX7_unplug_99 (by decide) ?_
        refine rw_istore_n (lv' := [(3, .int 0), (0, .ref (gS γ 8 0)), (2, .int x2)]) hX hl (by decide) rfl dX7_unplug_100 rfl (fun ls hl1 => ?_)
        replace hl := hl1
        clear hl1
        refine rw_aload_n hX hl 1 rfl (Or.inr ⟨_, rfl⟩) dX7_unplug_101 rfl ?_
        refine rw_get hX hR 8 3 0 (C := RX7) (T := TX7) (N := 48) rfl (by decide) (Nat.le_of_ble_eq_true rfl) rfl (v := .int (gi σ11 803 0)) rfl uw_X7 gw_931 rfl dX7_unplug_102 ?_
        refine lv_iconst (v := 1) hX.1.1 hX.1.2.1 dX7_unplug_105 (by decide) ?_
        refine lv_isub (x := (gi σ11 803 0)) (y := 1) hX.1.1 hX.1.2.1 dX7_unplug_106 ?_
        refine rw_istore (lv' := [(4, .int ((gi σ11 803 0) - 1)), (3, .int 0), (0, .ref (gS γ 8 0)), (2, .int x2)]) hX hl (by decide) rfl dX7_unplug_107 (fun ls hl1 => ?_)
        replace hl := hl1
        clear hl1
        exact L109 x2 _ _ _ _ (by omega) (by omega) _ _ _ hw hR (lh_sub hl [2, 3, 1, 0] rfl)
      · replace hw := if_f hw c9
        refine rw_iload_n hX hl 1 rfl dX7_unplug_55 rfl ?_
        refine rw_aload_n hX hl 0 rfl (Or.inr ⟨_, rfl⟩) dX7_unplug_56 rfl ?_
        refine rw_get hX hR 8 11 0 (C := RX7) (T := TX7) (N := 48) rfl (by decide) (Nat.le_of_ble_eq_true rfl) rfl (v := .ref (gS γ 1811 0)) rfl uw_X7 gw_939 rfl dX7_unplug_57 ?_
        refine rw_iload_n hX hl 2 rfl dX7_unplug_60 rfl ?_
        obtain ⟨h29, hw1⟩ := ar_some hw
        replace hw := hw1
        clear hw1
        obtain ⟨j28, ej28⟩ : ∃ j, (x3 : Int32).toNatClampNeg = j := ⟨_, rfl⟩
        rw [ej28] at hw
        refine rw_zald hX hR 811 (n := 24) (i := x3) (v := (gb σ 811 j28)) rfl (by decide) rfl rfl h29 (by rw [ej28]) dX7_unplug_61 ?_
        refine rw_ifeqZ (b := (gb σ 811 j28)) (tgt := 84) hX dX7_unplug_62 (by decide) (fun c30 => ?_) (fun c30 => ?_)
        · replace hw := if_f hw c30
          refine lv_iconst (v := 0) hX.1.1 hX.1.2.1 dX7_unplug_84 (by decide) ?_
          exact J85 x3 x2 0 _ _ (by omega) (by omega) _ _ _ hw hR (lh_sub hl [0, 2] rfl)
        · replace hw := if_t hw c30
          refine rw_iload_n hX hl 1 rfl dX7_unplug_65 rfl ?_
          refine rw_aload_n hX hl 0 rfl (Or.inr ⟨_, rfl⟩) dX7_unplug_66 rfl ?_
          refine rw_get hX hR 8 4 0 (C := RX7) (T := TX7) (N := 48) rfl (by decide) (Nat.le_of_ble_eq_true rfl) rfl (v := .ref (gS γ 1804 0)) rfl uw_X7 gw_932 rfl dX7_unplug_67 ?_
          refine rw_iload_n hX hl 2 rfl dX7_unplug_70 rfl ?_
          obtain ⟨h32, hw1⟩ := ar_some hw
          replace hw := hw1
          clear hw1
          obtain ⟨j31, ej31⟩ : ∃ j, (x3 : Int32).toNatClampNeg = j := ⟨_, rfl⟩
          rw [ej31] at hw
          refine rw_iald hX hR 804 (n := 24) (i := x3) (v := (gi σ 804 j31)) rfl (by decide) rfl rfl h32 (by rw [ej31]) dX7_unplug_71 ?_
          obtain ⟨v33, g35, hw1⟩ := ob1_some hw
          replace hw := hw1
          clear hw1
          refine rw_cSi hX hR pk_f8_has (mc := 0) (ms := 0) ⟨rfl, rfl, (show 1 + 1 ≤ 6 by omega), (show 8 + (2 + 11) + 64 * 1 ≤ 64 * 6 by omega)⟩ (As := [.int x2, .int (gi σ 804 j31)]) (rest := [.int x2]) rfl (C_f8_has l γ ad x2 (gi σ 804 j31) σ v33 g35) gw_1145 gw_1146 rfl hl.1 (ca1 rfl ca0) (Nat.le_of_ble_eq_true rfl) dX7_unplug_72 ⟨(show cells + 0 ≤ 0 by omega), (show slots + 0 ≤ 0 by omega)⟩ (fun H locs hR1 => ?_)
          replace hR := hR1
          clear hR1
          refine rw_ifeqZ (b := v33) (tgt := 84) hX dX7_unplug_75 (by decide) (fun c36 => ?_) (fun c36 => ?_)
          · replace hw := if_f hw c36
            refine lv_iconst (v := 0) hX.1.1 hX.1.2.1 dX7_unplug_84 (by decide) ?_
            exact J85 x3 x2 0 _ _ (by omega) (by omega) _ _ _ hw hR (lh_sub hl [0, 2] rfl)
          · replace hw := if_t hw c36
            refine lv_iconst (v := 1) hX.1.1 hX.1.2.1 dX7_unplug_78 (by decide) ?_
            refine rw_iload_n hX hl 2 rfl dX7_unplug_79 rfl ?_
            refine lv_ishl (x := 1) (y := x3) hX.1.1 hX.1.2.1 dX7_unplug_80 ?_
            refine lv_goto (tgt := 85) hX.1.1 hX.1.2.1 dX7_unplug_81 (by decide) ?_
            exact J85 x3 x2 (1 <<< (x3 &&& 31)) _ _ (by omega) (by omega) _ _ _ hw hR (lh_sub hl [0, 2] rfl)
  have J27 : ∀ (x1 : Int32) (y1 : Int32) (σ : St) (cells slots : Nat), cells ≤ 0 → slots ≤ 0 → ∀ (H : Heap) (locs : List Loc) (ls : Array Slot), f8_unplug_j27 fu x1 y1 σ = some (r, σ') → RS γ ad σ s H locs → lh ls 5 [(0, .ref (gS γ 8 0)), (1, .int x1)] → W p l e (rmo 6 0 0) s m ([.ref (gS γ 8 0), .int a1] : List Value).toArray below meth c H locs cells slots (MQ below (QI γ ad σ' r) ([.ref (gS γ 8 0), .int a1] : List Value).toArray s 0 0 (gA γ)) (F0 m 27 ls [.int y1, .ref (gS γ 8 0)]) := by
    intro x1 y1 σ cells slots hc1 hc2 H locs ls hw hR hl
    unfold f8_unplug_j27 at hw
    refine rw_puti (x := y1) hX hR 8 0 0 800 (C := RX7) (T := TX7) (N := 48) rfl (by decide) rfl rfl (Nat.le_of_ble_eq_true rfl) rfl uw_X7 tyX7 tyX7_ok nmX7 gw_928 rfl rfl (by decide) dX7_unplug_27 (fun σ1 H locs e1 hR1 => ?_)
    replace hR := hR1
    clear hR1
    subst e1
    refine rw_aload_n hX hl 0 rfl (Or.inr ⟨_, rfl⟩) dX7_unplug_30 rfl ?_
    refine rw_get hX hR 8 0 0 (C := RX7) (T := TX7) (N := 48) rfl (by decide) (Nat.le_of_ble_eq_true rfl) rfl (v := .int (gi (zi σ 800 0 y1) 800 0)) rfl uw_X7 gw_928 rfl dX7_unplug_31 ?_
    refine lv_if_eq (x := (gi (zi σ 800 0 y1) 800 0)) (tgt := 39) hX.1.1 hX.1.2.1 dX7_unplug_34 (by decide) (fun c8 => ?_) (fun c8 => ?_)
    · replace hw := if_t hw c8
      refine lv_iconst (v := 1) hX.1.1 hX.1.2.1 dX7_unplug_39 (by decide) ?_
      refine rw_iload_n hX hl 1 rfl dX7_unplug_40 rfl ?_
      refine lv_ishl (x := 1) (y := x1) hX.1.1 hX.1.2.1 dX7_unplug_41 ?_
      refine rw_istore_n (lv' := [(2, .int (1 <<< (x1 &&& 31))), (0, .ref (gS γ 8 0)), (1, .int x1)]) hX hl (by decide) rfl dX7_unplug_42 rfl (fun ls hl1 => ?_)
      replace hl := hl1
      clear hl1
      refine rw_iload_n hX hl 2 rfl dX7_unplug_43 rfl ?_
      refine lv_iconst (v := 1) hX.1.1 hX.1.2.1 dX7_unplug_44 (by decide) ?_
      refine lv_iadd (x := x1) (y := 1) hX.1.1 hX.1.2.1 dX7_unplug_45 ?_
      refine rw_istore_n (lv' := [(3, .int (x1 + 1)), (2, .int (1 <<< (x1 &&& 31))), (0, .ref (gS γ 8 0)), (1, .int x1)]) hX hl (by decide) rfl dX7_unplug_46 rfl (fun ls hl1 => ?_)
      replace hl := hl1
      clear hl1
      exact L47 (zi σ 800 0 y1) _ _ _ _ (by omega) (by omega) _ _ _ hw hR (lh_sub hl [2, 1, 0] rfl)
    · replace hw := if_f hw c8
      refine lv_iconst (v := 0) hX.1.1 hX.1.2.1 dX7_unplug_37 (by decide) ?_
      refine W.widen (k := 0) (n := 0) (by omega) (by omega) ?_
      exact rq_ie hX hR hr hw dX7_unplug_38 hlocks
  refine rw_entry (ca1 rfl (ca1 rfl ca0)) (Nat.le_of_ble_eq_true rfl) (fun ls hl1 => ?_)
  replace hl := hl1
  clear hl1
  refine rw_aload_n hX hl 0 rfl (Or.inr ⟨_, rfl⟩) dX7_unplug_0 rfl ?_
  refine rw_aload_n hX hl 0 rfl (Or.inr ⟨_, rfl⟩) dX7_unplug_1 rfl ?_
  refine rw_iload_n hX hl 1 rfl dX7_unplug_2 rfl ?_
  obtain ⟨v1, g3, hw1⟩ := ob1_some hw
  replace hw := hw1
  clear hw1
  refine rw_cVi hX hR pk_f8_isDevice (mc := 0) (ms := 0) ⟨rfl, rfl, (show 2 + 1 ≤ 6 by omega), (show 8 + (2 + 11) + 64 * 2 ≤ 64 * 6 by omega)⟩ (As := [.int a1]) (rest := [.ref (gS γ 8 0)]) rfl (C_f8_isDevice l γ ad a1 σ v1 g3) gw_1089 gw_1091 gs_53 (rs_recv hX hR 8 0 (C := RX7) (T := TX7) (N := 48) rfl (by decide) (Nat.le_of_ble_eq_true rfl) rfl) rfl hl.1 (ca1 rfl ca0) (Nat.le_of_ble_eq_true rfl) dX7_unplug_3 ⟨(show 0 + 0 ≤ 0 by omega), (show 0 + 0 ≤ 0 by omega)⟩ (fun H locs hR1 => ?_)
  replace hR := hR1
  clear hR1
  refine rw_ifneZ (b := v1) (tgt := 13) hX dX7_unplug_6 (by decide) (fun c4 => ?_) (fun c4 => ?_)
  · replace hw := if_t hw c4
    refine rw_aload_n hX hl 0 rfl (Or.inr ⟨_, rfl⟩) dX7_unplug_13 rfl ?_
    refine rw_get hX hR 8 11 0 (C := RX7) (T := TX7) (N := 48) rfl (by decide) (Nat.le_of_ble_eq_true rfl) rfl (v := .ref (gS γ 1811 0)) rfl uw_X7 gw_939 rfl dX7_unplug_14 ?_
    refine rw_iload_n hX hl 1 rfl dX7_unplug_17 rfl ?_
    obtain ⟨h6, hw1⟩ := ar_some hw
    replace hw := hw1
    clear hw1
    obtain ⟨j5, ej5⟩ : ∃ j, (a1 : Int32).toNatClampNeg = j := ⟨_, rfl⟩
    rw [ej5] at hw
    refine rw_zald hX hR 811 (n := 24) (i := a1) (v := (gb σ 811 j5)) rfl (by decide) rfl rfl h6 (by rw [ej5]) dX7_unplug_18 ?_
    refine rw_ifneZ (b := (gb σ 811 j5)) (tgt := 26) hX dX7_unplug_19 (by decide) (fun c7 => ?_) (fun c7 => ?_)
    · replace hw := if_t hw c7
      refine lv_iconst (v := 0) hX.1.1 hX.1.2.1 dX7_unplug_26 (by decide) ?_
      exact J27 a1 0 σ _ _ (by omega) (by omega) _ _ _ hw hR (lh_sub hl [0, 1] rfl)
    · replace hw := if_f hw c7
      refine lv_iconst (v := 2) hX.1.1 hX.1.2.1 dX7_unplug_22 (by decide) ?_
      refine lv_goto (tgt := 27) hX.1.1 hX.1.2.1 dX7_unplug_23 (by decide) ?_
      exact J27 a1 2 σ _ _ (by omega) (by omega) _ _ _ hw hR (lh_sub hl [0, 1] rfl)
  · replace hw := if_f hw c4
    refine lv_iconst (v := 1) hX.1.1 hX.1.2.1 dX7_unplug_9 (by decide) ?_
    refine lv_goto (tgt := 27) hX.1.1 hX.1.2.1 dX7_unplug_10 (by decide) ?_
    exact J27 a1 1 σ _ _ (by omega) (by omega) _ _ _ hw hR (lh_sub hl [0, 1] rfl)
set_option maxHeartbeats 8000000 in
set_option maxRecDepth 100000 in
theorem C_f8_driver (l : Launch) (γ : GT) (ad : Nat → Nat → Nat) {fu : Nat} (a1 : Int32) (a2 : Int32) (a3 : Int32) (a4 : Bool) (σ : St) (r : Int32) (σ' : St) (hw : f8_driver fu a1 a2 a3 a4 σ = some (r, σ')) : Met l yX7_driver (Cond.code yX7_driver cX7_driver 6 (Option.some Jvm.ClassFile.FieldType.int) :: GW) (rmo 6 0 0) (va_Pc [.ref (gS γ 8 0), .int a1, .int a2, .int a3, .int (b2i a4)] (RU γ ad σ)) (QI γ ad σ' r) 0 0 (gA γ) := by
  refine Met.ofW (cc := cX7_driver) (maxL := 6) (ret := (Option.some Jvm.ClassFile.FieldType.int)) (by decide +kernel) rfl ?_
  intro p e s m args below meth c s₁ B hml hv
  obtain ⟨rfl, hU⟩ := hv
  obtain ⟨hX, hR⟩ := cx_of (own := RX7) B hml rfl hU
  have hr := B.returns
  have hlocks := B.notSynchronized
  have hc0 : (0 : Nat) ≤ 0 := Nat.le_refl 0
  show W p l e (rmo 6 0 0) s m ([.ref (gS γ 8 0), .int a1, .int a2, .int a3, .int (b2i a4)] : List Value).toArray below meth c s.heap [] 0 0 (MQ below (QI γ ad σ' r) ([.ref (gS γ 8 0), .int a1, .int a2, .int a3, .int (b2i a4)] : List Value).toArray s 0 0 (gA γ)) (entryFrame m ([.ref (gS γ 8 0), .int a1, .int a2, .int a3, .int (b2i a4)] : List Value).toArray 6)
  unfold f8_driver at hw
  have J39 : ∀ (x1 : Int32) (x2 : Int32) (x3 : Int32) (x4 : Bool) (y1 : Int32) (σ : St) (cells slots : Nat), cells ≤ 0 → slots ≤ 0 → ∀ (H : Heap) (locs : List Loc) (ls : Array Slot), f8_driver_j39 fu x1 x2 x3 x4 y1 σ = some (r, σ') → RS γ ad σ s H locs → lh ls 6 [(0, .ref (gS γ 8 0)), (1, .int x1), (2, .int x2), (3, .int x3), (4, .int (b2i x4))] → W p l e (rmo 6 0 0) s m ([.ref (gS γ 8 0), .int a1, .int a2, .int a3, .int (b2i a4)] : List Value).toArray below meth c H locs cells slots (MQ below (QI γ ad σ' r) ([.ref (gS γ 8 0), .int a1, .int a2, .int a3, .int (b2i a4)] : List Value).toArray s 0 0 (gA γ)) (F0 m 39 ls [.int y1, .ref (gS γ 8 0)]) := by
    intro x1 x2 x3 x4 y1 σ cells slots hc1 hc2 H locs ls hw hR hl
    unfold f8_driver_j39 at hw
    refine rw_puti (x := y1) hX hR 8 0 0 800 (C := RX7) (T := TX7) (N := 48) rfl (by decide) rfl rfl (Nat.le_of_ble_eq_true rfl) rfl uw_X7 tyX7 tyX7_ok nmX7 gw_928 rfl rfl (by decide) dX7_driver_39 (fun σ1 H locs e1 hR1 => ?_)
    replace hR := hR1
    clear hR1
    subst e1
    refine rw_aload_n hX hl 0 rfl (Or.inr ⟨_, rfl⟩) dX7_driver_42 rfl ?_
    refine rw_get hX hR 8 0 0 (C := RX7) (T := TX7) (N := 48) rfl (by decide) (Nat.le_of_ble_eq_true rfl) rfl (v := .int (gi (zi σ 800 0 y1) 800 0)) rfl uw_X7 gw_928 rfl dX7_driver_43 ?_
    refine lv_if_eq (x := (gi (zi σ 800 0 y1) 800 0)) (tgt := 51) hX.1.1 hX.1.2.1 dX7_driver_46 (by decide) (fun c5 => ?_) (fun c5 => ?_)
    · replace hw := if_t hw c5
      refine rw_aload_n hX hl 0 rfl (Or.inr ⟨_, rfl⟩) dX7_driver_51 rfl ?_
      refine rw_get hX hR 8 24 0 (C := RX7) (T := TX7) (N := 48) rfl (by decide) (Nat.le_of_ble_eq_true rfl) rfl (v := .int (gi (zi σ 800 0 y1) 824 0)) rfl uw_X7 gw_952 rfl dX7_driver_52 ?_
      refine rw_istore (lv' := [(5, .int (gi (zi σ 800 0 y1) 824 0)), (0, .ref (gS γ 8 0)), (1, .int x1), (2, .int x2), (3, .int x3), (4, .int (b2i x4))]) hX hl (by decide) rfl dX7_driver_55 (fun ls hl1 => ?_)
      replace hl := hl1
      clear hl1
      refine rw_aload_n hX hl 1 rfl (Or.inr ⟨_, rfl⟩) dX7_driver_57 rfl ?_
      refine lv_dup hX.1.1 hX.1.2.1 dX7_driver_58 rfl ?_
      refine rw_get hX hR 8 24 0 (C := RX7) (T := TX7) (N := 48) rfl (by decide) (Nat.le_of_ble_eq_true rfl) rfl (v := .int (gi (zi σ 800 0 y1) 824 0)) rfl uw_X7 gw_952 rfl dX7_driver_59 ?_
      refine lv_iconst (v := 1) hX.1.1 hX.1.2.1 dX7_driver_62 (by decide) ?_
      refine lv_iadd (x := (gi (zi σ 800 0 y1) 824 0)) (y := 1) hX.1.1 hX.1.2.1 dX7_driver_63 ?_
      refine rw_puti (x := ((gi (zi σ 800 0 y1) 824 0) + 1)) hX hR 8 24 0 824 (C := RX7) (T := TX7) (N := 48) rfl (by decide) rfl rfl (Nat.le_of_ble_eq_true rfl) rfl uw_X7 tyX7 tyX7_ok nmX7 gw_952 rfl rfl (by decide) dX7_driver_64 (fun σ1 H locs e1 hR1 => ?_)
      replace hR := hR1
      clear hR1
      subst e1
      refine rw_aload_n hX hl 1 rfl (Or.inr ⟨_, rfl⟩) dX7_driver_67 rfl ?_
      refine rw_get hX hR 8 25 0 (C := RX7) (T := TX7) (N := 48) rfl (by decide) (Nat.le_of_ble_eq_true rfl) rfl (v := .ref (gS γ 1825 0)) rfl uw_X7 gw_953 rfl dX7_driver_68 ?_
      refine rw_iload hX hl 0 rfl dX7_driver_71 ?_
      refine rw_iload_n hX hl 2 rfl dX7_driver_73 rfl ?_
      obtain ⟨h7, hw1⟩ := ar_some hw
      replace hw := hw1
      clear hw1
      obtain ⟨j6, ej6⟩ : ∃ j, ((gi (zi σ 800 0 y1) 824 0) : Int32).toNatClampNeg = j := ⟨_, rfl⟩
      rw [ej6] at hw
      refine rw_iast hX hR 825 (n := 8) (i := (gi (zi σ 800 0 y1) 824 0)) (x := x1) rfl (by decide) rfl rfl h7 dX7_driver_74 (fun σ1 H locs e1 hR1 => ?_)
      replace hR := hR1
      clear hR1
      rw [ej6] at e1
      subst e1
      refine rw_aload_n hX hl 1 rfl (Or.inr ⟨_, rfl⟩) dX7_driver_75 rfl ?_
      refine rw_get hX hR 8 26 0 (C := RX7) (T := TX7) (N := 48) rfl (by decide) (Nat.le_of_ble_eq_true rfl) rfl (v := .ref (gS γ 1826 0)) rfl uw_X7 gw_954 rfl dX7_driver_76 ?_
      refine rw_iload hX hl 0 rfl dX7_driver_79 ?_
      refine rw_iload_n hX hl 3 rfl dX7_driver_81 rfl ?_
      obtain ⟨h9, hw1⟩ := ar_some hw
      replace hw := hw1
      clear hw1
      obtain ⟨j8, ej8⟩ : ∃ j, ((gi (zi σ 800 0 y1) 824 0) : Int32).toNatClampNeg = j := ⟨_, rfl⟩
      rw [ej8] at hw
      refine rw_iast hX hR 826 (n := 8) (i := (gi (zi σ 800 0 y1) 824 0)) (x := x2) rfl (by decide) rfl rfl h9 dX7_driver_82 (fun σ1 H locs e1 hR1 => ?_)
      replace hR := hR1
      clear hR1
      rw [ej8] at e1
      subst e1
      refine rw_aload_n hX hl 1 rfl (Or.inr ⟨_, rfl⟩) dX7_driver_83 rfl ?_
      refine rw_get hX hR 8 27 0 (C := RX7) (T := TX7) (N := 48) rfl (by decide) (Nat.le_of_ble_eq_true rfl) rfl (v := .ref (gS γ 1827 0)) rfl uw_X7 gw_955 rfl dX7_driver_84 ?_
      refine rw_iload hX hl 0 rfl dX7_driver_87 ?_
      refine rw_iload_n hX hl 4 rfl dX7_driver_89 rfl ?_
      obtain ⟨h11, hw1⟩ := ar_some hw
      replace hw := hw1
      clear hw1
      obtain ⟨j10, ej10⟩ : ∃ j, ((gi (zi σ 800 0 y1) 824 0) : Int32).toNatClampNeg = j := ⟨_, rfl⟩
      rw [ej10] at hw
      refine rw_iast hX hR 827 (n := 8) (i := (gi (zi σ 800 0 y1) 824 0)) (x := x3) rfl (by decide) rfl rfl h11 dX7_driver_90 (fun σ1 H locs e1 hR1 => ?_)
      replace hR := hR1
      clear hR1
      rw [ej10] at e1
      subst e1
      refine rw_aload_n hX hl 1 rfl (Or.inr ⟨_, rfl⟩) dX7_driver_91 rfl ?_
      refine rw_get hX hR 8 28 0 (C := RX7) (T := TX7) (N := 48) rfl (by decide) (Nat.le_of_ble_eq_true rfl) rfl (v := .ref (gS γ 1828 0)) rfl uw_X7 gw_956 rfl dX7_driver_92 ?_
      refine rw_iload hX hl 0 rfl dX7_driver_95 ?_
      refine rw_iload hX hl 5 rfl dX7_driver_97 ?_
      obtain ⟨h13, hw1⟩ := ar_some hw
      replace hw := hw1
      clear hw1
      obtain ⟨j12, ej12⟩ : ∃ j, ((gi (zi σ 800 0 y1) 824 0) : Int32).toNatClampNeg = j := ⟨_, rfl⟩
      rw [ej12] at hw
      refine rw_zast hX hR 828 (n := 8) (i := (gi (zi σ 800 0 y1) 824 0)) (x := x4) rfl (by decide) rfl rfl h13 dX7_driver_99 (fun σ1 H locs e1 hR1 => ?_)
      replace hR := hR1
      clear hR1
      rw [ej12] at e1
      subst e1
      refine rw_aload_n hX hl 1 rfl (Or.inr ⟨_, rfl⟩) dX7_driver_100 rfl ?_
      obtain ⟨σ15, g16, hw1⟩ := ob1_some hw
      replace hw := hw1
      clear hw1
      refine rw_cVv hX hR pk_f8_settle (mc := 0) (ms := 0) ⟨rfl, rfl, (show 5 + 1 ≤ 6 by omega), (show 8 + (3 + 11) + 64 * 5 ≤ 64 * 6 by omega)⟩ (As := []) (rest := []) rfl (C_f8_settle l γ ad (zb (zi (zi (zi (zi (zi σ 800 0 y1) 824 0 ((gi (zi σ 800 0 y1) 824 0) + 1)) 825 j6 x1) 826 j8 x2) 827 j10 x3) 828 j12 x4) σ15 g16) gw_1093 gw_1095 gs_54 (rs_recv hX hR 8 0 (C := RX7) (T := TX7) (N := 48) rfl (by decide) (Nat.le_of_ble_eq_true rfl) rfl) rfl hl.1 ca0 (Nat.le_of_ble_eq_true rfl) dX7_driver_101 ⟨(show cells + 0 ≤ 0 by omega), (show slots + 0 ≤ 0 by omega)⟩ (fun H locs hR1 => ?_)
      replace hR := hR1
      clear hR1
      refine rw_iload hX hl 0 rfl dX7_driver_104 ?_
      refine W.widen (k := 0) (n := 0) (by omega) (by omega) ?_
      exact rq_ie hX hR hr hw dX7_driver_106 hlocks
    · replace hw := if_f hw c5
      refine lv_iconst (v := 0) hX.1.1 hX.1.2.1 dX7_driver_49 (by decide) ?_
      refine W.widen (k := 0) (n := 0) (by omega) (by omega) ?_
      exact rq_ie hX hR hr hw dX7_driver_50 hlocks
  refine rw_entry (ca1 rfl (ca1 rfl (ca1 rfl (ca1 rfl (ca1 rfl ca0))))) (Nat.le_of_ble_eq_true rfl) (fun ls hl1 => ?_)
  replace hl := hl1
  clear hl1
  refine rw_aload_n hX hl 0 rfl (Or.inr ⟨_, rfl⟩) dX7_driver_0 rfl ?_
  refine rw_iload_n hX hl 2 rfl dX7_driver_1 rfl ?_
  refine lv_iconst (v := 0) hX.1.1 hX.1.2.1 dX7_driver_2 (by decide) ?_
  refine lv_bipush (v := 9) hX.1.1 hX.1.2.1 dX7_driver_3 (by decide) ?_
  obtain ⟨v1, g3, hw1⟩ := ob1_some hw
  replace hw := hw1
  clear hw1
  refine rw_cSi hX hR pk_f8_in (mc := 0) (ms := 0) ⟨rfl, rfl, (show 1 + 1 ≤ 6 by omega), (show 8 + (3 + 11) + 64 * 1 ≤ 64 * 6 by omega)⟩ (As := [.int a2, .int 0, .int 9]) (rest := [.ref (gS γ 8 0)]) rfl (C_f8_in l γ ad a2 0 9 σ v1 g3) gw_1082 gw_1083 rfl hl.1 (ca1 rfl ca0) (Nat.le_of_ble_eq_true rfl) dX7_driver_5 ⟨(show 0 + 0 ≤ 0 by omega), (show 0 + 0 ≤ 0 by omega)⟩ (fun H locs hR1 => ?_)
  replace hR := hR1
  clear hR1
  refine rw_ifeqZ (b := v1) (tgt := 21) hX dX7_driver_8 (by decide) (fun c4 => ?_) (fun c4 => ?_)
  · replace hw := if_f hw c4
    refine lv_iconst (v := 1) hX.1.1 hX.1.2.1 dX7_driver_21 (by decide) ?_
    refine lv_goto (tgt := 39) hX.1.1 hX.1.2.1 dX7_driver_22 (by decide) ?_
    exact J39 a1 a2 a3 a4 1 σ _ _ (by omega) (by omega) _ _ _ hw hR (lh_sub hl [0, 1, 2, 3, 4] rfl)
  · replace hw := if_t hw c4
    refine rw_iload_n hX hl 3 rfl dX7_driver_11 rfl ?_
    refine lv_iconst (v := 0) hX.1.1 hX.1.2.1 dX7_driver_12 (by decide) ?_
    refine lv_bipush (v := 9) hX.1.1 hX.1.2.1 dX7_driver_13 (by decide) ?_
    obtain ⟨v17, g19, hw1⟩ := ob1_some hw
    replace hw := hw1
    clear hw1
    refine rw_cSi hX hR pk_f8_in (mc := 0) (ms := 0) ⟨rfl, rfl, (show 1 + 1 ≤ 6 by omega), (show 8 + (3 + 11) + 64 * 1 ≤ 64 * 6 by omega)⟩ (As := [.int a3, .int 0, .int 9]) (rest := [.ref (gS γ 8 0)]) rfl (C_f8_in l γ ad a3 0 9 σ v17 g19) gw_1082 gw_1083 rfl hl.1 (ca1 rfl ca0) (Nat.le_of_ble_eq_true rfl) dX7_driver_15 ⟨(show (0 + 0) + 0 ≤ 0 by omega), (show (0 + 0) + 0 ≤ 0 by omega)⟩ (fun H locs hR1 => ?_)
    replace hR := hR1
    clear hR1
    refine rw_ifneZ (b := v17) (tgt := 25) hX dX7_driver_18 (by decide) (fun c20 => ?_) (fun c20 => ?_)
    · replace hw := if_t hw c20
      refine rw_aload_n hX hl 0 rfl (Or.inr ⟨_, rfl⟩) dX7_driver_25 rfl ?_
      refine rw_get hX hR 8 24 0 (C := RX7) (T := TX7) (N := 48) rfl (by decide) (Nat.le_of_ble_eq_true rfl) rfl (v := .int (gi σ 824 0)) rfl uw_X7 gw_952 rfl dX7_driver_26 ?_
      refine lv_bipush (v := 8) hX.1.1 hX.1.2.1 dX7_driver_29 (by decide) ?_
      refine lv_icmp_ne (x := (gi σ 824 0)) (y := 8) (tgt := 38) hX.1.1 hX.1.2.1 dX7_driver_31 (by decide) (fun c21 => ?_) (fun c21 => ?_)
      · replace hw := if_f hw c21
        refine lv_iconst (v := 0) hX.1.1 hX.1.2.1 dX7_driver_38 (by decide) ?_
        exact J39 a1 a2 a3 a4 0 σ _ _ (by omega) (by omega) _ _ _ hw hR (lh_sub hl [0, 1, 2, 3, 4] rfl)
      · replace hw := if_t hw c21
        refine lv_iconst (v := 2) hX.1.1 hX.1.2.1 dX7_driver_34 (by decide) ?_
        refine lv_goto (tgt := 39) hX.1.1 hX.1.2.1 dX7_driver_35 (by decide) ?_
        exact J39 a1 a2 a3 a4 2 σ _ _ (by omega) (by omega) _ _ _ hw hR (lh_sub hl [0, 1, 2, 3, 4] rfl)
    · replace hw := if_f hw c20
      refine lv_iconst (v := 1) hX.1.1 hX.1.2.1 dX7_driver_21 (by decide) ?_
      refine lv_goto (tgt := 39) hX.1.1 hX.1.2.1 dX7_driver_22 (by decide) ?_
      exact J39 a1 a2 a3 a4 1 σ _ _ (by omega) (by omega) _ _ _ hw hR (lh_sub hl [0, 1, 2, 3, 4] rfl)
set_option maxHeartbeats 8000000 in
set_option maxRecDepth 100000 in
theorem C_f8_load (l : Launch) (γ : GT) (ad : Nat → Nat → Nat) {fu : Nat} (a1 : Int32) (a2 : Int32) (σ : St) (r : Int32) (σ' : St) (hw : f8_load fu a1 a2 σ = some (r, σ')) : Met l yX7_load (Cond.code yX7_load cX7_load 4 (Option.some Jvm.ClassFile.FieldType.int) :: GW) (rmo 6 0 0) (va_Pc [.ref (gS γ 8 0), .int a1, .int a2] (RU γ ad σ)) (QI γ ad σ' r) 0 0 (gA γ) := by
  refine Met.ofW (cc := cX7_load) (maxL := 4) (ret := (Option.some Jvm.ClassFile.FieldType.int)) (by decide +kernel) rfl ?_
  intro p e s m args below meth c s₁ B hml hv
  obtain ⟨rfl, hU⟩ := hv
  obtain ⟨hX, hR⟩ := cx_of (own := RX7) B hml rfl hU
  have hr := B.returns
  have hlocks := B.notSynchronized
  have hc0 : (0 : Nat) ≤ 0 := Nat.le_refl 0
  show W p l e (rmo 6 0 0) s m ([.ref (gS γ 8 0), .int a1, .int a2] : List Value).toArray below meth c s.heap [] 0 0 (MQ below (QI γ ad σ' r) ([.ref (gS γ 8 0), .int a1, .int a2] : List Value).toArray s 0 0 (gA γ)) (entryFrame m ([.ref (gS γ 8 0), .int a1, .int a2] : List Value).toArray 4)
  unfold f8_load at hw
  have J34 : ∀ (x1 : Int32) (x2 : Int32) (y1 : Int32) (σ : St) (cells slots : Nat), cells ≤ 0 → slots ≤ 0 → ∀ (H : Heap) (locs : List Loc) (ls : Array Slot), f8_load_j34 fu x1 x2 y1 σ = some (r, σ') → RS γ ad σ s H locs → lh ls 4 [(0, .ref (gS γ 8 0)), (1, .int x1), (2, .int x2)] → W p l e (rmo 6 0 0) s m ([.ref (gS γ 8 0), .int a1, .int a2] : List Value).toArray below meth c H locs cells slots (MQ below (QI γ ad σ' r) ([.ref (gS γ 8 0), .int a1, .int a2] : List Value).toArray s 0 0 (gA γ)) (F0 m 34 ls [.int y1, .ref (gS γ 8 0)]) := by
    intro x1 x2 y1 σ cells slots hc1 hc2 H locs ls hw hR hl
    unfold f8_load_j34 at hw
    refine rw_puti (x := y1) hX hR 8 0 0 800 (C := RX7) (T := TX7) (N := 48) rfl (by decide) rfl rfl (Nat.le_of_ble_eq_true rfl) rfl uw_X7 tyX7 tyX7_ok nmX7 gw_928 rfl rfl (by decide) dX7_load_34 (fun σ1 H locs e1 hR1 => ?_)
    replace hR := hR1
    clear hR1
    subst e1
    refine rw_aload_n hX hl 0 rfl (Or.inr ⟨_, rfl⟩) dX7_load_37 rfl ?_
    refine rw_get hX hR 8 0 0 (C := RX7) (T := TX7) (N := 48) rfl (by decide) (Nat.le_of_ble_eq_true rfl) rfl (v := .int (gi (zi σ 800 0 y1) 800 0)) rfl uw_X7 gw_928 rfl dX7_load_38 ?_
    refine lv_if_eq (x := (gi (zi σ 800 0 y1) 800 0)) (tgt := 46) hX.1.1 hX.1.2.1 dX7_load_41 (by decide) (fun c9 => ?_) (fun c9 => ?_)
    · replace hw := if_t hw c9
      refine rw_aload_n hX hl 0 rfl (Or.inr ⟨_, rfl⟩) dX7_load_46 rfl ?_
      refine rw_get hX hR 8 29 0 (C := RX7) (T := TX7) (N := 48) rfl (by decide) (Nat.le_of_ble_eq_true rfl) rfl (v := .ref (gS γ 1829 0)) rfl uw_X7 gw_957 rfl dX7_load_47 ?_
      refine rw_iload_n hX hl 1 rfl dX7_load_50 rfl ?_
      obtain ⟨h11, hw1⟩ := ar_some hw
      replace hw := hw1
      clear hw1
      obtain ⟨j10, ej10⟩ : ∃ j, (x1 : Int32).toNatClampNeg = j := ⟨_, rfl⟩
      rw [ej10] at hw
      refine rw_iald hX hR 829 (n := 8) (i := x1) (v := (gi (zi σ 800 0 y1) 829 j10)) rfl (by decide) rfl rfl h11 (by rw [ej10]) dX7_load_51 ?_
      refine rw_istore_n (lv' := [(3, .int (gi (zi σ 800 0 y1) 829 j10)), (0, .ref (gS γ 8 0)), (1, .int x1), (2, .int x2)]) hX hl (by decide) rfl dX7_load_52 rfl (fun ls hl1 => ?_)
      replace hl := hl1
      clear hl1
      refine rw_aload_n hX hl 1 rfl (Or.inr ⟨_, rfl⟩) dX7_load_53 rfl ?_
      refine rw_get hX hR 8 29 0 (C := RX7) (T := TX7) (N := 48) rfl (by decide) (Nat.le_of_ble_eq_true rfl) rfl (v := .ref (gS γ 1829 0)) rfl uw_X7 gw_957 rfl dX7_load_54 ?_
      refine rw_iload_n hX hl 2 rfl dX7_load_57 rfl ?_
      refine rw_iload_n hX hl 3 rfl dX7_load_58 rfl ?_
      obtain ⟨h13, hw1⟩ := ar_some hw
      replace hw := hw1
      clear hw1
      obtain ⟨j12, ej12⟩ : ∃ j, (x1 : Int32).toNatClampNeg = j := ⟨_, rfl⟩
      rw [ej12] at hw
      refine rw_iast hX hR 829 (n := 8) (i := x1) (x := x2) rfl (by decide) rfl rfl h13 dX7_load_59 (fun σ1 H locs e1 hR1 => ?_)
      replace hR := hR1
      clear hR1
      rw [ej12] at e1
      subst e1
      refine rw_aload_n hX hl 1 rfl (Or.inr ⟨_, rfl⟩) dX7_load_60 rfl ?_
      obtain ⟨σ15, g16, hw1⟩ := ob1_some hw
      replace hw := hw1
      clear hw1
      refine rw_cVv hX hR pk_f8_settle (mc := 0) (ms := 0) ⟨rfl, rfl, (show 5 + 1 ≤ 6 by omega), (show 8 + (3 + 11) + 64 * 5 ≤ 64 * 6 by omega)⟩ (As := []) (rest := []) rfl (C_f8_settle l γ ad (zi (zi σ 800 0 y1) 829 j12 x2) σ15 g16) gw_1093 gw_1095 gs_54 (rs_recv hX hR 8 0 (C := RX7) (T := TX7) (N := 48) rfl (by decide) (Nat.le_of_ble_eq_true rfl) rfl) rfl hl.1 ca0 (Nat.le_of_ble_eq_true rfl) dX7_load_61 ⟨(show cells + 0 ≤ 0 by omega), (show slots + 0 ≤ 0 by omega)⟩ (fun H locs hR1 => ?_)
      replace hR := hR1
      clear hR1
      refine rw_iload_n hX hl 0 rfl dX7_load_64 rfl ?_
      refine W.widen (k := 0) (n := 0) (by omega) (by omega) ?_
      exact rq_ie hX hR hr hw dX7_load_65 hlocks
    · replace hw := if_f hw c9
      refine lv_iconst (v := 0) hX.1.1 hX.1.2.1 dX7_load_44 (by decide) ?_
      refine W.widen (k := 0) (n := 0) (by omega) (by omega) ?_
      exact rq_ie hX hR hr hw dX7_load_45 hlocks
  refine rw_entry (ca1 rfl (ca1 rfl (ca1 rfl ca0))) (Nat.le_of_ble_eq_true rfl) (fun ls hl1 => ?_)
  replace hl := hl1
  clear hl1
  refine rw_aload_n hX hl 0 rfl (Or.inr ⟨_, rfl⟩) dX7_load_0 rfl ?_
  refine rw_iload_n hX hl 1 rfl dX7_load_1 rfl ?_
  refine lv_iconst (v := 0) hX.1.1 hX.1.2.1 dX7_load_2 (by decide) ?_
  refine rw_aload_n hX hl 0 rfl (Or.inr ⟨_, rfl⟩) dX7_load_3 rfl ?_
  refine rw_get hX hR 8 24 0 (C := RX7) (T := TX7) (N := 48) rfl (by decide) (Nat.le_of_ble_eq_true rfl) rfl (v := .int (gi σ 824 0)) rfl uw_X7 gw_952 rfl dX7_load_4 ?_
  refine lv_iconst (v := 1) hX.1.1 hX.1.2.1 dX7_load_7 (by decide) ?_
  refine lv_isub (x := (gi σ 824 0)) (y := 1) hX.1.1 hX.1.2.1 dX7_load_8 ?_
  obtain ⟨v1, g3, hw1⟩ := ob1_some hw
  replace hw := hw1
  clear hw1
  refine rw_cSi hX hR pk_f8_in (mc := 0) (ms := 0) ⟨rfl, rfl, (show 1 + 1 ≤ 6 by omega), (show 8 + (3 + 11) + 64 * 1 ≤ 64 * 6 by omega)⟩ (As := [.int a1, .int 0, .int ((gi σ 824 0) - 1)]) (rest := [.ref (gS γ 8 0)]) rfl (C_f8_in l γ ad a1 0 ((gi σ 824 0) - 1) σ v1 g3) gw_1082 gw_1083 rfl hl.1 (ca1 rfl ca0) (Nat.le_of_ble_eq_true rfl) dX7_load_9 ⟨(show 0 + 0 ≤ 0 by omega), (show 0 + 0 ≤ 0 by omega)⟩ (fun H locs hR1 => ?_)
  replace hR := hR1
  clear hR1
  refine rw_ifneZ (b := v1) (tgt := 19) hX dX7_load_12 (by decide) (fun c4 => ?_) (fun c4 => ?_)
  · replace hw := if_t hw c4
    refine rw_iload_n hX hl 2 rfl dX7_load_19 rfl ?_
    refine lv_iconst (v := 0) hX.1.1 hX.1.2.1 dX7_load_20 (by decide) ?_
    refine lv_bipush (v := 9) hX.1.1 hX.1.2.1 dX7_load_21 (by decide) ?_
    obtain ⟨v5, g7, hw1⟩ := ob1_some hw
    replace hw := hw1
    clear hw1
    refine rw_cSi hX hR pk_f8_in (mc := 0) (ms := 0) ⟨rfl, rfl, (show 1 + 1 ≤ 6 by omega), (show 8 + (3 + 11) + 64 * 1 ≤ 64 * 6 by omega)⟩ (As := [.int a2, .int 0, .int 9]) (rest := [.ref (gS γ 8 0)]) rfl (C_f8_in l γ ad a2 0 9 σ v5 g7) gw_1082 gw_1083 rfl hl.1 (ca1 rfl ca0) (Nat.le_of_ble_eq_true rfl) dX7_load_23 ⟨(show (0 + 0) + 0 ≤ 0 by omega), (show (0 + 0) + 0 ≤ 0 by omega)⟩ (fun H locs hR1 => ?_)
    replace hR := hR1
    clear hR1
    refine rw_ifneZ (b := v5) (tgt := 33) hX dX7_load_26 (by decide) (fun c8 => ?_) (fun c8 => ?_)
    · replace hw := if_t hw c8
      refine lv_iconst (v := 0) hX.1.1 hX.1.2.1 dX7_load_33 (by decide) ?_
      exact J34 a1 a2 0 σ _ _ (by omega) (by omega) _ _ _ hw hR (lh_sub hl [0, 1, 2] rfl)
    · replace hw := if_f hw c8
      refine lv_iconst (v := 2) hX.1.1 hX.1.2.1 dX7_load_29 (by decide) ?_
      refine lv_goto (tgt := 34) hX.1.1 hX.1.2.1 dX7_load_30 (by decide) ?_
      exact J34 a1 a2 2 σ _ _ (by omega) (by omega) _ _ _ hw hR (lh_sub hl [0, 1, 2] rfl)
  · replace hw := if_f hw c4
    refine lv_iconst (v := 1) hX.1.1 hX.1.2.1 dX7_load_15 (by decide) ?_
    refine lv_goto (tgt := 34) hX.1.1 hX.1.2.1 dX7_load_16 (by decide) ?_
    exact J34 a1 a2 1 σ _ _ (by omega) (by omega) _ _ _ hw hR (lh_sub hl [0, 1, 2] rfl)
set_option maxHeartbeats 8000000 in
set_option maxRecDepth 100000 in
theorem C_f8_unbind (l : Launch) (γ : GT) (ad : Nat → Nat → Nat) {fu : Nat} (a1 : Int32) (σ : St) (r : Int32) (σ' : St) (hw : f8_unbind fu a1 σ = some (r, σ')) : Met l yX7_unbind (Cond.code yX7_unbind cX7_unbind 3 (Option.some Jvm.ClassFile.FieldType.int) :: GW) (rmo 6 0 0) (va_Pc [.ref (gS γ 8 0), .int a1] (RU γ ad σ)) (QI γ ad σ' r) 0 0 (gA γ) := by
  refine Met.ofW (cc := cX7_unbind) (maxL := 3) (ret := (Option.some Jvm.ClassFile.FieldType.int)) (by decide +kernel) rfl ?_
  intro p e s m args below meth c s₁ B hml hv
  obtain ⟨rfl, hU⟩ := hv
  obtain ⟨hX, hR⟩ := cx_of (own := RX7) B hml rfl hU
  have hr := B.returns
  have hlocks := B.notSynchronized
  have hc0 : (0 : Nat) ≤ 0 := Nat.le_refl 0
  show W p l e (rmo 6 0 0) s m ([.ref (gS γ 8 0), .int a1] : List Value).toArray below meth c s.heap [] 0 0 (MQ below (QI γ ad σ' r) ([.ref (gS γ 8 0), .int a1] : List Value).toArray s 0 0 (gA γ)) (entryFrame m ([.ref (gS γ 8 0), .int a1] : List Value).toArray 3)
  unfold f8_unbind at hw
  have J26 : ∀ (x1 : Int32) (y1 : Int32) (σ : St) (cells slots : Nat), cells ≤ 0 → slots ≤ 0 → ∀ (H : Heap) (locs : List Loc) (ls : Array Slot), f8_unbind_j26 fu x1 y1 σ = some (r, σ') → RS γ ad σ s H locs → lh ls 3 [(0, .ref (gS γ 8 0)), (1, .int x1)] → W p l e (rmo 6 0 0) s m ([.ref (gS γ 8 0), .int a1] : List Value).toArray below meth c H locs cells slots (MQ below (QI γ ad σ' r) ([.ref (gS γ 8 0), .int a1] : List Value).toArray s 0 0 (gA γ)) (F0 m 26 ls [.int y1, .ref (gS γ 8 0)]) := by
    intro x1 y1 σ cells slots hc1 hc2 H locs ls hw hR hl
    unfold f8_unbind_j26 at hw
    refine rw_puti (x := y1) hX hR 8 0 0 800 (C := RX7) (T := TX7) (N := 48) rfl (by decide) rfl rfl (Nat.le_of_ble_eq_true rfl) rfl uw_X7 tyX7 tyX7_ok nmX7 gw_928 rfl rfl (by decide) dX7_unbind_26 (fun σ1 H locs e1 hR1 => ?_)
    replace hR := hR1
    clear hR1
    subst e1
    refine rw_aload_n hX hl 0 rfl (Or.inr ⟨_, rfl⟩) dX7_unbind_29 rfl ?_
    refine rw_get hX hR 8 0 0 (C := RX7) (T := TX7) (N := 48) rfl (by decide) (Nat.le_of_ble_eq_true rfl) rfl (v := .int (gi (zi σ 800 0 y1) 800 0)) rfl uw_X7 gw_928 rfl dX7_unbind_30 ?_
    refine lv_if_eq (x := (gi (zi σ 800 0 y1) 800 0)) (tgt := 38) hX.1.1 hX.1.2.1 dX7_unbind_33 (by decide) (fun c9 => ?_) (fun c9 => ?_)
    · replace hw := if_t hw c9
      refine rw_aload_n hX hl 0 rfl (Or.inr ⟨_, rfl⟩) dX7_unbind_38 rfl ?_
      refine lv_iconst (v := 1) hX.1.1 hX.1.2.1 dX7_unbind_39 (by decide) ?_
      refine rw_iload_n hX hl 1 rfl dX7_unbind_40 rfl ?_
      refine lv_ishl (x := 1) (y := x1) hX.1.1 hX.1.2.1 dX7_unbind_41 ?_
      obtain ⟨v10, σ11, g12, hw1⟩ := ob2_some hw
      replace hw := hw1
      clear hw1
      refine rw_cVi hX hR pk_f8_unbindAll (mc := 0) (ms := 0) ⟨rfl, rfl, (show 3 + 1 ≤ 6 by omega), (show 8 + (6 + 11) + 64 * 3 ≤ 64 * 6 by omega)⟩ (As := [.int (1 <<< (x1 &&& 31))]) (rest := []) rfl (C_f8_unbindAll l γ ad (1 <<< (x1 &&& 31)) (zi σ 800 0 y1) v10 σ11 g12) gw_1148 gw_1150 gs_66 (rs_recv hX hR 8 0 (C := RX7) (T := TX7) (N := 48) rfl (by decide) (Nat.le_of_ble_eq_true rfl) rfl) rfl hl.1 ca0 (Nat.le_of_ble_eq_true rfl) dX7_unbind_42 ⟨(show cells + 0 ≤ 0 by omega), (show slots + 0 ≤ 0 by omega)⟩ (fun H locs hR1 => ?_)
      replace hR := hR1
      clear hR1
      refine rw_istore_n (lv' := [(2, .int v10), (0, .ref (gS γ 8 0)), (1, .int x1)]) hX hl (by decide) rfl dX7_unbind_45 rfl (fun ls hl1 => ?_)
      replace hl := hl1
      clear hl1
      refine rw_aload_n hX hl 1 rfl (Or.inr ⟨_, rfl⟩) dX7_unbind_46 rfl ?_
      refine rw_get hX hR 8 18 0 (C := RX7) (T := TX7) (N := 48) rfl (by decide) (Nat.le_of_ble_eq_true rfl) rfl (v := .ref (gS γ 1818 0)) rfl uw_X7 gw_946 rfl dX7_unbind_47 ?_
      refine rw_iload_n hX hl 2 rfl dX7_unbind_50 rfl ?_
      refine lv_iconst (v := 1) hX.1.1 hX.1.2.1 dX7_unbind_51 (by decide) ?_
      obtain ⟨h14, hw1⟩ := ar_some hw
      replace hw := hw1
      clear hw1
      obtain ⟨j13, ej13⟩ : ∃ j, (x1 : Int32).toNatClampNeg = j := ⟨_, rfl⟩
      rw [ej13] at hw
      refine rw_zast hX hR 818 (n := 24) (i := x1) (x := true) rfl (by decide) rfl rfl h14 dX7_unbind_52 (fun σ1 H locs e1 hR1 => ?_)
      replace hR := hR1
      clear hR1
      rw [ej13] at e1
      subst e1
      refine rw_aload_n hX hl 1 rfl (Or.inr ⟨_, rfl⟩) dX7_unbind_53 rfl ?_
      obtain ⟨σ16, g17, hw1⟩ := ob1_some hw
      replace hw := hw1
      clear hw1
      refine rw_cVv hX hR pk_f8_settle (mc := 0) (ms := 0) ⟨rfl, rfl, (show 5 + 1 ≤ 6 by omega), (show 8 + (3 + 11) + 64 * 5 ≤ 64 * 6 by omega)⟩ (As := []) (rest := []) rfl (C_f8_settle l γ ad (zb σ11 818 j13 true) σ16 g17) gw_1093 gw_1095 gs_54 (rs_recv hX hR 8 0 (C := RX7) (T := TX7) (N := 48) rfl (by decide) (Nat.le_of_ble_eq_true rfl) rfl) rfl hl.1 ca0 (Nat.le_of_ble_eq_true rfl) dX7_unbind_54 ⟨(show (cells + 0) + 0 ≤ 0 by omega), (show (slots + 0) + 0 ≤ 0 by omega)⟩ (fun H locs hR1 => ?_)
      replace hR := hR1
      clear hR1
      refine rw_iload_n hX hl 0 rfl dX7_unbind_57 rfl ?_
      refine W.widen (k := 0) (n := 0) (by omega) (by omega) ?_
      exact rq_ie hX hR hr hw dX7_unbind_58 hlocks
    · replace hw := if_f hw c9
      refine lv_iconst (v := 0) hX.1.1 hX.1.2.1 dX7_unbind_36 (by decide) ?_
      refine W.widen (k := 0) (n := 0) (by omega) (by omega) ?_
      exact rq_ie hX hR hr hw dX7_unbind_37 hlocks
  refine rw_entry (ca1 rfl (ca1 rfl ca0)) (Nat.le_of_ble_eq_true rfl) (fun ls hl1 => ?_)
  replace hl := hl1
  clear hl1
  refine rw_aload_n hX hl 0 rfl (Or.inr ⟨_, rfl⟩) dX7_unbind_0 rfl ?_
  refine rw_aload_n hX hl 0 rfl (Or.inr ⟨_, rfl⟩) dX7_unbind_1 rfl ?_
  refine rw_iload_n hX hl 1 rfl dX7_unbind_2 rfl ?_
  obtain ⟨v1, g3, hw1⟩ := ob1_some hw
  replace hw := hw1
  clear hw1
  refine rw_cVi hX hR pk_f8_isDevice (mc := 0) (ms := 0) ⟨rfl, rfl, (show 2 + 1 ≤ 6 by omega), (show 8 + (2 + 11) + 64 * 2 ≤ 64 * 6 by omega)⟩ (As := [.int a1]) (rest := [.ref (gS γ 8 0)]) rfl (C_f8_isDevice l γ ad a1 σ v1 g3) gw_1089 gw_1091 gs_53 (rs_recv hX hR 8 0 (C := RX7) (T := TX7) (N := 48) rfl (by decide) (Nat.le_of_ble_eq_true rfl) rfl) rfl hl.1 (ca1 rfl ca0) (Nat.le_of_ble_eq_true rfl) dX7_unbind_3 ⟨(show 0 + 0 ≤ 0 by omega), (show 0 + 0 ≤ 0 by omega)⟩ (fun H locs hR1 => ?_)
  replace hR := hR1
  clear hR1
  refine rw_ifneZ (b := v1) (tgt := 13) hX dX7_unbind_6 (by decide) (fun c4 => ?_) (fun c4 => ?_)
  · replace hw := if_t hw c4
    refine rw_aload_n hX hl 0 rfl (Or.inr ⟨_, rfl⟩) dX7_unbind_13 rfl ?_
    refine rw_iload_n hX hl 1 rfl dX7_unbind_14 rfl ?_
    obtain ⟨v5, g7, hw1⟩ := ob1_some hw
    replace hw := hw1
    clear hw1
    refine rw_cVi hX hR pk_f8_isBound (mc := 0) (ms := 0) ⟨rfl, rfl, (show 1 + 1 ≤ 6 by omega), (show 8 + (2 + 11) + 64 * 1 ≤ 64 * 6 by omega)⟩ (As := [.int a1]) (rest := [.ref (gS γ 8 0)]) rfl (C_f8_isBound l γ ad a1 σ v5 g7) gw_1097 gw_1099 gs_55 (rs_recv hX hR 8 0 (C := RX7) (T := TX7) (N := 48) rfl (by decide) (Nat.le_of_ble_eq_true rfl) rfl) rfl hl.1 (ca1 rfl ca0) (Nat.le_of_ble_eq_true rfl) dX7_unbind_15 ⟨(show (0 + 0) + 0 ≤ 0 by omega), (show (0 + 0) + 0 ≤ 0 by omega)⟩ (fun H locs hR1 => ?_)
    replace hR := hR1
    clear hR1
    refine rw_ifneZ (b := v5) (tgt := 25) hX dX7_unbind_18 (by decide) (fun c8 => ?_) (fun c8 => ?_)
    · replace hw := if_t hw c8
      refine lv_iconst (v := 0) hX.1.1 hX.1.2.1 dX7_unbind_25 (by decide) ?_
      exact J26 a1 0 σ _ _ (by omega) (by omega) _ _ _ hw hR (lh_sub hl [0, 1] rfl)
    · replace hw := if_f hw c8
      refine lv_iconst (v := 2) hX.1.1 hX.1.2.1 dX7_unbind_21 (by decide) ?_
      refine lv_goto (tgt := 26) hX.1.1 hX.1.2.1 dX7_unbind_22 (by decide) ?_
      exact J26 a1 2 σ _ _ (by omega) (by omega) _ _ _ hw hR (lh_sub hl [0, 1] rfl)
  · replace hw := if_f hw c4
    refine lv_iconst (v := 1) hX.1.1 hX.1.2.1 dX7_unbind_9 (by decide) ?_
    refine lv_goto (tgt := 26) hX.1.1 hX.1.2.1 dX7_unbind_10 (by decide) ?_
    exact J26 a1 1 σ _ _ (by omega) (by omega) _ _ _ hw hR (lh_sub hl [0, 1] rfl)
set_option maxHeartbeats 8000000 in
set_option maxRecDepth 100000 in
theorem C_f8_bind (l : Launch) (γ : GT) (ad : Nat → Nat → Nat) {fu : Nat} (a1 : Int32) (σ : St) (r : Int32) (σ' : St) (hw : f8_bind fu a1 σ = some (r, σ')) : Met l yX7_bind (Cond.code yX7_bind cX7_bind 3 (Option.some Jvm.ClassFile.FieldType.int) :: GW) (rmo 6 0 0) (va_Pc [.ref (gS γ 8 0), .int a1] (RU γ ad σ)) (QI γ ad σ' r) 0 0 (gA γ) := by
  refine Met.ofW (cc := cX7_bind) (maxL := 3) (ret := (Option.some Jvm.ClassFile.FieldType.int)) (by decide +kernel) rfl ?_
  intro p e s m args below meth c s₁ B hml hv
  obtain ⟨rfl, hU⟩ := hv
  obtain ⟨hX, hR⟩ := cx_of (own := RX7) B hml rfl hU
  have hr := B.returns
  have hlocks := B.notSynchronized
  have hc0 : (0 : Nat) ≤ 0 := Nat.le_refl 0
  show W p l e (rmo 6 0 0) s m ([.ref (gS γ 8 0), .int a1] : List Value).toArray below meth c s.heap [] 0 0 (MQ below (QI γ ad σ' r) ([.ref (gS γ 8 0), .int a1] : List Value).toArray s 0 0 (gA γ)) (entryFrame m ([.ref (gS γ 8 0), .int a1] : List Value).toArray 3)
  unfold f8_bind at hw
  have J36 : ∀ (x1 : Int32) (y1 : Int32) (σ : St) (cells slots : Nat), cells ≤ 0 → slots ≤ 0 → ∀ (H : Heap) (locs : List Loc) (ls : Array Slot), f8_bind_j36 fu x1 y1 σ = some (r, σ') → RS γ ad σ s H locs → lh ls 3 [(0, .ref (gS γ 8 0)), (1, .int x1)] → W p l e (rmo 6 0 0) s m ([.ref (gS γ 8 0), .int a1] : List Value).toArray below meth c H locs cells slots (MQ below (QI γ ad σ' r) ([.ref (gS γ 8 0), .int a1] : List Value).toArray s 0 0 (gA γ)) (F0 m 36 ls [.int y1, .ref (gS γ 8 0)]) := by
    intro x1 y1 σ cells slots hc1 hc2 H locs ls hw hR hl
    unfold f8_bind_j36 at hw
    refine rw_puti (x := y1) hX hR 8 0 0 800 (C := RX7) (T := TX7) (N := 48) rfl (by decide) rfl rfl (Nat.le_of_ble_eq_true rfl) rfl uw_X7 tyX7 tyX7_ok nmX7 gw_928 rfl rfl (by decide) dX7_bind_36 (fun σ1 H locs e1 hR1 => ?_)
    replace hR := hR1
    clear hR1
    subst e1
    refine rw_aload_n hX hl 0 rfl (Or.inr ⟨_, rfl⟩) dX7_bind_39 rfl ?_
    refine rw_get hX hR 8 0 0 (C := RX7) (T := TX7) (N := 48) rfl (by decide) (Nat.le_of_ble_eq_true rfl) rfl (v := .int (gi (zi σ 800 0 y1) 800 0)) rfl uw_X7 gw_928 rfl dX7_bind_40 ?_
    refine lv_if_eq (x := (gi (zi σ 800 0 y1) 800 0)) (tgt := 48) hX.1.1 hX.1.2.1 dX7_bind_43 (by decide) (fun c8 => ?_) (fun c8 => ?_)
    · replace hw := if_t hw c8
      refine rw_aload_n hX hl 0 rfl (Or.inr ⟨_, rfl⟩) dX7_bind_48 rfl ?_
      refine rw_get hX hR 8 18 0 (C := RX7) (T := TX7) (N := 48) rfl (by decide) (Nat.le_of_ble_eq_true rfl) rfl (v := .ref (gS γ 1818 0)) rfl uw_X7 gw_946 rfl dX7_bind_49 ?_
      refine rw_iload_n hX hl 1 rfl dX7_bind_52 rfl ?_
      refine lv_iconst (v := 0) hX.1.1 hX.1.2.1 dX7_bind_53 (by decide) ?_
      obtain ⟨h10, hw1⟩ := ar_some hw
      replace hw := hw1
      clear hw1
      obtain ⟨j9, ej9⟩ : ∃ j, (x1 : Int32).toNatClampNeg = j := ⟨_, rfl⟩
      rw [ej9] at hw
      refine rw_zast hX hR 818 (n := 24) (i := x1) (x := false) rfl (by decide) rfl rfl h10 dX7_bind_54 (fun σ1 H locs e1 hR1 => ?_)
      replace hR := hR1
      clear hR1
      rw [ej9] at e1
      subst e1
      refine rw_aload_n hX hl 0 rfl (Or.inr ⟨_, rfl⟩) dX7_bind_55 rfl ?_
      refine rw_iload_n hX hl 1 rfl dX7_bind_56 rfl ?_
      obtain ⟨v11, g13, hw1⟩ := ob1_some hw
      replace hw := hw1
      clear hw1
      refine rw_cVi hX hR pk_f8_refused (mc := 0) (ms := 0) ⟨rfl, rfl, (show 4 + 1 ≤ 6 by omega), (show 8 + (3 + 11) + 64 * 4 ≤ 64 * 6 by omega)⟩ (As := [.int x1]) (rest := []) rfl (C_f8_refused l γ ad x1 (zb (zi σ 800 0 y1) 818 j9 false) v11 g13) gw_1101 gw_1103 gs_56 (rs_recv hX hR 8 0 (C := RX7) (T := TX7) (N := 48) rfl (by decide) (Nat.le_of_ble_eq_true rfl) rfl) rfl hl.1 ca0 (Nat.le_of_ble_eq_true rfl) dX7_bind_57 ⟨(show cells + 0 ≤ 0 by omega), (show slots + 0 ≤ 0 by omega)⟩ (fun H locs hR1 => ?_)
      replace hR := hR1
      clear hR1
      refine rw_istore_n (lv' := [(2, .int v11), (0, .ref (gS γ 8 0)), (1, .int x1)]) hX hl (by decide) rfl dX7_bind_60 rfl (fun ls hl1 => ?_)
      replace hl := hl1
      clear hl1
      refine rw_aload_n hX hl 1 rfl (Or.inr ⟨_, rfl⟩) dX7_bind_61 rfl ?_
      obtain ⟨σ15, g16, hw1⟩ := ob1_some hw
      replace hw := hw1
      clear hw1
      refine rw_cVv hX hR pk_f8_settle (mc := 0) (ms := 0) ⟨rfl, rfl, (show 5 + 1 ≤ 6 by omega), (show 8 + (3 + 11) + 64 * 5 ≤ 64 * 6 by omega)⟩ (As := []) (rest := []) rfl (C_f8_settle l γ ad (zb (zi σ 800 0 y1) 818 j9 false) σ15 g16) gw_1093 gw_1095 gs_54 (rs_recv hX hR 8 0 (C := RX7) (T := TX7) (N := 48) rfl (by decide) (Nat.le_of_ble_eq_true rfl) rfl) rfl hl.1 ca0 (Nat.le_of_ble_eq_true rfl) dX7_bind_62 ⟨(show (cells + 0) + 0 ≤ 0 by omega), (show (slots + 0) + 0 ≤ 0 by omega)⟩ (fun H locs hR1 => ?_)
      replace hR := hR1
      clear hR1
      refine rw_iload_n hX hl 0 rfl dX7_bind_65 rfl ?_
      refine W.widen (k := 0) (n := 0) (by omega) (by omega) ?_
      exact rq_ie hX hR hr hw dX7_bind_66 hlocks
    · replace hw := if_f hw c8
      refine lv_iconst (v := 0) hX.1.1 hX.1.2.1 dX7_bind_46 (by decide) ?_
      refine W.widen (k := 0) (n := 0) (by omega) (by omega) ?_
      exact rq_ie hX hR hr hw dX7_bind_47 hlocks
  refine rw_entry (ca1 rfl (ca1 rfl ca0)) (Nat.le_of_ble_eq_true rfl) (fun ls hl1 => ?_)
  replace hl := hl1
  clear hl1
  refine rw_aload_n hX hl 0 rfl (Or.inr ⟨_, rfl⟩) dX7_bind_0 rfl ?_
  refine rw_aload_n hX hl 0 rfl (Or.inr ⟨_, rfl⟩) dX7_bind_1 rfl ?_
  refine rw_iload_n hX hl 1 rfl dX7_bind_2 rfl ?_
  obtain ⟨v1, g3, hw1⟩ := ob1_some hw
  replace hw := hw1
  clear hw1
  refine rw_cVi hX hR pk_f8_isDevice (mc := 0) (ms := 0) ⟨rfl, rfl, (show 2 + 1 ≤ 6 by omega), (show 8 + (2 + 11) + 64 * 2 ≤ 64 * 6 by omega)⟩ (As := [.int a1]) (rest := [.ref (gS γ 8 0)]) rfl (C_f8_isDevice l γ ad a1 σ v1 g3) gw_1089 gw_1091 gs_53 (rs_recv hX hR 8 0 (C := RX7) (T := TX7) (N := 48) rfl (by decide) (Nat.le_of_ble_eq_true rfl) rfl) rfl hl.1 (ca1 rfl ca0) (Nat.le_of_ble_eq_true rfl) dX7_bind_3 ⟨(show 0 + 0 ≤ 0 by omega), (show 0 + 0 ≤ 0 by omega)⟩ (fun H locs hR1 => ?_)
  replace hR := hR1
  clear hR1
  refine rw_ifneZ (b := v1) (tgt := 13) hX dX7_bind_6 (by decide) (fun c4 => ?_) (fun c4 => ?_)
  · replace hw := if_t hw c4
    refine rw_aload_n hX hl 0 rfl (Or.inr ⟨_, rfl⟩) dX7_bind_13 rfl ?_
    refine rw_get hX hR 8 18 0 (C := RX7) (T := TX7) (N := 48) rfl (by decide) (Nat.le_of_ble_eq_true rfl) rfl (v := .ref (gS γ 1818 0)) rfl uw_X7 gw_946 rfl dX7_bind_14 ?_
    refine rw_iload_n hX hl 1 rfl dX7_bind_17 rfl ?_
    obtain ⟨h6, hw1⟩ := ar_some hw
    replace hw := hw1
    clear hw1
    obtain ⟨j5, ej5⟩ : ∃ j, (a1 : Int32).toNatClampNeg = j := ⟨_, rfl⟩
    rw [ej5] at hw
    refine rw_zald hX hR 818 (n := 24) (i := a1) (v := (gb σ 818 j5)) rfl (by decide) rfl rfl h6 (by rw [ej5]) dX7_bind_18 ?_
    refine rw_ifeqZ (b := (gb σ 818 j5)) (tgt := 31) hX dX7_bind_19 (by decide) (fun c7 => ?_) (fun c7 => ?_)
    · replace hw := if_f hw c7
      refine lv_iconst (v := 2) hX.1.1 hX.1.2.1 dX7_bind_31 (by decide) ?_
      refine lv_goto (tgt := 36) hX.1.1 hX.1.2.1 dX7_bind_32 (by decide) ?_
      exact J36 a1 2 σ _ _ (by omega) (by omega) _ _ _ hw hR (lh_sub hl [0, 1] rfl)
    · replace hw := if_t hw c7
      refine rw_aload_n hX hl 0 rfl (Or.inr ⟨_, rfl⟩) dX7_bind_22 rfl ?_
      refine rw_get hX hR 8 11 0 (C := RX7) (T := TX7) (N := 48) rfl (by decide) (Nat.le_of_ble_eq_true rfl) rfl (v := .ref (gS γ 1811 0)) rfl uw_X7 gw_939 rfl dX7_bind_23 ?_
      refine rw_iload_n hX hl 1 rfl dX7_bind_26 rfl ?_
      obtain ⟨h18, hw1⟩ := ar_some hw
      replace hw := hw1
      clear hw1
      obtain ⟨j17, ej17⟩ : ∃ j, (a1 : Int32).toNatClampNeg = j := ⟨_, rfl⟩
      rw [ej17] at hw
      refine rw_zald hX hR 811 (n := 24) (i := a1) (v := (gb σ 811 j17)) rfl (by decide) rfl rfl h18 (by rw [ej17]) dX7_bind_27 ?_
      refine rw_ifneZ (b := (gb σ 811 j17)) (tgt := 35) hX dX7_bind_28 (by decide) (fun c19 => ?_) (fun c19 => ?_)
      · replace hw := if_t hw c19
        refine lv_iconst (v := 0) hX.1.1 hX.1.2.1 dX7_bind_35 (by decide) ?_
        exact J36 a1 0 σ _ _ (by omega) (by omega) _ _ _ hw hR (lh_sub hl [0, 1] rfl)
      · replace hw := if_f hw c19
        refine lv_iconst (v := 2) hX.1.1 hX.1.2.1 dX7_bind_31 (by decide) ?_
        refine lv_goto (tgt := 36) hX.1.1 hX.1.2.1 dX7_bind_32 (by decide) ?_
        exact J36 a1 2 σ _ _ (by omega) (by omega) _ _ _ hw hR (lh_sub hl [0, 1] rfl)
  · replace hw := if_f hw c4
    refine lv_iconst (v := 1) hX.1.1 hX.1.2.1 dX7_bind_9 (by decide) ?_
    refine lv_goto (tgt := 36) hX.1.1 hX.1.2.1 dX7_bind_10 (by decide) ?_
    exact J36 a1 1 σ _ _ (by omega) (by omega) _ _ _ hw hR (lh_sub hl [0, 1] rfl)
set_option maxHeartbeats 8000000 in
set_option maxRecDepth 100000 in
theorem C_f8_reset (l : Launch) (γ : GT) (ad : Nat → Nat → Nat) {fu : Nat} (a1 : Int32) (σ : St) (r : Int32) (σ' : St) (hw : f8_reset fu a1 σ = some (r, σ')) : Met l yX7_reset (Cond.code yX7_reset cX7_reset 3 (Option.some Jvm.ClassFile.FieldType.int) :: GW) (rmo 6 0 0) (va_Pc [.ref (gS γ 8 0), .int a1] (RU γ ad σ)) (QI γ ad σ' r) 0 0 (gA γ) := by
  refine Met.ofW (cc := cX7_reset) (maxL := 3) (ret := (Option.some Jvm.ClassFile.FieldType.int)) (by decide +kernel) rfl ?_
  intro p e s m args below meth c s₁ B hml hv
  obtain ⟨rfl, hU⟩ := hv
  obtain ⟨hX, hR⟩ := cx_of (own := RX7) B hml rfl hU
  have hr := B.returns
  have hlocks := B.notSynchronized
  have hc0 : (0 : Nat) ≤ 0 := Nat.le_refl 0
  show W p l e (rmo 6 0 0) s m ([.ref (gS γ 8 0), .int a1] : List Value).toArray below meth c s.heap [] 0 0 (MQ below (QI γ ad σ' r) ([.ref (gS γ 8 0), .int a1] : List Value).toArray s 0 0 (gA γ)) (entryFrame m ([.ref (gS γ 8 0), .int a1] : List Value).toArray 3)
  unfold f8_reset at hw
  have J33 : ∀ (x1 : Int32) (y1 : Int32) (σ : St) (cells slots : Nat), cells ≤ 0 → slots ≤ 0 → ∀ (H : Heap) (locs : List Loc) (ls : Array Slot), f8_reset_j33 fu x1 y1 σ = some (r, σ') → RS γ ad σ s H locs → lh ls 3 [(0, .ref (gS γ 8 0)), (1, .int x1)] → W p l e (rmo 6 0 0) s m ([.ref (gS γ 8 0), .int a1] : List Value).toArray below meth c H locs cells slots (MQ below (QI γ ad σ' r) ([.ref (gS γ 8 0), .int a1] : List Value).toArray s 0 0 (gA γ)) (F0 m 33 ls [.int y1, .ref (gS γ 8 0)]) := by
    intro x1 y1 σ cells slots hc1 hc2 H locs ls hw hR hl
    unfold f8_reset_j33 at hw
    refine rw_puti (x := y1) hX hR 8 0 0 800 (C := RX7) (T := TX7) (N := 48) rfl (by decide) rfl rfl (Nat.le_of_ble_eq_true rfl) rfl uw_X7 tyX7 tyX7_ok nmX7 gw_928 rfl rfl (by decide) dX7_reset_33 (fun σ1 H locs e1 hR1 => ?_)
    replace hR := hR1
    clear hR1
    subst e1
    refine rw_aload_n hX hl 0 rfl (Or.inr ⟨_, rfl⟩) dX7_reset_36 rfl ?_
    refine rw_get hX hR 8 0 0 (C := RX7) (T := TX7) (N := 48) rfl (by decide) (Nat.le_of_ble_eq_true rfl) rfl (v := .int (gi (zi σ 800 0 y1) 800 0)) rfl uw_X7 gw_928 rfl dX7_reset_37 ?_
    refine lv_if_eq (x := (gi (zi σ 800 0 y1) 800 0)) (tgt := 45) hX.1.1 hX.1.2.1 dX7_reset_40 (by decide) (fun c9 => ?_) (fun c9 => ?_)
    · replace hw := if_t hw c9
      refine rw_aload_n hX hl 0 rfl (Or.inr ⟨_, rfl⟩) dX7_reset_45 rfl ?_
      refine rw_iload_n hX hl 1 rfl dX7_reset_46 rfl ?_
      obtain ⟨v10, σ11, g12, hw1⟩ := ob2_some hw
      replace hw := hw1
      clear hw1
      refine rw_cVi hX hR pk_f8_endCalls (mc := 0) (ms := 0) ⟨rfl, rfl, (show 1 + 1 ≤ 6 by omega), (show 8 + (4 + 11) + 64 * 1 ≤ 64 * 6 by omega)⟩ (As := [.int x1]) (rest := []) rfl (C_f8_endCalls l γ ad x1 (zi σ 800 0 y1) v10 σ11 g12) gw_1156 gw_1158 gs_68 (rs_recv hX hR 8 0 (C := RX7) (T := TX7) (N := 48) rfl (by decide) (Nat.le_of_ble_eq_true rfl) rfl) rfl hl.1 ca0 (Nat.le_of_ble_eq_true rfl) dX7_reset_47 ⟨(show cells + 0 ≤ 0 by omega), (show slots + 0 ≤ 0 by omega)⟩ (fun H locs hR1 => ?_)
      replace hR := hR1
      clear hR1
      refine rw_istore_n (lv' := [(2, .int v10), (0, .ref (gS γ 8 0)), (1, .int x1)]) hX hl (by decide) rfl dX7_reset_50 rfl (fun ls hl1 => ?_)
      replace hl := hl1
      clear hl1
      refine rw_aload_n hX hl 1 rfl (Or.inr ⟨_, rfl⟩) dX7_reset_51 rfl ?_
      refine rw_iload_n hX hl 2 rfl dX7_reset_52 rfl ?_
      obtain ⟨σ14, g15, hw1⟩ := ob1_some hw
      replace hw := hw1
      clear hw1
      refine rw_cVv hX hR pk_f8_letMaps (mc := 0) (ms := 0) ⟨rfl, rfl, (show 1 + 1 ≤ 6 by omega), (show 8 + (3 + 11) + 64 * 1 ≤ 64 * 6 by omega)⟩ (As := [.int x1]) (rest := []) rfl (C_f8_letMaps l γ ad x1 σ11 σ14 g15) gw_1160 gw_1162 gs_69 (rs_recv hX hR 8 0 (C := RX7) (T := TX7) (N := 48) rfl (by decide) (Nat.le_of_ble_eq_true rfl) rfl) rfl hl.1 ca0 (Nat.le_of_ble_eq_true rfl) dX7_reset_53 ⟨(show (cells + 0) + 0 ≤ 0 by omega), (show (slots + 0) + 0 ≤ 0 by omega)⟩ (fun H locs hR1 => ?_)
      replace hR := hR1
      clear hR1
      refine rw_aload_n hX hl 1 rfl (Or.inr ⟨_, rfl⟩) dX7_reset_56 rfl ?_
      refine rw_get hX hR 8 15 0 (C := RX7) (T := TX7) (N := 48) rfl (by decide) (Nat.le_of_ble_eq_true rfl) rfl (v := .ref (gS γ 1815 0)) rfl uw_X7 gw_943 rfl dX7_reset_57 ?_
      refine rw_iload_n hX hl 2 rfl dX7_reset_60 rfl ?_
      refine lv_iconst (v := 0) hX.1.1 hX.1.2.1 dX7_reset_61 (by decide) ?_
      obtain ⟨h17, hw1⟩ := ar_some hw
      replace hw := hw1
      clear hw1
      obtain ⟨j16, ej16⟩ : ∃ j, (x1 : Int32).toNatClampNeg = j := ⟨_, rfl⟩
      rw [ej16] at hw
      refine rw_iast hX hR 815 (n := 24) (i := x1) (x := 0) rfl (by decide) rfl rfl h17 dX7_reset_62 (fun σ1 H locs e1 hR1 => ?_)
      replace hR := hR1
      clear hR1
      rw [ej16] at e1
      subst e1
      refine rw_aload_n hX hl 1 rfl (Or.inr ⟨_, rfl⟩) dX7_reset_63 rfl ?_
      refine rw_get hX hR 8 16 0 (C := RX7) (T := TX7) (N := 48) rfl (by decide) (Nat.le_of_ble_eq_true rfl) rfl (v := .ref (gS γ 1816 0)) rfl uw_X7 gw_944 rfl dX7_reset_64 ?_
      refine rw_iload_n hX hl 2 rfl dX7_reset_67 rfl ?_
      refine lv_iconst (v := 0) hX.1.1 hX.1.2.1 dX7_reset_68 (by decide) ?_
      obtain ⟨h19, hw1⟩ := ar_some hw
      replace hw := hw1
      clear hw1
      obtain ⟨j18, ej18⟩ : ∃ j, (x1 : Int32).toNatClampNeg = j := ⟨_, rfl⟩
      rw [ej18] at hw
      refine rw_iast hX hR 816 (n := 24) (i := x1) (x := 0) rfl (by decide) rfl rfl h19 dX7_reset_69 (fun σ1 H locs e1 hR1 => ?_)
      replace hR := hR1
      clear hR1
      rw [ej18] at e1
      subst e1
      refine rw_aload_n hX hl 1 rfl (Or.inr ⟨_, rfl⟩) dX7_reset_70 rfl ?_
      refine rw_get hX hR 8 17 0 (C := RX7) (T := TX7) (N := 48) rfl (by decide) (Nat.le_of_ble_eq_true rfl) rfl (v := .ref (gS γ 1817 0)) rfl uw_X7 gw_945 rfl dX7_reset_71 ?_
      refine rw_iload_n hX hl 2 rfl dX7_reset_74 rfl ?_
      refine lv_iconst (v := 0) hX.1.1 hX.1.2.1 dX7_reset_75 (by decide) ?_
      obtain ⟨h21, hw1⟩ := ar_some hw
      replace hw := hw1
      clear hw1
      obtain ⟨j20, ej20⟩ : ∃ j, (x1 : Int32).toNatClampNeg = j := ⟨_, rfl⟩
      rw [ej20] at hw
      refine rw_zast hX hR 817 (n := 24) (i := x1) (x := false) rfl (by decide) rfl rfl h21 dX7_reset_76 (fun σ1 H locs e1 hR1 => ?_)
      replace hR := hR1
      clear hR1
      rw [ej20] at e1
      subst e1
      refine rw_aload_n hX hl 1 rfl (Or.inr ⟨_, rfl⟩) dX7_reset_77 rfl ?_
      obtain ⟨σ23, g24, hw1⟩ := ob1_some hw
      replace hw := hw1
      clear hw1
      refine rw_cVv hX hR pk_f8_settle (mc := 0) (ms := 0) ⟨rfl, rfl, (show 5 + 1 ≤ 6 by omega), (show 8 + (3 + 11) + 64 * 5 ≤ 64 * 6 by omega)⟩ (As := []) (rest := []) rfl (C_f8_settle l γ ad (zb (zi (zi σ14 815 j16 0) 816 j18 0) 817 j20 false) σ23 g24) gw_1093 gw_1095 gs_54 (rs_recv hX hR 8 0 (C := RX7) (T := TX7) (N := 48) rfl (by decide) (Nat.le_of_ble_eq_true rfl) rfl) rfl hl.1 ca0 (Nat.le_of_ble_eq_true rfl) dX7_reset_78 ⟨(show ((cells + 0) + 0) + 0 ≤ 0 by omega), (show ((slots + 0) + 0) + 0 ≤ 0 by omega)⟩ (fun H locs hR1 => ?_)
      replace hR := hR1
      clear hR1
      refine rw_iload_n hX hl 0 rfl dX7_reset_81 rfl ?_
      refine W.widen (k := 0) (n := 0) (by omega) (by omega) ?_
      exact rq_ie hX hR hr hw dX7_reset_82 hlocks
    · replace hw := if_f hw c9
      refine lv_iconst (v := 0) hX.1.1 hX.1.2.1 dX7_reset_43 (by decide) ?_
      refine W.widen (k := 0) (n := 0) (by omega) (by omega) ?_
      exact rq_ie hX hR hr hw dX7_reset_44 hlocks
  refine rw_entry (ca1 rfl (ca1 rfl ca0)) (Nat.le_of_ble_eq_true rfl) (fun ls hl1 => ?_)
  replace hl := hl1
  clear hl1
  refine rw_aload_n hX hl 0 rfl (Or.inr ⟨_, rfl⟩) dX7_reset_0 rfl ?_
  refine rw_aload_n hX hl 0 rfl (Or.inr ⟨_, rfl⟩) dX7_reset_1 rfl ?_
  refine rw_iload_n hX hl 1 rfl dX7_reset_2 rfl ?_
  obtain ⟨v1, g3, hw1⟩ := ob1_some hw
  replace hw := hw1
  clear hw1
  refine rw_cVi hX hR pk_f8_isDevice (mc := 0) (ms := 0) ⟨rfl, rfl, (show 2 + 1 ≤ 6 by omega), (show 8 + (2 + 11) + 64 * 2 ≤ 64 * 6 by omega)⟩ (As := [.int a1]) (rest := [.ref (gS γ 8 0)]) rfl (C_f8_isDevice l γ ad a1 σ v1 g3) gw_1089 gw_1091 gs_53 (rs_recv hX hR 8 0 (C := RX7) (T := TX7) (N := 48) rfl (by decide) (Nat.le_of_ble_eq_true rfl) rfl) rfl hl.1 (ca1 rfl ca0) (Nat.le_of_ble_eq_true rfl) dX7_reset_3 ⟨(show 0 + 0 ≤ 0 by omega), (show 0 + 0 ≤ 0 by omega)⟩ (fun H locs hR1 => ?_)
  replace hR := hR1
  clear hR1
  refine rw_ifneZ (b := v1) (tgt := 13) hX dX7_reset_6 (by decide) (fun c4 => ?_) (fun c4 => ?_)
  · replace hw := if_t hw c4
    refine rw_aload_n hX hl 0 rfl (Or.inr ⟨_, rfl⟩) dX7_reset_13 rfl ?_
    refine rw_iload_n hX hl 1 rfl dX7_reset_14 rfl ?_
    obtain ⟨v5, g7, hw1⟩ := ob1_some hw
    replace hw := hw1
    clear hw1
    refine rw_cVi hX hR pk_f8_isBound (mc := 0) (ms := 0) ⟨rfl, rfl, (show 1 + 1 ≤ 6 by omega), (show 8 + (2 + 11) + 64 * 1 ≤ 64 * 6 by omega)⟩ (As := [.int a1]) (rest := [.ref (gS γ 8 0)]) rfl (C_f8_isBound l γ ad a1 σ v5 g7) gw_1097 gw_1099 gs_55 (rs_recv hX hR 8 0 (C := RX7) (T := TX7) (N := 48) rfl (by decide) (Nat.le_of_ble_eq_true rfl) rfl) rfl hl.1 (ca1 rfl ca0) (Nat.le_of_ble_eq_true rfl) dX7_reset_15 ⟨(show (0 + 0) + 0 ≤ 0 by omega), (show (0 + 0) + 0 ≤ 0 by omega)⟩ (fun H locs hR1 => ?_)
    replace hR := hR1
    clear hR1
    refine rw_ifeqZ (b := v5) (tgt := 28) hX dX7_reset_18 (by decide) (fun c8 => ?_) (fun c8 => ?_)
    · replace hw := if_f hw c8
      refine lv_iconst (v := 2) hX.1.1 hX.1.2.1 dX7_reset_28 (by decide) ?_
      refine lv_goto (tgt := 33) hX.1.1 hX.1.2.1 dX7_reset_29 (by decide) ?_
      exact J33 a1 2 σ _ _ (by omega) (by omega) _ _ _ hw hR (lh_sub hl [0, 1] rfl)
    · replace hw := if_t hw c8
      refine rw_aload_n hX hl 0 rfl (Or.inr ⟨_, rfl⟩) dX7_reset_21 rfl ?_
      refine rw_get hX hR 8 2 0 (C := RX7) (T := TX7) (N := 48) rfl (by decide) (Nat.le_of_ble_eq_true rfl) rfl (v := .int (b2i (gb σ 802 0))) rfl uw_X7 gw_930 rfl dX7_reset_22 ?_
      refine rw_ifeqZ (b := (gb σ 802 0)) (tgt := 32) hX dX7_reset_25 (by decide) (fun c25 => ?_) (fun c25 => ?_)
      · replace hw := if_f hw c25
        refine lv_iconst (v := 0) hX.1.1 hX.1.2.1 dX7_reset_32 (by decide) ?_
        exact J33 a1 0 σ _ _ (by omega) (by omega) _ _ _ hw hR (lh_sub hl [0, 1] rfl)
      · replace hw := if_t hw c25
        refine lv_iconst (v := 2) hX.1.1 hX.1.2.1 dX7_reset_28 (by decide) ?_
        refine lv_goto (tgt := 33) hX.1.1 hX.1.2.1 dX7_reset_29 (by decide) ?_
        exact J33 a1 2 σ _ _ (by omega) (by omega) _ _ _ hw hR (lh_sub hl [0, 1] rfl)
  · replace hw := if_f hw c4
    refine lv_iconst (v := 1) hX.1.1 hX.1.2.1 dX7_reset_9 (by decide) ?_
    refine lv_goto (tgt := 33) hX.1.1 hX.1.2.1 dX7_reset_10 (by decide) ?_
    exact J33 a1 1 σ _ _ (by omega) (by omega) _ _ _ hw hR (lh_sub hl [0, 1] rfl)
set_option maxHeartbeats 8000000 in
set_option maxRecDepth 100000 in
theorem C_f8_isHandle (l : Launch) (γ : GT) (ad : Nat → Nat → Nat) {fu : Nat} (a1 : Int32) (σ : St) (r : Bool) (hw : f8_isHandle fu a1 σ = some r) : Met l yX7_isHandle (Cond.code yX7_isHandle cX7_isHandle 2 (Option.some Jvm.ClassFile.FieldType.boolean) :: GW) (rmo 2 0 0) (va_Pc [.ref (gS γ 8 0), .int a1] (RU γ ad σ)) (QI γ ad σ (b2i r)) 0 0 (gA γ) := by
  refine Met.ofW (cc := cX7_isHandle) (maxL := 2) (ret := (Option.some Jvm.ClassFile.FieldType.boolean)) (by decide +kernel) rfl ?_
  intro p e s m args below meth c s₁ B hml hv
  obtain ⟨rfl, hU⟩ := hv
  obtain ⟨hX, hR⟩ := cx_of (own := RX7) B hml rfl hU
  have hr := B.returns
  have hlocks := B.notSynchronized
  have hc0 : (0 : Nat) ≤ 0 := Nat.le_refl 0
  show W p l e (rmo 2 0 0) s m ([.ref (gS γ 8 0), .int a1] : List Value).toArray below meth c s.heap [] 0 0 (MQ below (QI γ ad σ (b2i r)) ([.ref (gS γ 8 0), .int a1] : List Value).toArray s 0 0 (gA γ)) (entryFrame m ([.ref (gS γ 8 0), .int a1] : List Value).toArray 2)
  unfold f8_isHandle at hw
  refine rw_entry (ca1 rfl (ca1 rfl ca0)) (Nat.le_of_ble_eq_true rfl) (fun ls hl1 => ?_)
  replace hl := hl1
  clear hl1
  refine rw_iload_n hX hl 1 rfl dX7_isHandle_0 rfl ?_
  refine lv_iconst (v := 0) hX.1.1 hX.1.2.1 dX7_isHandle_1 (by decide) ?_
  refine rw_aload_n hX hl 0 rfl (Or.inr ⟨_, rfl⟩) dX7_isHandle_2 rfl ?_
  refine rw_get hX hR 8 30 0 (C := RX7) (T := TX7) (N := 48) rfl (by decide) (Nat.le_of_ble_eq_true rfl) rfl (v := .int (gi σ 830 0)) rfl uw_X7 gw_958 rfl dX7_isHandle_3 ?_
  refine lv_iconst (v := 1) hX.1.1 hX.1.2.1 dX7_isHandle_6 (by decide) ?_
  refine lv_isub (x := (gi σ 830 0)) (y := 1) hX.1.1 hX.1.2.1 dX7_isHandle_7 ?_
  obtain ⟨v1, g3, hw1⟩ := ob1_some hw
  replace hw := hw1
  clear hw1
  refine rw_cSi hX hR pk_f8_in (mc := 0) (ms := 0) ⟨rfl, rfl, (show 1 + 1 ≤ 2 by omega), (show 8 + (3 + 11) + 64 * 1 ≤ 64 * 2 by omega)⟩ (As := [.int a1, .int 0, .int ((gi σ 830 0) - 1)]) (rest := []) rfl (C_f8_in l γ ad a1 0 ((gi σ 830 0) - 1) σ v1 g3) gw_1082 gw_1083 rfl hl.1 ca0 (Nat.le_of_ble_eq_true rfl) dX7_isHandle_8 ⟨(show 0 + 0 ≤ 0 by omega), (show 0 + 0 ≤ 0 by omega)⟩ (fun H locs hR1 => ?_)
  replace hR := hR1
  clear hR1
  refine W.widen (k := 0) (n := 0) (by omega) (by omega) ?_
  exact rq_z hX hR hr (v := v1) rfl hw dX7_isHandle_11 hlocks
set_option maxHeartbeats 8000000 in
set_option maxRecDepth 100000 in
theorem C_f8_isDead (l : Launch) (γ : GT) (ad : Nat → Nat → Nat) {fu : Nat} (a1 : Int32) (σ : St) (r : Bool) (hw : f8_isDead fu a1 σ = some r) : Met l yX7_isDead (Cond.code yX7_isDead cX7_isDead 2 (Option.some Jvm.ClassFile.FieldType.boolean) :: GW) (rmo 1 0 0) (va_Pc [.ref (gS γ 8 0), .int a1] (RU γ ad σ)) (QI γ ad σ (b2i r)) 0 0 (gA γ) := by
  refine Met.ofW (cc := cX7_isDead) (maxL := 2) (ret := (Option.some Jvm.ClassFile.FieldType.boolean)) (by decide +kernel) rfl ?_
  intro p e s m args below meth c s₁ B hml hv
  obtain ⟨rfl, hU⟩ := hv
  obtain ⟨hX, hR⟩ := cx_of (own := RX7) B hml rfl hU
  have hr := B.returns
  have hlocks := B.notSynchronized
  have hc0 : (0 : Nat) ≤ 0 := Nat.le_refl 0
  show W p l e (rmo 1 0 0) s m ([.ref (gS γ 8 0), .int a1] : List Value).toArray below meth c s.heap [] 0 0 (MQ below (QI γ ad σ (b2i r)) ([.ref (gS γ 8 0), .int a1] : List Value).toArray s 0 0 (gA γ)) (entryFrame m ([.ref (gS γ 8 0), .int a1] : List Value).toArray 2)
  unfold f8_isDead at hw
  refine rw_entry (ca1 rfl (ca1 rfl ca0)) (Nat.le_of_ble_eq_true rfl) (fun ls hl1 => ?_)
  replace hl := hl1
  clear hl1
  refine rw_aload_n hX hl 0 rfl (Or.inr ⟨_, rfl⟩) dX7_isDead_0 rfl ?_
  refine rw_get hX hR 8 19 0 (C := RX7) (T := TX7) (N := 48) rfl (by decide) (Nat.le_of_ble_eq_true rfl) rfl (v := .ref (gS γ 1819 0)) rfl uw_X7 gw_947 rfl dX7_isDead_1 ?_
  refine rw_aload_n hX hl 0 rfl (Or.inr ⟨_, rfl⟩) dX7_isDead_4 rfl ?_
  refine rw_get hX hR 8 31 0 (C := RX7) (T := TX7) (N := 48) rfl (by decide) (Nat.le_of_ble_eq_true rfl) rfl (v := .ref (gS γ 1831 0)) rfl uw_X7 gw_959 rfl dX7_isDead_5 ?_
  refine rw_iload_n hX hl 1 rfl dX7_isDead_8 rfl ?_
  obtain ⟨h2, hw1⟩ := ar_some hw
  replace hw := hw1
  clear hw1
  obtain ⟨j1, ej1⟩ : ∃ j, (a1 : Int32).toNatClampNeg = j := ⟨_, rfl⟩
  rw [ej1] at hw
  refine rw_iald hX hR 831 (n := 40) (i := a1) (v := (gi σ 831 j1)) rfl (by decide) rfl rfl h2 (by rw [ej1]) dX7_isDead_9 ?_
  obtain ⟨h4, hw1⟩ := ar_some hw
  replace hw := hw1
  clear hw1
  obtain ⟨j3, ej3⟩ : ∃ j, ((gi σ 831 j1) : Int32).toNatClampNeg = j := ⟨_, rfl⟩
  rw [ej3] at hw
  refine rw_iald hX hR 819 (n := 24) (i := (gi σ 831 j1)) (v := (gi σ 819 j3)) rfl (by decide) rfl rfl h4 (by rw [ej3]) dX7_isDead_10 ?_
  refine rw_aload_n hX hl 0 rfl (Or.inr ⟨_, rfl⟩) dX7_isDead_11 rfl ?_
  refine rw_get hX hR 8 32 0 (C := RX7) (T := TX7) (N := 48) rfl (by decide) (Nat.le_of_ble_eq_true rfl) rfl (v := .ref (gS γ 1832 0)) rfl uw_X7 gw_960 rfl dX7_isDead_12 ?_
  refine rw_iload_n hX hl 1 rfl dX7_isDead_15 rfl ?_
  obtain ⟨h6, hw1⟩ := ar_some hw
  replace hw := hw1
  clear hw1
  obtain ⟨j5, ej5⟩ : ∃ j, (a1 : Int32).toNatClampNeg = j := ⟨_, rfl⟩
  rw [ej5] at hw
  refine rw_iald hX hR 832 (n := 40) (i := a1) (v := (gi σ 832 j5)) rfl (by decide) rfl rfl h6 (by rw [ej5]) dX7_isDead_16 ?_
  refine lv_icmp_eq (x := (gi σ 819 j3)) (y := (gi σ 832 j5)) (tgt := 24) hX.1.1 hX.1.2.1 dX7_isDead_17 (by decide) (fun c7 => ?_) (fun c7 => ?_)
  · replace hw := if_t hw c7
    refine lv_iconst (v := 0) hX.1.1 hX.1.2.1 dX7_isDead_24 (by decide) ?_
    exact rq_z hX hR hr (v := false) rfl hw dX7_isDead_25 hlocks
  · replace hw := if_f hw c7
    refine lv_iconst (v := 1) hX.1.1 hX.1.2.1 dX7_isDead_20 (by decide) ?_
    refine lv_goto (tgt := 25) hX.1.1 hX.1.2.1 dX7_isDead_21 (by decide) ?_
    exact rq_z hX hR hr (v := true) rfl hw dX7_isDead_25 hlocks
set_option maxHeartbeats 8000000 in
set_option maxRecDepth 100000 in
theorem C_f8_isUsable (l : Launch) (γ : GT) (ad : Nat → Nat → Nat) {fu : Nat} (a1 : Int32) (σ : St) (r : Bool) (hw : f8_isUsable fu a1 σ = some r) : Met l yX7_isUsable (Cond.code yX7_isUsable cX7_isUsable 2 (Option.some Jvm.ClassFile.FieldType.boolean) :: GW) (rmo 2 0 0) (va_Pc [.ref (gS γ 8 0), .int a1] (RU γ ad σ)) (QI γ ad σ (b2i r)) 0 0 (gA γ) := by
  refine Met.ofW (cc := cX7_isUsable) (maxL := 2) (ret := (Option.some Jvm.ClassFile.FieldType.boolean)) (by decide +kernel) rfl ?_
  intro p e s m args below meth c s₁ B hml hv
  obtain ⟨rfl, hU⟩ := hv
  obtain ⟨hX, hR⟩ := cx_of (own := RX7) B hml rfl hU
  have hr := B.returns
  have hlocks := B.notSynchronized
  have hc0 : (0 : Nat) ≤ 0 := Nat.le_refl 0
  show W p l e (rmo 2 0 0) s m ([.ref (gS γ 8 0), .int a1] : List Value).toArray below meth c s.heap [] 0 0 (MQ below (QI γ ad σ (b2i r)) ([.ref (gS γ 8 0), .int a1] : List Value).toArray s 0 0 (gA γ)) (entryFrame m ([.ref (gS γ 8 0), .int a1] : List Value).toArray 2)
  unfold f8_isUsable at hw
  refine rw_entry (ca1 rfl (ca1 rfl ca0)) (Nat.le_of_ble_eq_true rfl) (fun ls hl1 => ?_)
  replace hl := hl1
  clear hl1
  refine rw_aload_n hX hl 0 rfl (Or.inr ⟨_, rfl⟩) dX7_isUsable_0 rfl ?_
  refine rw_get hX hR 8 33 0 (C := RX7) (T := TX7) (N := 48) rfl (by decide) (Nat.le_of_ble_eq_true rfl) rfl (v := .ref (gS γ 1833 0)) rfl uw_X7 gw_961 rfl dX7_isUsable_1 ?_
  refine rw_iload_n hX hl 1 rfl dX7_isUsable_4 rfl ?_
  obtain ⟨h2, hw1⟩ := ar_some hw
  replace hw := hw1
  clear hw1
  obtain ⟨j1, ej1⟩ : ∃ j, (a1 : Int32).toNatClampNeg = j := ⟨_, rfl⟩
  rw [ej1] at hw
  refine rw_zald hX hR 833 (n := 40) (i := a1) (v := (gb σ 833 j1)) rfl (by decide) rfl rfl h2 (by rw [ej1]) dX7_isUsable_5 ?_
  refine rw_ifneZ (b := (gb σ 833 j1)) (tgt := 21) hX dX7_isUsable_6 (by decide) (fun c3 => ?_) (fun c3 => ?_)
  · replace hw := if_t hw c3
    refine lv_iconst (v := 0) hX.1.1 hX.1.2.1 dX7_isUsable_21 (by decide) ?_
    exact rq_z hX hR hr (v := false) rfl hw dX7_isUsable_22 hlocks
  · replace hw := if_f hw c3
    refine rw_aload_n hX hl 0 rfl (Or.inr ⟨_, rfl⟩) dX7_isUsable_9 rfl ?_
    refine rw_iload_n hX hl 1 rfl dX7_isUsable_10 rfl ?_
    obtain ⟨v4, g6, hw1⟩ := ob1_some hw
    replace hw := hw1
    clear hw1
    refine rw_cVi hX hR pk_f8_isDead (mc := 0) (ms := 0) ⟨rfl, rfl, (show 1 + 1 ≤ 2 by omega), (show 8 + (2 + 11) + 64 * 1 ≤ 64 * 2 by omega)⟩ (As := [.int a1]) (rest := []) rfl (C_f8_isDead l γ ad a1 σ v4 g6) gw_1196 gw_1198 gs_71 (rs_recv hX hR 8 0 (C := RX7) (T := TX7) (N := 48) rfl (by decide) (Nat.le_of_ble_eq_true rfl) rfl) rfl hl.1 ca0 (Nat.le_of_ble_eq_true rfl) dX7_isUsable_11 ⟨(show 0 + 0 ≤ 0 by omega), (show 0 + 0 ≤ 0 by omega)⟩ (fun H locs hR1 => ?_)
    replace hR := hR1
    clear hR1
    refine rw_ifneZ (b := v4) (tgt := 21) hX dX7_isUsable_14 (by decide) (fun c7 => ?_) (fun c7 => ?_)
    · replace hw := if_t hw c7
      refine lv_iconst (v := 0) hX.1.1 hX.1.2.1 dX7_isUsable_21 (by decide) ?_
      refine W.widen (k := 0) (n := 0) (by omega) (by omega) ?_
      exact rq_z hX hR hr (v := false) rfl hw dX7_isUsable_22 hlocks
    · replace hw := if_f hw c7
      refine lv_iconst (v := 1) hX.1.1 hX.1.2.1 dX7_isUsable_17 (by decide) ?_
      refine lv_goto (tgt := 22) hX.1.1 hX.1.2.1 dX7_isUsable_18 (by decide) ?_
      refine W.widen (k := 0) (n := 0) (by omega) (by omega) ?_
      exact rq_z hX hR hr (v := true) rfl hw dX7_isUsable_22 hlocks
set_option maxHeartbeats 8000000 in
set_option maxRecDepth 100000 in
theorem C_f8_open (l : Launch) (γ : GT) (ad : Nat → Nat → Nat) {fu : Nat} (a1 : Int32) (σ : St) (r : Int32) (σ' : St) (hw : f8_open fu a1 σ = some (r, σ')) : Met l yX7_open (Cond.code yX7_open cX7_open 2 (Option.some Jvm.ClassFile.FieldType.int) :: GW) (rmo 6 0 0) (va_Pc [.ref (gS γ 8 0), .int a1] (RU γ ad σ)) (QI γ ad σ' r) 0 0 (gA γ) := by
  refine Met.ofW (cc := cX7_open) (maxL := 2) (ret := (Option.some Jvm.ClassFile.FieldType.int)) (by decide +kernel) rfl ?_
  intro p e s m args below meth c s₁ B hml hv
  obtain ⟨rfl, hU⟩ := hv
  obtain ⟨hX, hR⟩ := cx_of (own := RX7) B hml rfl hU
  have hr := B.returns
  have hlocks := B.notSynchronized
  have hc0 : (0 : Nat) ≤ 0 := Nat.le_refl 0
  show W p l e (rmo 6 0 0) s m ([.ref (gS γ 8 0), .int a1] : List Value).toArray below meth c s.heap [] 0 0 (MQ below (QI γ ad σ' r) ([.ref (gS γ 8 0), .int a1] : List Value).toArray s 0 0 (gA γ)) (entryFrame m ([.ref (gS γ 8 0), .int a1] : List Value).toArray 2)
  unfold f8_open at hw
  have J42 : ∀ (x1 : Int32) (y1 : Int32) (σ : St) (cells slots : Nat), cells ≤ 0 → slots ≤ 0 → ∀ (H : Heap) (locs : List Loc) (ls : Array Slot), f8_open_j42 fu x1 y1 σ = some (r, σ') → RS γ ad σ s H locs → lh ls 2 [(0, .ref (gS γ 8 0)), (1, .int x1)] → W p l e (rmo 6 0 0) s m ([.ref (gS γ 8 0), .int a1] : List Value).toArray below meth c H locs cells slots (MQ below (QI γ ad σ' r) ([.ref (gS γ 8 0), .int a1] : List Value).toArray s 0 0 (gA γ)) (F0 m 42 ls [.int y1, .ref (gS γ 8 0)]) := by
    intro x1 y1 σ cells slots hc1 hc2 H locs ls hw hR hl
    unfold f8_open_j42 at hw
    refine rw_puti (x := y1) hX hR 8 0 0 800 (C := RX7) (T := TX7) (N := 48) rfl (by decide) rfl rfl (Nat.le_of_ble_eq_true rfl) rfl uw_X7 tyX7 tyX7_ok nmX7 gw_928 rfl rfl (by decide) dX7_open_42 (fun σ1 H locs e1 hR1 => ?_)
    replace hR := hR1
    clear hR1
    subst e1
    refine rw_aload_n hX hl 0 rfl (Or.inr ⟨_, rfl⟩) dX7_open_45 rfl ?_
    refine rw_get hX hR 8 0 0 (C := RX7) (T := TX7) (N := 48) rfl (by decide) (Nat.le_of_ble_eq_true rfl) rfl (v := .int (gi (zi σ 800 0 y1) 800 0)) rfl uw_X7 gw_928 rfl dX7_open_46 ?_
    refine lv_if_eq (x := (gi (zi σ 800 0 y1) 800 0)) (tgt := 54) hX.1.1 hX.1.2.1 dX7_open_49 (by decide) (fun c9 => ?_) (fun c9 => ?_)
    · replace hw := if_t hw c9
      refine rw_aload_n hX hl 0 rfl (Or.inr ⟨_, rfl⟩) dX7_open_54 rfl ?_
      refine rw_get hX hR 8 31 0 (C := RX7) (T := TX7) (N := 48) rfl (by decide) (Nat.le_of_ble_eq_true rfl) rfl (v := .ref (gS γ 1831 0)) rfl uw_X7 gw_959 rfl dX7_open_55 ?_
      refine rw_aload_n hX hl 0 rfl (Or.inr ⟨_, rfl⟩) dX7_open_58 rfl ?_
      refine rw_get hX hR 8 30 0 (C := RX7) (T := TX7) (N := 48) rfl (by decide) (Nat.le_of_ble_eq_true rfl) rfl (v := .int (gi (zi σ 800 0 y1) 830 0)) rfl uw_X7 gw_958 rfl dX7_open_59 ?_
      refine rw_iload_n hX hl 1 rfl dX7_open_62 rfl ?_
      obtain ⟨h11, hw1⟩ := ar_some hw
      replace hw := hw1
      clear hw1
      obtain ⟨j10, ej10⟩ : ∃ j, ((gi (zi σ 800 0 y1) 830 0) : Int32).toNatClampNeg = j := ⟨_, rfl⟩
      rw [ej10] at hw
      refine rw_iast hX hR 831 (n := 40) (i := (gi (zi σ 800 0 y1) 830 0)) (x := x1) rfl (by decide) rfl rfl h11 dX7_open_63 (fun σ1 H locs e1 hR1 => ?_)
      replace hR := hR1
      clear hR1
      rw [ej10] at e1
      subst e1
      refine rw_aload_n hX hl 0 rfl (Or.inr ⟨_, rfl⟩) dX7_open_64 rfl ?_
      refine rw_get hX hR 8 32 0 (C := RX7) (T := TX7) (N := 48) rfl (by decide) (Nat.le_of_ble_eq_true rfl) rfl (v := .ref (gS γ 1832 0)) rfl uw_X7 gw_960 rfl dX7_open_65 ?_
      refine rw_aload_n hX hl 0 rfl (Or.inr ⟨_, rfl⟩) dX7_open_68 rfl ?_
      refine rw_get hX hR 8 30 0 (C := RX7) (T := TX7) (N := 48) rfl (by decide) (Nat.le_of_ble_eq_true rfl) rfl (v := .int (gi (zi (zi σ 800 0 y1) 831 j10 x1) 830 0)) rfl uw_X7 gw_958 rfl dX7_open_69 ?_
      refine rw_aload_n hX hl 0 rfl (Or.inr ⟨_, rfl⟩) dX7_open_72 rfl ?_
      refine rw_get hX hR 8 19 0 (C := RX7) (T := TX7) (N := 48) rfl (by decide) (Nat.le_of_ble_eq_true rfl) rfl (v := .ref (gS γ 1819 0)) rfl uw_X7 gw_947 rfl dX7_open_73 ?_
      refine rw_iload_n hX hl 1 rfl dX7_open_76 rfl ?_
      obtain ⟨h13, hw1⟩ := ar_some hw
      replace hw := hw1
      clear hw1
      obtain ⟨j12, ej12⟩ : ∃ j, (x1 : Int32).toNatClampNeg = j := ⟨_, rfl⟩
      rw [ej12] at hw
      refine rw_iald hX hR 819 (n := 24) (i := x1) (v := (gi (zi (zi σ 800 0 y1) 831 j10 x1) 819 j12)) rfl (by decide) rfl rfl h13 (by rw [ej12]) dX7_open_77 ?_
      obtain ⟨h15, hw1⟩ := ar_some hw
      replace hw := hw1
      clear hw1
      obtain ⟨j14, ej14⟩ : ∃ j, ((gi (zi (zi σ 800 0 y1) 831 j10 x1) 830 0) : Int32).toNatClampNeg = j := ⟨_, rfl⟩
      rw [ej14] at hw
      refine rw_iast hX hR 832 (n := 40) (i := (gi (zi (zi σ 800 0 y1) 831 j10 x1) 830 0)) (x := (gi (zi (zi σ 800 0 y1) 831 j10 x1) 819 j12)) rfl (by decide) rfl rfl h15 dX7_open_78 (fun σ1 H locs e1 hR1 => ?_)
      replace hR := hR1
      clear hR1
      rw [ej14] at e1
      subst e1
      refine rw_aload_n hX hl 0 rfl (Or.inr ⟨_, rfl⟩) dX7_open_79 rfl ?_
      refine lv_dup hX.1.1 hX.1.2.1 dX7_open_80 rfl ?_
      refine rw_get hX hR 8 30 0 (C := RX7) (T := TX7) (N := 48) rfl (by decide) (Nat.le_of_ble_eq_true rfl) rfl (v := .int (gi (zi (zi (zi σ 800 0 y1) 831 j10 x1) 832 j14 (gi (zi (zi σ 800 0 y1) 831 j10 x1) 819 j12)) 830 0)) rfl uw_X7 gw_958 rfl dX7_open_81 ?_
      refine lv_iconst (v := 1) hX.1.1 hX.1.2.1 dX7_open_84 (by decide) ?_
      refine lv_iadd (x := (gi (zi (zi (zi σ 800 0 y1) 831 j10 x1) 832 j14 (gi (zi (zi σ 800 0 y1) 831 j10 x1) 819 j12)) 830 0)) (y := 1) hX.1.1 hX.1.2.1 dX7_open_85 ?_
      refine rw_puti (x := ((gi (zi (zi (zi σ 800 0 y1) 831 j10 x1) 832 j14 (gi (zi (zi σ 800 0 y1) 831 j10 x1) 819 j12)) 830 0) + 1)) hX hR 8 30 0 830 (C := RX7) (T := TX7) (N := 48) rfl (by decide) rfl rfl (Nat.le_of_ble_eq_true rfl) rfl uw_X7 tyX7 tyX7_ok nmX7 gw_958 rfl rfl (by decide) dX7_open_86 (fun σ1 H locs e1 hR1 => ?_)
      replace hR := hR1
      clear hR1
      subst e1
      refine rw_aload_n hX hl 0 rfl (Or.inr ⟨_, rfl⟩) dX7_open_89 rfl ?_
      obtain ⟨σ17, g18, hw1⟩ := ob1_some hw
      replace hw := hw1
      clear hw1
      refine rw_cVv hX hR pk_f8_settle (mc := 0) (ms := 0) ⟨rfl, rfl, (show 5 + 1 ≤ 6 by omega), (show 8 + (3 + 11) + 64 * 5 ≤ 64 * 6 by omega)⟩ (As := []) (rest := []) rfl (C_f8_settle l γ ad (zi (zi (zi (zi σ 800 0 y1) 831 j10 x1) 832 j14 (gi (zi (zi σ 800 0 y1) 831 j10 x1) 819 j12)) 830 0 ((gi (zi (zi (zi σ 800 0 y1) 831 j10 x1) 832 j14 (gi (zi (zi σ 800 0 y1) 831 j10 x1) 819 j12)) 830 0) + 1)) σ17 g18) gw_1093 gw_1095 gs_54 (rs_recv hX hR 8 0 (C := RX7) (T := TX7) (N := 48) rfl (by decide) (Nat.le_of_ble_eq_true rfl) rfl) rfl hl.1 ca0 (Nat.le_of_ble_eq_true rfl) dX7_open_90 ⟨(show cells + 0 ≤ 0 by omega), (show slots + 0 ≤ 0 by omega)⟩ (fun H locs hR1 => ?_)
      replace hR := hR1
      clear hR1
      refine rw_aload_n hX hl 0 rfl (Or.inr ⟨_, rfl⟩) dX7_open_93 rfl ?_
      refine rw_get hX hR 8 30 0 (C := RX7) (T := TX7) (N := 48) rfl (by decide) (Nat.le_of_ble_eq_true rfl) rfl (v := .int (gi σ17 830 0)) rfl uw_X7 gw_958 rfl dX7_open_94 ?_
      refine lv_iconst (v := 1) hX.1.1 hX.1.2.1 dX7_open_97 (by decide) ?_
      refine lv_isub (x := (gi σ17 830 0)) (y := 1) hX.1.1 hX.1.2.1 dX7_open_98 ?_
      refine W.widen (k := 0) (n := 0) (by omega) (by omega) ?_
      exact rq_ie hX hR hr hw dX7_open_99 hlocks
    · replace hw := if_f hw c9
      refine lv_iconst (v := 0) hX.1.1 hX.1.2.1 dX7_open_52 (by decide) ?_
      refine W.widen (k := 0) (n := 0) (by omega) (by omega) ?_
      exact rq_ie hX hR hr hw dX7_open_53 hlocks
  refine rw_entry (ca1 rfl (ca1 rfl ca0)) (Nat.le_of_ble_eq_true rfl) (fun ls hl1 => ?_)
  replace hl := hl1
  clear hl1
  refine rw_aload_n hX hl 0 rfl (Or.inr ⟨_, rfl⟩) dX7_open_0 rfl ?_
  refine rw_aload_n hX hl 0 rfl (Or.inr ⟨_, rfl⟩) dX7_open_1 rfl ?_
  refine rw_iload_n hX hl 1 rfl dX7_open_2 rfl ?_
  obtain ⟨v1, g3, hw1⟩ := ob1_some hw
  replace hw := hw1
  clear hw1
  refine rw_cVi hX hR pk_f8_isDevice (mc := 0) (ms := 0) ⟨rfl, rfl, (show 2 + 1 ≤ 6 by omega), (show 8 + (2 + 11) + 64 * 2 ≤ 64 * 6 by omega)⟩ (As := [.int a1]) (rest := [.ref (gS γ 8 0)]) rfl (C_f8_isDevice l γ ad a1 σ v1 g3) gw_1089 gw_1091 gs_53 (rs_recv hX hR 8 0 (C := RX7) (T := TX7) (N := 48) rfl (by decide) (Nat.le_of_ble_eq_true rfl) rfl) rfl hl.1 (ca1 rfl ca0) (Nat.le_of_ble_eq_true rfl) dX7_open_3 ⟨(show 0 + 0 ≤ 0 by omega), (show 0 + 0 ≤ 0 by omega)⟩ (fun H locs hR1 => ?_)
  replace hR := hR1
  clear hR1
  refine rw_ifneZ (b := v1) (tgt := 13) hX dX7_open_6 (by decide) (fun c4 => ?_) (fun c4 => ?_)
  · replace hw := if_t hw c4
    refine rw_aload_n hX hl 0 rfl (Or.inr ⟨_, rfl⟩) dX7_open_13 rfl ?_
    refine rw_iload_n hX hl 1 rfl dX7_open_14 rfl ?_
    obtain ⟨v5, g7, hw1⟩ := ob1_some hw
    replace hw := hw1
    clear hw1
    refine rw_cVi hX hR pk_f8_isBound (mc := 0) (ms := 0) ⟨rfl, rfl, (show 1 + 1 ≤ 6 by omega), (show 8 + (2 + 11) + 64 * 1 ≤ 64 * 6 by omega)⟩ (As := [.int a1]) (rest := [.ref (gS γ 8 0)]) rfl (C_f8_isBound l γ ad a1 σ v5 g7) gw_1097 gw_1099 gs_55 (rs_recv hX hR 8 0 (C := RX7) (T := TX7) (N := 48) rfl (by decide) (Nat.le_of_ble_eq_true rfl) rfl) rfl hl.1 (ca1 rfl ca0) (Nat.le_of_ble_eq_true rfl) dX7_open_15 ⟨(show (0 + 0) + 0 ≤ 0 by omega), (show (0 + 0) + 0 ≤ 0 by omega)⟩ (fun H locs hR1 => ?_)
    replace hR := hR1
    clear hR1
    refine rw_ifeqZ (b := v5) (tgt := 37) hX dX7_open_18 (by decide) (fun c8 => ?_) (fun c8 => ?_)
    · replace hw := if_f hw c8
      refine lv_iconst (v := 2) hX.1.1 hX.1.2.1 dX7_open_37 (by decide) ?_
      refine lv_goto (tgt := 42) hX.1.1 hX.1.2.1 dX7_open_38 (by decide) ?_
      exact J42 a1 2 σ _ _ (by omega) (by omega) _ _ _ hw hR (lh_sub hl [0, 1] rfl)
    · replace hw := if_t hw c8
      refine rw_aload_n hX hl 0 rfl (Or.inr ⟨_, rfl⟩) dX7_open_21 rfl ?_
      refine rw_get hX hR 8 2 0 (C := RX7) (T := TX7) (N := 48) rfl (by decide) (Nat.le_of_ble_eq_true rfl) rfl (v := .int (b2i (gb σ 802 0))) rfl uw_X7 gw_930 rfl dX7_open_22 ?_
      refine rw_ifneZ (b := (gb σ 802 0)) (tgt := 37) hX dX7_open_25 (by decide) (fun c19 => ?_) (fun c19 => ?_)
      · replace hw := if_t hw c19
        refine lv_iconst (v := 2) hX.1.1 hX.1.2.1 dX7_open_37 (by decide) ?_
        refine lv_goto (tgt := 42) hX.1.1 hX.1.2.1 dX7_open_38 (by decide) ?_
        exact J42 a1 2 σ _ _ (by omega) (by omega) _ _ _ hw hR (lh_sub hl [0, 1] rfl)
      · replace hw := if_f hw c19
        refine rw_aload_n hX hl 0 rfl (Or.inr ⟨_, rfl⟩) dX7_open_28 rfl ?_
        refine rw_get hX hR 8 30 0 (C := RX7) (T := TX7) (N := 48) rfl (by decide) (Nat.le_of_ble_eq_true rfl) rfl (v := .int (gi σ 830 0)) rfl uw_X7 gw_958 rfl dX7_open_29 ?_
        refine lv_bipush (v := 40) hX.1.1 hX.1.2.1 dX7_open_32 (by decide) ?_
        refine lv_icmp_ne (x := (gi σ 830 0)) (y := 40) (tgt := 41) hX.1.1 hX.1.2.1 dX7_open_34 (by decide) (fun c20 => ?_) (fun c20 => ?_)
        · replace hw := if_f hw c20
          refine lv_iconst (v := 0) hX.1.1 hX.1.2.1 dX7_open_41 (by decide) ?_
          exact J42 a1 0 σ _ _ (by omega) (by omega) _ _ _ hw hR (lh_sub hl [0, 1] rfl)
        · replace hw := if_t hw c20
          refine lv_iconst (v := 2) hX.1.1 hX.1.2.1 dX7_open_37 (by decide) ?_
          refine lv_goto (tgt := 42) hX.1.1 hX.1.2.1 dX7_open_38 (by decide) ?_
          exact J42 a1 2 σ _ _ (by omega) (by omega) _ _ _ hw hR (lh_sub hl [0, 1] rfl)
  · replace hw := if_f hw c4
    refine lv_iconst (v := 1) hX.1.1 hX.1.2.1 dX7_open_9 (by decide) ?_
    refine lv_goto (tgt := 42) hX.1.1 hX.1.2.1 dX7_open_10 (by decide) ?_
    exact J42 a1 1 σ _ _ (by omega) (by omega) _ _ _ hw hR (lh_sub hl [0, 1] rfl)
set_option maxHeartbeats 8000000 in
set_option maxRecDepth 100000 in
theorem C_f8_close (l : Launch) (γ : GT) (ad : Nat → Nat → Nat) {fu : Nat} (a1 : Int32) (σ : St) (r : Bool) (σ' : St) (hw : f8_close fu a1 σ = some (r, σ')) : Met l yX7_close (Cond.code yX7_close cX7_close 4 (Option.some Jvm.ClassFile.FieldType.boolean) :: GW) (rmo 6 0 0) (va_Pc [.ref (gS γ 8 0), .int a1] (RU γ ad σ)) (QI γ ad σ' (b2i r)) 0 0 (gA γ) := by
  refine Met.ofW (cc := cX7_close) (maxL := 4) (ret := (Option.some Jvm.ClassFile.FieldType.boolean)) (by decide +kernel) rfl ?_
  intro p e s m args below meth c s₁ B hml hv
  obtain ⟨rfl, hU⟩ := hv
  obtain ⟨hX, hR⟩ := cx_of (own := RX7) B hml rfl hU
  have hr := B.returns
  have hlocks := B.notSynchronized
  have hc0 : (0 : Nat) ≤ 0 := Nat.le_refl 0
  show W p l e (rmo 6 0 0) s m ([.ref (gS γ 8 0), .int a1] : List Value).toArray below meth c s.heap [] 0 0 (MQ below (QI γ ad σ' (b2i r)) ([.ref (gS γ 8 0), .int a1] : List Value).toArray s 0 0 (gA γ)) (entryFrame m ([.ref (gS γ 8 0), .int a1] : List Value).toArray 4)
  unfold f8_close at hw
  have L54 : ∀ (x1 : Int32) (x2 : Bool) (n : Nat) (s9 : (Int32 × St)) (cells slots : Nat), cells ≤ 0 → slots ≤ 0 → ∀ (H : Heap) (locs : List Loc) (ls : Array Slot), lp (fun s8 => f8_close_b54 fu x1 x2 s8.1 s8.2) n s9 = some (r, σ') → RS γ ad (s9.2) s H locs → lh ls 4 [(0, .ref (gS γ 8 0)), (1, .int x1), (2, .int (b2i x2)), (3, .int s9.1)] → W p l e (rmo 6 0 0) s m ([.ref (gS γ 8 0), .int a1] : List Value).toArray below meth c H locs cells slots (MQ below (QI γ ad σ' (b2i r)) ([.ref (gS γ 8 0), .int a1] : List Value).toArray s 0 0 (gA γ)) (F0 m 54 ls []) := by
    intro x1 x2 n54
    induction n54 with
    | zero => intro s9 cells slots hc1 hc2 H locs ls hw hR hl; exact (lp_zero hw).elim
    | succ n54 ih54 =>
      intro s9 cells slots hc1 hc2 H locs ls hw hR hl
      obtain ⟨o54, hw1, hb54, ho54⟩ := lp_succ hw
      replace hw := hw1
      clear hw1
      obtain ⟨x3, σ⟩ := s9
      replace hw : f8_close_b54 fu x1 x2 x3 σ = some o54 := hw
      replace hR : RS γ ad σ s H locs := hR
      replace hl : lh ls 4 [(0, .ref (gS γ 8 0)), (1, .int x1), (2, .int (b2i x2)), (3, .int x3)] := hl
      unfold f8_close_b54 at hw
      have J96 : ∀ (x3 : Int32) (y1 : Int32) (y2 : Int32) (σ : St) (cells slots : Nat), cells ≤ 0 → slots ≤ 0 → ∀ (H : Heap) (locs : List Loc) (ls : Array Slot), f8_close_j96 fu x1 x2 x3 y1 y2 σ = some o54 → RS γ ad σ s H locs → lh ls 4 [(0, .ref (gS γ 8 0)), (1, .int x1), (2, .int (b2i x2)), (3, .int x3)] → W p l e (rmo 6 0 0) s m ([.ref (gS γ 8 0), .int a1] : List Value).toArray below meth c H locs cells slots (MQ below (QI γ ad σ' (b2i r)) ([.ref (gS γ 8 0), .int a1] : List Value).toArray s 0 0 (gA γ)) (F0 m 96 ls [.int y2, .int y1, .ref (gS γ 1837 0)]) := by
        intro x3 y1 y2 σ cells slots hc1 hc2 H locs ls hw hR hl
        unfold f8_close_j96 at hw
        obtain ⟨h24, hw1⟩ := ar_some hw
        replace hw := hw1
        clear hw1
        obtain ⟨j23, ej23⟩ : ∃ j, (y1 : Int32).toNatClampNeg = j := ⟨_, rfl⟩
        rw [ej23] at hw
        refine rw_iast hX hR 837 (n := 100) (i := y1) (x := y2) rfl (by decide) rfl rfl h24 dX7_close_96 (fun σ1 H locs e1 hR1 => ?_)
        replace hR := hR1
        clear hR1
        rw [ej23] at e1
        subst e1
        refine rw_iinc (k := 3) (v := (x3 + 1)) (lv' := [(3, .int (x3 + 1)), (0, .ref (gS γ 8 0)), (1, .int x1), (2, .int (b2i x2))]) hX hl rfl (congrArg (fun q => x3 + q) (show Int32.ofInt 1 = 1 by decide)) (by decide) rfl dX7_close_97 (fun ls hl1 => ?_)
        replace hl := hl1
        clear hl1
        refine lv_goto (tgt := 54) hX.1.1 hX.1.2.1 dX7_close_100 (by decide) ?_
        exact ih54 _ _ _ (by omega) (by omega) _ _ _ (lp_back hw hb54) hR (lh_sub hl [1, 2, 3, 0] rfl)
      have J90 : ∀ (x3 : Int32) (y1 : Int32) (σ : St) (cells slots : Nat), cells ≤ 0 → slots ≤ 0 → ∀ (H : Heap) (locs : List Loc) (ls : Array Slot), f8_close_j90 fu x1 x2 x3 y1 σ = some o54 → RS γ ad σ s H locs → lh ls 4 [(0, .ref (gS γ 8 0)), (1, .int x1), (2, .int (b2i x2)), (3, .int x3)] → W p l e (rmo 6 0 0) s m ([.ref (gS γ 8 0), .int a1] : List Value).toArray below meth c H locs cells slots (MQ below (QI γ ad σ' (b2i r)) ([.ref (gS γ 8 0), .int a1] : List Value).toArray s 0 0 (gA γ)) (F0 m 90 ls [.int y1, .ref (gS γ 1837 0)]) := by
        intro x3 y1 σ cells slots hc1 hc2 H locs ls hw hR hl
        unfold f8_close_j90 at hw
        refine rw_aload_n hX hl 0 rfl (Or.inr ⟨_, rfl⟩) dX7_close_90 rfl ?_
        refine rw_get hX hR 8 37 0 (C := RX7) (T := TX7) (N := 48) rfl (by decide) (Nat.le_of_ble_eq_true rfl) rfl (v := .ref (gS γ 1837 0)) rfl uw_X7 gw_965 rfl dX7_close_91 ?_
        refine rw_iload_n hX hl 3 rfl dX7_close_94 rfl ?_
        obtain ⟨h22, hw1⟩ := ar_some hw
        replace hw := hw1
        clear hw1
        obtain ⟨j21, ej21⟩ : ∃ j, (x3 : Int32).toNatClampNeg = j := ⟨_, rfl⟩
        rw [ej21] at hw
        refine rw_iald hX hR 837 (n := 100) (i := x3) (v := (gi σ 837 j21)) rfl (by decide) rfl rfl h22 (by rw [ej21]) dX7_close_95 ?_
        exact J96 x3 y1 (gi σ 837 j21) σ _ _ (by omega) (by omega) _ _ _ hw hR (lh_sub hl [0, 1, 2, 3] rfl)
      refine rw_iload_n hX hl 3 rfl dX7_close_54 rfl ?_
      refine rw_aload_n hX hl 0 rfl (Or.inr ⟨_, rfl⟩) dX7_close_55 rfl ?_
      refine rw_get hX hR 8 34 0 (C := RX7) (T := TX7) (N := 48) rfl (by decide) (Nat.le_of_ble_eq_true rfl) rfl (v := .int (gi σ 834 0)) rfl uw_X7 gw_962 rfl dX7_close_56 ?_
      refine lv_icmp_ge (x := x3) (y := (gi σ 834 0)) (tgt := 103) hX.1.1 hX.1.2.1 dX7_close_59 (by decide) (fun c14 => ?_) (fun c14 => ?_)
      · replace hw := if_t hw c14
        replace hw := lp_out hw ho54
        refine rw_aload_n hX hl 0 rfl (Or.inr ⟨_, rfl⟩) dX7_close_103 rfl ?_
        obtain ⟨σ16, g17, hw1⟩ := ob1_some hw
        replace hw := hw1
        clear hw1
        refine rw_cVv hX hR pk_f8_settle (mc := 0) (ms := 0) ⟨rfl, rfl, (show 5 + 1 ≤ 6 by omega), (show 8 + (3 + 11) + 64 * 5 ≤ 64 * 6 by omega)⟩ (As := []) (rest := []) rfl (C_f8_settle l γ ad σ σ16 g17) gw_1093 gw_1095 gs_54 (rs_recv hX hR 8 0 (C := RX7) (T := TX7) (N := 48) rfl (by decide) (Nat.le_of_ble_eq_true rfl) rfl) rfl hl.1 ca0 (Nat.le_of_ble_eq_true rfl) dX7_close_104 ⟨(show cells + 0 ≤ 0 by omega), (show slots + 0 ≤ 0 by omega)⟩ (fun H locs hR1 => ?_)
        replace hR := hR1
        clear hR1
        refine rw_iload_n hX hl 2 rfl dX7_close_107 rfl ?_
        refine W.widen (k := 0) (n := 0) (by omega) (by omega) ?_
        exact rq_ze hX hR hr (v := x2) rfl hw dX7_close_108 hlocks
      · replace hw := if_f hw c14
        refine rw_aload_n hX hl 0 rfl (Or.inr ⟨_, rfl⟩) dX7_close_62 rfl ?_
        refine rw_get hX hR 8 37 0 (C := RX7) (T := TX7) (N := 48) rfl (by decide) (Nat.le_of_ble_eq_true rfl) rfl (v := .ref (gS γ 1837 0)) rfl uw_X7 gw_965 rfl dX7_close_63 ?_
        refine rw_iload_n hX hl 3 rfl dX7_close_66 rfl ?_
        refine rw_aload_n hX hl 0 rfl (Or.inr ⟨_, rfl⟩) dX7_close_67 rfl ?_
        refine rw_get hX hR 8 37 0 (C := RX7) (T := TX7) (N := 48) rfl (by decide) (Nat.le_of_ble_eq_true rfl) rfl (v := .ref (gS γ 1837 0)) rfl uw_X7 gw_965 rfl dX7_close_68 ?_
        refine rw_iload_n hX hl 3 rfl dX7_close_71 rfl ?_
        obtain ⟨h19, hw1⟩ := ar_some hw
        replace hw := hw1
        clear hw1
        obtain ⟨j18, ej18⟩ : ∃ j, (x3 : Int32).toNatClampNeg = j := ⟨_, rfl⟩
        rw [ej18] at hw
        refine rw_iald hX hR 837 (n := 100) (i := x3) (v := (gi σ 837 j18)) rfl (by decide) rfl rfl h19 (by rw [ej18]) dX7_close_72 ?_
        refine lv_if_ne (x := (gi σ 837 j18)) (tgt := 90) hX.1.1 hX.1.2.1 dX7_close_73 (by decide) (fun c20 => ?_) (fun c20 => ?_)
        · replace hw := if_f hw c20
          exact J90 x3 x3 σ _ _ (by omega) (by omega) _ _ _ hw hR (lh_sub hl [0, 1, 2, 3] rfl)
        · replace hw := if_t hw c20
          refine rw_aload_n hX hl 0 rfl (Or.inr ⟨_, rfl⟩) dX7_close_76 rfl ?_
          refine rw_get hX hR 8 35 0 (C := RX7) (T := TX7) (N := 48) rfl (by decide) (Nat.le_of_ble_eq_true rfl) rfl (v := .ref (gS γ 1835 0)) rfl uw_X7 gw_963 rfl dX7_close_77 ?_
          refine rw_iload_n hX hl 3 rfl dX7_close_80 rfl ?_
          obtain ⟨h26, hw1⟩ := ar_some hw
          replace hw := hw1
          clear hw1
          obtain ⟨j25, ej25⟩ : ∃ j, (x3 : Int32).toNatClampNeg = j := ⟨_, rfl⟩
          rw [ej25] at hw
          refine rw_iald hX hR 835 (n := 100) (i := x3) (v := (gi σ 835 j25)) rfl (by decide) rfl rfl h26 (by rw [ej25]) dX7_close_81 ?_
          refine rw_iload_n hX hl 1 rfl dX7_close_82 rfl ?_
          refine lv_icmp_ne (x := (gi σ 835 j25)) (y := x1) (tgt := 90) hX.1.1 hX.1.2.1 dX7_close_83 (by decide) (fun c27 => ?_) (fun c27 => ?_)
          · replace hw := if_f hw c27
            exact J90 x3 x3 σ _ _ (by omega) (by omega) _ _ _ hw hR (lh_sub hl [0, 1, 2, 3] rfl)
          · replace hw := if_t hw c27
            refine lv_iconst (v := 2) hX.1.1 hX.1.2.1 dX7_close_86 (by decide) ?_
            refine lv_goto (tgt := 96) hX.1.1 hX.1.2.1 dX7_close_87 (by decide) ?_
            exact J96 x3 x3 2 σ _ _ (by omega) (by omega) _ _ _ hw hR (lh_sub hl [0, 1, 2, 3] rfl)
  have J27 : ∀ (x1 : Int32) (y1 : Int32) (σ : St) (cells slots : Nat), cells ≤ 0 → slots ≤ 0 → ∀ (H : Heap) (locs : List Loc) (ls : Array Slot), f8_close_j27 fu x1 y1 σ = some (r, σ') → RS γ ad σ s H locs → lh ls 4 [(0, .ref (gS γ 8 0)), (1, .int x1)] → W p l e (rmo 6 0 0) s m ([.ref (gS γ 8 0), .int a1] : List Value).toArray below meth c H locs cells slots (MQ below (QI γ ad σ' (b2i r)) ([.ref (gS γ 8 0), .int a1] : List Value).toArray s 0 0 (gA γ)) (F0 m 27 ls [.int y1, .ref (gS γ 8 0)]) := by
    intro x1 y1 σ cells slots hc1 hc2 H locs ls hw hR hl
    unfold f8_close_j27 at hw
    refine rw_puti (x := y1) hX hR 8 0 0 800 (C := RX7) (T := TX7) (N := 48) rfl (by decide) rfl rfl (Nat.le_of_ble_eq_true rfl) rfl uw_X7 tyX7 tyX7_ok nmX7 gw_928 rfl rfl (by decide) dX7_close_27 (fun σ1 H locs e1 hR1 => ?_)
    replace hR := hR1
    clear hR1
    subst e1
    refine rw_aload_n hX hl 0 rfl (Or.inr ⟨_, rfl⟩) dX7_close_30 rfl ?_
    refine rw_get hX hR 8 0 0 (C := RX7) (T := TX7) (N := 48) rfl (by decide) (Nat.le_of_ble_eq_true rfl) rfl (v := .int (gi (zi σ 800 0 y1) 800 0)) rfl uw_X7 gw_928 rfl dX7_close_31 ?_
    refine lv_if_eq (x := (gi (zi σ 800 0 y1) 800 0)) (tgt := 39) hX.1.1 hX.1.2.1 dX7_close_34 (by decide) (fun c8 => ?_) (fun c8 => ?_)
    · replace hw := if_t hw c8
      refine rw_aload_n hX hl 0 rfl (Or.inr ⟨_, rfl⟩) dX7_close_39 rfl ?_
      refine rw_iload_n hX hl 1 rfl dX7_close_40 rfl ?_
      obtain ⟨v9, g11, hw1⟩ := ob1_some hw
      replace hw := hw1
      clear hw1
      refine rw_cVi hX hR pk_f8_isDead (mc := 0) (ms := 0) ⟨rfl, rfl, (show 1 + 1 ≤ 6 by omega), (show 8 + (2 + 11) + 64 * 1 ≤ 64 * 6 by omega)⟩ (As := [.int x1]) (rest := []) rfl (C_f8_isDead l γ ad x1 (zi σ 800 0 y1) v9 g11) gw_1196 gw_1198 gs_71 (rs_recv hX hR 8 0 (C := RX7) (T := TX7) (N := 48) rfl (by decide) (Nat.le_of_ble_eq_true rfl) rfl) rfl hl.1 ca0 (Nat.le_of_ble_eq_true rfl) dX7_close_41 ⟨(show cells + 0 ≤ 0 by omega), (show slots + 0 ≤ 0 by omega)⟩ (fun H locs hR1 => ?_)
      replace hR := hR1
      clear hR1
      refine rw_istore_n (lv' := [(2, .int (b2i v9)), (0, .ref (gS γ 8 0)), (1, .int x1)]) hX hl (by decide) rfl dX7_close_44 rfl (fun ls hl1 => ?_)
      replace hl := hl1
      clear hl1
      refine rw_aload_n hX hl 1 rfl (Or.inr ⟨_, rfl⟩) dX7_close_45 rfl ?_
      refine rw_get hX hR 8 33 0 (C := RX7) (T := TX7) (N := 48) rfl (by decide) (Nat.le_of_ble_eq_true rfl) rfl (v := .ref (gS γ 1833 0)) rfl uw_X7 gw_961 rfl dX7_close_46 ?_
      refine rw_iload_n hX hl 2 rfl dX7_close_49 rfl ?_
      refine lv_iconst (v := 1) hX.1.1 hX.1.2.1 dX7_close_50 (by decide) ?_
      obtain ⟨h13, hw1⟩ := ar_some hw
      replace hw := hw1
      clear hw1
      obtain ⟨j12, ej12⟩ : ∃ j, (x1 : Int32).toNatClampNeg = j := ⟨_, rfl⟩
      rw [ej12] at hw
      refine rw_zast hX hR 833 (n := 40) (i := x1) (x := true) rfl (by decide) rfl rfl h13 dX7_close_51 (fun σ1 H locs e1 hR1 => ?_)
      replace hR := hR1
      clear hR1
      rw [ej12] at e1
      subst e1
      refine lv_iconst (v := 0) hX.1.1 hX.1.2.1 dX7_close_52 (by decide) ?_
      refine rw_istore_n (lv' := [(3, .int 0), (2, .int (b2i v9)), (0, .ref (gS γ 8 0)), (1, .int x1)]) hX hl (by decide) rfl dX7_close_53 rfl (fun ls hl1 => ?_)
      replace hl := hl1
      clear hl1
      exact L54 x1 v9 _ _ _ _ (by omega) (by omega) _ _ _ hw hR (lh_sub hl [2, 3, 1, 0] rfl)
    · replace hw := if_f hw c8
      refine lv_iconst (v := 0) hX.1.1 hX.1.2.1 dX7_close_37 (by decide) ?_
      refine W.widen (k := 0) (n := 0) (by omega) (by omega) ?_
      exact rq_ze hX hR hr (v := false) rfl hw dX7_close_38 hlocks
  refine rw_entry (ca1 rfl (ca1 rfl ca0)) (Nat.le_of_ble_eq_true rfl) (fun ls hl1 => ?_)
  replace hl := hl1
  clear hl1
  refine rw_aload_n hX hl 0 rfl (Or.inr ⟨_, rfl⟩) dX7_close_0 rfl ?_
  refine rw_aload_n hX hl 0 rfl (Or.inr ⟨_, rfl⟩) dX7_close_1 rfl ?_
  refine rw_iload_n hX hl 1 rfl dX7_close_2 rfl ?_
  obtain ⟨v1, g3, hw1⟩ := ob1_some hw
  replace hw := hw1
  clear hw1
  refine rw_cVi hX hR pk_f8_isHandle (mc := 0) (ms := 0) ⟨rfl, rfl, (show 2 + 1 ≤ 6 by omega), (show 8 + (2 + 11) + 64 * 2 ≤ 64 * 6 by omega)⟩ (As := [.int a1]) (rest := [.ref (gS γ 8 0)]) rfl (C_f8_isHandle l γ ad a1 σ v1 g3) gw_1192 gw_1194 gs_70 (rs_recv hX hR 8 0 (C := RX7) (T := TX7) (N := 48) rfl (by decide) (Nat.le_of_ble_eq_true rfl) rfl) rfl hl.1 (ca1 rfl ca0) (Nat.le_of_ble_eq_true rfl) dX7_close_3 ⟨(show 0 + 0 ≤ 0 by omega), (show 0 + 0 ≤ 0 by omega)⟩ (fun H locs hR1 => ?_)
  replace hR := hR1
  clear hR1
  refine rw_ifneZ (b := v1) (tgt := 13) hX dX7_close_6 (by decide) (fun c4 => ?_) (fun c4 => ?_)
  · replace hw := if_t hw c4
    refine rw_aload_n hX hl 0 rfl (Or.inr ⟨_, rfl⟩) dX7_close_13 rfl ?_
    refine rw_get hX hR 8 33 0 (C := RX7) (T := TX7) (N := 48) rfl (by decide) (Nat.le_of_ble_eq_true rfl) rfl (v := .ref (gS γ 1833 0)) rfl uw_X7 gw_961 rfl dX7_close_14 ?_
    refine rw_iload_n hX hl 1 rfl dX7_close_17 rfl ?_
    obtain ⟨h6, hw1⟩ := ar_some hw
    replace hw := hw1
    clear hw1
    obtain ⟨j5, ej5⟩ : ∃ j, (a1 : Int32).toNatClampNeg = j := ⟨_, rfl⟩
    rw [ej5] at hw
    refine rw_zald hX hR 833 (n := 40) (i := a1) (v := (gb σ 833 j5)) rfl (by decide) rfl rfl h6 (by rw [ej5]) dX7_close_18 ?_
    refine rw_ifeqZ (b := (gb σ 833 j5)) (tgt := 26) hX dX7_close_19 (by decide) (fun c7 => ?_) (fun c7 => ?_)
    · replace hw := if_f hw c7
      refine lv_iconst (v := 0) hX.1.1 hX.1.2.1 dX7_close_26 (by decide) ?_
      exact J27 a1 0 σ _ _ (by omega) (by omega) _ _ _ hw hR (lh_sub hl [0, 1] rfl)
    · replace hw := if_t hw c7
      refine lv_iconst (v := 2) hX.1.1 hX.1.2.1 dX7_close_22 (by decide) ?_
      refine lv_goto (tgt := 27) hX.1.1 hX.1.2.1 dX7_close_23 (by decide) ?_
      exact J27 a1 2 σ _ _ (by omega) (by omega) _ _ _ hw hR (lh_sub hl [0, 1] rfl)
  · replace hw := if_f hw c4
    refine lv_iconst (v := 1) hX.1.1 hX.1.2.1 dX7_close_9 (by decide) ?_
    refine lv_goto (tgt := 27) hX.1.1 hX.1.2.1 dX7_close_10 (by decide) ?_
    exact J27 a1 1 σ _ _ (by omega) (by omega) _ _ _ hw hR (lh_sub hl [0, 1] rfl)
set_option maxHeartbeats 8000000 in
set_option maxRecDepth 100000 in
theorem C_f8_touch (l : Launch) (γ : GT) (ad : Nat → Nat → Nat) {fu : Nat} (a1 : Int32) (σ : St) (σ' : St) (hw : f8_touch fu a1 σ = some σ') : Met l yX7_touch (Cond.code yX7_touch cX7_touch 2 (Option.none : Option Jvm.ClassFile.FieldType) :: GW) (rmo 3 0 0) (va_Pc [.ref (gS γ 8 0), .int a1] (RU γ ad σ)) (QV γ ad σ') 0 0 (gA γ) := by
  refine Met.ofW (cc := cX7_touch) (maxL := 2) (ret := (Option.none : Option Jvm.ClassFile.FieldType)) (by decide +kernel) rfl ?_
  intro p e s m args below meth c s₁ B hml hv
  obtain ⟨rfl, hU⟩ := hv
  obtain ⟨hX, hR⟩ := cx_of (own := RX7) B hml rfl hU
  have hr := B.returns
  have hlocks := B.notSynchronized
  have hc0 : (0 : Nat) ≤ 0 := Nat.le_refl 0
  show W p l e (rmo 3 0 0) s m ([.ref (gS γ 8 0), .int a1] : List Value).toArray below meth c s.heap [] 0 0 (MQ below (QV γ ad σ') ([.ref (gS γ 8 0), .int a1] : List Value).toArray s 0 0 (gA γ)) (entryFrame m ([.ref (gS γ 8 0), .int a1] : List Value).toArray 2)
  unfold f8_touch at hw
  refine rw_entry (ca1 rfl (ca1 rfl ca0)) (Nat.le_of_ble_eq_true rfl) (fun ls hl1 => ?_)
  replace hl := hl1
  clear hl1
  refine rw_aload_n hX hl 0 rfl (Or.inr ⟨_, rfl⟩) dX7_touch_0 rfl ?_
  refine rw_iload_n hX hl 1 rfl dX7_touch_1 rfl ?_
  obtain ⟨σ2, g3, hw1⟩ := ob1_some hw
  replace hw := hw1
  clear hw1
  refine rw_cVv hX hR pk_f8_wake (mc := 0) (ms := 0) ⟨rfl, rfl, (show 2 + 1 ≤ 3 by omega), (show 8 + (5 + 11) + 64 * 2 ≤ 64 * 3 by omega)⟩ (As := [.int a1]) (rest := []) rfl (C_f8_wake l γ ad a1 σ σ2 g3) gw_1133 gw_1135 gs_64 (rs_recv hX hR 8 0 (C := RX7) (T := TX7) (N := 48) rfl (by decide) (Nat.le_of_ble_eq_true rfl) rfl) rfl hl.1 ca0 (Nat.le_of_ble_eq_true rfl) dX7_touch_2 ⟨(show 0 + 0 ≤ 0 by omega), (show 0 + 0 ≤ 0 by omega)⟩ (fun H locs hR1 => ?_)
  replace hR := hR1
  clear hR1
  refine rw_aload_n hX hl 0 rfl (Or.inr ⟨_, rfl⟩) dX7_touch_5 rfl ?_
  refine rw_get hX hR 8 21 0 (C := RX7) (T := TX7) (N := 48) rfl (by decide) (Nat.le_of_ble_eq_true rfl) rfl (v := .ref (gS γ 1821 0)) rfl uw_X7 gw_949 rfl dX7_touch_6 ?_
  refine rw_iload_n hX hl 1 rfl dX7_touch_9 rfl ?_
  refine rw_aload_n hX hl 0 rfl (Or.inr ⟨_, rfl⟩) dX7_touch_10 rfl ?_
  refine rw_get hX hR 8 1 0 (C := RX7) (T := TX7) (N := 48) rfl (by decide) (Nat.le_of_ble_eq_true rfl) rfl (v := .int (gi σ2 801 0)) rfl uw_X7 gw_929 rfl dX7_touch_11 ?_
  obtain ⟨h5, hw1⟩ := ar_some hw
  replace hw := hw1
  clear hw1
  obtain ⟨j4, ej4⟩ : ∃ j, (a1 : Int32).toNatClampNeg = j := ⟨_, rfl⟩
  rw [ej4] at hw
  refine rw_iast hX hR 821 (n := 24) (i := a1) (x := (gi σ2 801 0)) rfl (by decide) rfl rfl h5 dX7_touch_14 (fun σ1 H locs e1 hR1 => ?_)
  replace hR := hR1
  clear hR1
  rw [ej4] at e1
  subst e1
  refine W.widen (k := 0) (n := 0) (by omega) (by omega) ?_
  exact rq_ve hX hR hr hw dX7_touch_15 hlocks
set_option maxHeartbeats 8000000 in
set_option maxRecDepth 100000 in
theorem C_f8_call (l : Launch) (γ : GT) (ad : Nat → Nat → Nat) {fu : Nat} (a1 : Int32) (a2 : Int32) (σ : St) (r : Int32) (σ' : St) (hw : f8_call fu a1 a2 σ = some (r, σ')) : Met l yX7_call (Cond.code yX7_call cX7_call 3 (Option.some Jvm.ClassFile.FieldType.int) :: GW) (rmo 6 0 0) (va_Pc [.ref (gS γ 8 0), .int a1, .int a2] (RU γ ad σ)) (QI γ ad σ' r) 0 0 (gA γ) := by
  refine Met.ofW (cc := cX7_call) (maxL := 3) (ret := (Option.some Jvm.ClassFile.FieldType.int)) (by decide +kernel) rfl ?_
  intro p e s m args below meth c s₁ B hml hv
  obtain ⟨rfl, hU⟩ := hv
  obtain ⟨hX, hR⟩ := cx_of (own := RX7) B hml rfl hU
  have hr := B.returns
  have hlocks := B.notSynchronized
  have hc0 : (0 : Nat) ≤ 0 := Nat.le_refl 0
  show W p l e (rmo 6 0 0) s m ([.ref (gS γ 8 0), .int a1, .int a2] : List Value).toArray below meth c s.heap [] 0 0 (MQ below (QI γ ad σ' r) ([.ref (gS γ 8 0), .int a1, .int a2] : List Value).toArray s 0 0 (gA γ)) (entryFrame m ([.ref (gS γ 8 0), .int a1, .int a2] : List Value).toArray 3)
  unfold f8_call at hw
  have J56 : ∀ (x1 : Int32) (x2 : Int32) (y1 : Int32) (σ : St) (cells slots : Nat), cells ≤ 0 → slots ≤ 0 → ∀ (H : Heap) (locs : List Loc) (ls : Array Slot), f8_call_j56 fu x1 x2 y1 σ = some (r, σ') → RS γ ad σ s H locs → lh ls 3 [(0, .ref (gS γ 8 0)), (1, .int x1), (2, .int x2)] → W p l e (rmo 6 0 0) s m ([.ref (gS γ 8 0), .int a1, .int a2] : List Value).toArray below meth c H locs cells slots (MQ below (QI γ ad σ' r) ([.ref (gS γ 8 0), .int a1, .int a2] : List Value).toArray s 0 0 (gA γ)) (F0 m 56 ls [.int y1, .ref (gS γ 8 0)]) := by
    intro x1 x2 y1 σ cells slots hc1 hc2 H locs ls hw hR hl
    unfold f8_call_j56 at hw
    refine rw_puti (x := y1) hX hR 8 0 0 800 (C := RX7) (T := TX7) (N := 48) rfl (by decide) rfl rfl (Nat.le_of_ble_eq_true rfl) rfl uw_X7 tyX7 tyX7_ok nmX7 gw_928 rfl rfl (by decide) dX7_call_56 (fun σ1 H locs e1 hR1 => ?_)
    replace hR := hR1
    clear hR1
    subst e1
    refine rw_aload_n hX hl 0 rfl (Or.inr ⟨_, rfl⟩) dX7_call_59 rfl ?_
    refine rw_get hX hR 8 0 0 (C := RX7) (T := TX7) (N := 48) rfl (by decide) (Nat.le_of_ble_eq_true rfl) rfl (v := .int (gi (zi σ 800 0 y1) 800 0)) rfl uw_X7 gw_928 rfl dX7_call_60 ?_
    refine lv_if_eq (x := (gi (zi σ 800 0 y1) 800 0)) (tgt := 68) hX.1.1 hX.1.2.1 dX7_call_63 (by decide) (fun c13 => ?_) (fun c13 => ?_)
    · replace hw := if_t hw c13
      refine rw_aload_n hX hl 0 rfl (Or.inr ⟨_, rfl⟩) dX7_call_68 rfl ?_
      refine rw_aload_n hX hl 0 rfl (Or.inr ⟨_, rfl⟩) dX7_call_69 rfl ?_
      refine rw_get hX hR 8 31 0 (C := RX7) (T := TX7) (N := 48) rfl (by decide) (Nat.le_of_ble_eq_true rfl) rfl (v := .ref (gS γ 1831 0)) rfl uw_X7 gw_959 rfl dX7_call_70 ?_
      refine rw_iload_n hX hl 1 rfl dX7_call_73 rfl ?_
      obtain ⟨h15, hw1⟩ := ar_some hw
      replace hw := hw1
      clear hw1
      obtain ⟨j14, ej14⟩ : ∃ j, (x1 : Int32).toNatClampNeg = j := ⟨_, rfl⟩
      rw [ej14] at hw
      refine rw_iald hX hR 831 (n := 40) (i := x1) (v := (gi (zi σ 800 0 y1) 831 j14)) rfl (by decide) rfl rfl h15 (by rw [ej14]) dX7_call_74 ?_
      obtain ⟨σ17, g18, hw1⟩ := ob1_some hw
      replace hw := hw1
      clear hw1
      refine rw_cVv hX hR pk_f8_touch (mc := 0) (ms := 0) ⟨rfl, rfl, (show 3 + 1 ≤ 6 by omega), (show 8 + (2 + 11) + 64 * 3 ≤ 64 * 6 by omega)⟩ (As := [.int (gi (zi σ 800 0 y1) 831 j14)]) (rest := []) rfl (C_f8_touch l γ ad (gi (zi σ 800 0 y1) 831 j14) (zi σ 800 0 y1) σ17 g18) gw_1208 gw_1210 gs_73 (rs_recv hX hR 8 0 (C := RX7) (T := TX7) (N := 48) rfl (by decide) (Nat.le_of_ble_eq_true rfl) rfl) rfl hl.1 ca0 (Nat.le_of_ble_eq_true rfl) dX7_call_75 ⟨(show cells + 0 ≤ 0 by omega), (show slots + 0 ≤ 0 by omega)⟩ (fun H locs hR1 => ?_)
      replace hR := hR1
      clear hR1
      refine rw_aload_n hX hl 0 rfl (Or.inr ⟨_, rfl⟩) dX7_call_78 rfl ?_
      refine rw_get hX hR 8 35 0 (C := RX7) (T := TX7) (N := 48) rfl (by decide) (Nat.le_of_ble_eq_true rfl) rfl (v := .ref (gS γ 1835 0)) rfl uw_X7 gw_963 rfl dX7_call_79 ?_
      refine rw_aload_n hX hl 0 rfl (Or.inr ⟨_, rfl⟩) dX7_call_82 rfl ?_
      refine rw_get hX hR 8 34 0 (C := RX7) (T := TX7) (N := 48) rfl (by decide) (Nat.le_of_ble_eq_true rfl) rfl (v := .int (gi σ17 834 0)) rfl uw_X7 gw_962 rfl dX7_call_83 ?_
      refine rw_iload_n hX hl 1 rfl dX7_call_86 rfl ?_
      obtain ⟨h20, hw1⟩ := ar_some hw
      replace hw := hw1
      clear hw1
      obtain ⟨j19, ej19⟩ : ∃ j, ((gi σ17 834 0) : Int32).toNatClampNeg = j := ⟨_, rfl⟩
      rw [ej19] at hw
      refine rw_iast hX hR 835 (n := 100) (i := (gi σ17 834 0)) (x := x1) rfl (by decide) rfl rfl h20 dX7_call_87 (fun σ1 H locs e1 hR1 => ?_)
      replace hR := hR1
      clear hR1
      rw [ej19] at e1
      subst e1
      refine rw_aload_n hX hl 0 rfl (Or.inr ⟨_, rfl⟩) dX7_call_88 rfl ?_
      refine rw_get hX hR 8 36 0 (C := RX7) (T := TX7) (N := 48) rfl (by decide) (Nat.le_of_ble_eq_true rfl) rfl (v := .ref (gS γ 1836 0)) rfl uw_X7 gw_964 rfl dX7_call_89 ?_
      refine rw_aload_n hX hl 0 rfl (Or.inr ⟨_, rfl⟩) dX7_call_92 rfl ?_
      refine rw_get hX hR 8 34 0 (C := RX7) (T := TX7) (N := 48) rfl (by decide) (Nat.le_of_ble_eq_true rfl) rfl (v := .int (gi (zi σ17 835 j19 x1) 834 0)) rfl uw_X7 gw_962 rfl dX7_call_93 ?_
      refine rw_aload_n hX hl 0 rfl (Or.inr ⟨_, rfl⟩) dX7_call_96 rfl ?_
      refine rw_get hX hR 8 1 0 (C := RX7) (T := TX7) (N := 48) rfl (by decide) (Nat.le_of_ble_eq_true rfl) rfl (v := .int (gi (zi σ17 835 j19 x1) 801 0)) rfl uw_X7 gw_929 rfl dX7_call_97 ?_
      refine rw_iload_n hX hl 2 rfl dX7_call_100 rfl ?_
      refine lv_iadd (x := (gi (zi σ17 835 j19 x1) 801 0)) (y := x2) hX.1.1 hX.1.2.1 dX7_call_101 ?_
      obtain ⟨h22, hw1⟩ := ar_some hw
      replace hw := hw1
      clear hw1
      obtain ⟨j21, ej21⟩ : ∃ j, ((gi (zi σ17 835 j19 x1) 834 0) : Int32).toNatClampNeg = j := ⟨_, rfl⟩
      rw [ej21] at hw
      refine rw_iast hX hR 836 (n := 100) (i := (gi (zi σ17 835 j19 x1) 834 0)) (x := ((gi (zi σ17 835 j19 x1) 801 0) + x2)) rfl (by decide) rfl rfl h22 dX7_call_102 (fun σ1 H locs e1 hR1 => ?_)
      replace hR := hR1
      clear hR1
      rw [ej21] at e1
      subst e1
      refine rw_aload_n hX hl 0 rfl (Or.inr ⟨_, rfl⟩) dX7_call_103 rfl ?_
      refine rw_get hX hR 8 37 0 (C := RX7) (T := TX7) (N := 48) rfl (by decide) (Nat.le_of_ble_eq_true rfl) rfl (v := .ref (gS γ 1837 0)) rfl uw_X7 gw_965 rfl dX7_call_104 ?_
      refine rw_aload_n hX hl 0 rfl (Or.inr ⟨_, rfl⟩) dX7_call_107 rfl ?_
      refine rw_get hX hR 8 34 0 (C := RX7) (T := TX7) (N := 48) rfl (by decide) (Nat.le_of_ble_eq_true rfl) rfl (v := .int (gi (zi (zi σ17 835 j19 x1) 836 j21 ((gi (zi σ17 835 j19 x1) 801 0) + x2)) 834 0)) rfl uw_X7 gw_962 rfl dX7_call_108 ?_
      refine lv_iconst (v := 0) hX.1.1 hX.1.2.1 dX7_call_111 (by decide) ?_
      obtain ⟨h24, hw1⟩ := ar_some hw
      replace hw := hw1
      clear hw1
      obtain ⟨j23, ej23⟩ : ∃ j, ((gi (zi (zi σ17 835 j19 x1) 836 j21 ((gi (zi σ17 835 j19 x1) 801 0) + x2)) 834 0) : Int32).toNatClampNeg = j := ⟨_, rfl⟩
      rw [ej23] at hw
      refine rw_iast hX hR 837 (n := 100) (i := (gi (zi (zi σ17 835 j19 x1) 836 j21 ((gi (zi σ17 835 j19 x1) 801 0) + x2)) 834 0)) (x := 0) rfl (by decide) rfl rfl h24 dX7_call_112 (fun σ1 H locs e1 hR1 => ?_)
      replace hR := hR1
      clear hR1
      rw [ej23] at e1
      subst e1
      refine rw_aload_n hX hl 0 rfl (Or.inr ⟨_, rfl⟩) dX7_call_113 rfl ?_
      refine lv_dup hX.1.1 hX.1.2.1 dX7_call_114 rfl ?_
      refine rw_get hX hR 8 34 0 (C := RX7) (T := TX7) (N := 48) rfl (by decide) (Nat.le_of_ble_eq_true rfl) rfl (v := .int (gi (zi (zi (zi σ17 835 j19 x1) 836 j21 ((gi (zi σ17 835 j19 x1) 801 0) + x2)) 837 j23 0) 834 0)) rfl uw_X7 gw_962 rfl dX7_call_115 ?_
      refine lv_iconst (v := 1) hX.1.1 hX.1.2.1 dX7_call_118 (by decide) ?_
      refine lv_iadd (x := (gi (zi (zi (zi σ17 835 j19 x1) 836 j21 ((gi (zi σ17 835 j19 x1) 801 0) + x2)) 837 j23 0) 834 0)) (y := 1) hX.1.1 hX.1.2.1 dX7_call_119 ?_
      refine rw_puti (x := ((gi (zi (zi (zi σ17 835 j19 x1) 836 j21 ((gi (zi σ17 835 j19 x1) 801 0) + x2)) 837 j23 0) 834 0) + 1)) hX hR 8 34 0 834 (C := RX7) (T := TX7) (N := 48) rfl (by decide) rfl rfl (Nat.le_of_ble_eq_true rfl) rfl uw_X7 tyX7 tyX7_ok nmX7 gw_962 rfl rfl (by decide) dX7_call_120 (fun σ1 H locs e1 hR1 => ?_)
      replace hR := hR1
      clear hR1
      subst e1
      refine rw_aload_n hX hl 0 rfl (Or.inr ⟨_, rfl⟩) dX7_call_123 rfl ?_
      obtain ⟨σ26, g27, hw1⟩ := ob1_some hw
      replace hw := hw1
      clear hw1
      refine rw_cVv hX hR pk_f8_settle (mc := 0) (ms := 0) ⟨rfl, rfl, (show 5 + 1 ≤ 6 by omega), (show 8 + (3 + 11) + 64 * 5 ≤ 64 * 6 by omega)⟩ (As := []) (rest := []) rfl (C_f8_settle l γ ad (zi (zi (zi (zi σ17 835 j19 x1) 836 j21 ((gi (zi σ17 835 j19 x1) 801 0) + x2)) 837 j23 0) 834 0 ((gi (zi (zi (zi σ17 835 j19 x1) 836 j21 ((gi (zi σ17 835 j19 x1) 801 0) + x2)) 837 j23 0) 834 0) + 1)) σ26 g27) gw_1093 gw_1095 gs_54 (rs_recv hX hR 8 0 (C := RX7) (T := TX7) (N := 48) rfl (by decide) (Nat.le_of_ble_eq_true rfl) rfl) rfl hl.1 ca0 (Nat.le_of_ble_eq_true rfl) dX7_call_124 ⟨(show (cells + 0) + 0 ≤ 0 by omega), (show (slots + 0) + 0 ≤ 0 by omega)⟩ (fun H locs hR1 => ?_)
      replace hR := hR1
      clear hR1
      refine rw_aload_n hX hl 0 rfl (Or.inr ⟨_, rfl⟩) dX7_call_127 rfl ?_
      refine rw_get hX hR 8 34 0 (C := RX7) (T := TX7) (N := 48) rfl (by decide) (Nat.le_of_ble_eq_true rfl) rfl (v := .int (gi σ26 834 0)) rfl uw_X7 gw_962 rfl dX7_call_128 ?_
      refine lv_iconst (v := 1) hX.1.1 hX.1.2.1 dX7_call_131 (by decide) ?_
      refine lv_isub (x := (gi σ26 834 0)) (y := 1) hX.1.1 hX.1.2.1 dX7_call_132 ?_
      refine W.widen (k := 0) (n := 0) (by omega) (by omega) ?_
      exact rq_ie hX hR hr hw dX7_call_133 hlocks
    · replace hw := if_f hw c13
      refine lv_iconst (v := 0) hX.1.1 hX.1.2.1 dX7_call_66 (by decide) ?_
      refine W.widen (k := 0) (n := 0) (by omega) (by omega) ?_
      exact rq_ie hX hR hr hw dX7_call_67 hlocks
  refine rw_entry (ca1 rfl (ca1 rfl (ca1 rfl ca0))) (Nat.le_of_ble_eq_true rfl) (fun ls hl1 => ?_)
  replace hl := hl1
  clear hl1
  refine rw_aload_n hX hl 0 rfl (Or.inr ⟨_, rfl⟩) dX7_call_0 rfl ?_
  refine rw_aload_n hX hl 0 rfl (Or.inr ⟨_, rfl⟩) dX7_call_1 rfl ?_
  refine rw_iload_n hX hl 1 rfl dX7_call_2 rfl ?_
  obtain ⟨v1, g3, hw1⟩ := ob1_some hw
  replace hw := hw1
  clear hw1
  refine rw_cVi hX hR pk_f8_isHandle (mc := 0) (ms := 0) ⟨rfl, rfl, (show 2 + 1 ≤ 6 by omega), (show 8 + (2 + 11) + 64 * 2 ≤ 64 * 6 by omega)⟩ (As := [.int a1]) (rest := [.ref (gS γ 8 0)]) rfl (C_f8_isHandle l γ ad a1 σ v1 g3) gw_1192 gw_1194 gs_70 (rs_recv hX hR 8 0 (C := RX7) (T := TX7) (N := 48) rfl (by decide) (Nat.le_of_ble_eq_true rfl) rfl) rfl hl.1 (ca1 rfl ca0) (Nat.le_of_ble_eq_true rfl) dX7_call_3 ⟨(show 0 + 0 ≤ 0 by omega), (show 0 + 0 ≤ 0 by omega)⟩ (fun H locs hR1 => ?_)
  replace hR := hR1
  clear hR1
  refine rw_ifneZ (b := v1) (tgt := 13) hX dX7_call_6 (by decide) (fun c4 => ?_) (fun c4 => ?_)
  · replace hw := if_t hw c4
    refine rw_iload_n hX hl 2 rfl dX7_call_13 rfl ?_
    refine lv_iconst (v := 1) hX.1.1 hX.1.2.1 dX7_call_14 (by decide) ?_
    refine lv_bipush (v := 20) hX.1.1 hX.1.2.1 dX7_call_15 (by decide) ?_
    obtain ⟨v5, g7, hw1⟩ := ob1_some hw
    replace hw := hw1
    clear hw1
    refine rw_cSi hX hR pk_f8_in (mc := 0) (ms := 0) ⟨rfl, rfl, (show 1 + 1 ≤ 6 by omega), (show 8 + (3 + 11) + 64 * 1 ≤ 64 * 6 by omega)⟩ (As := [.int a2, .int 1, .int 20]) (rest := [.ref (gS γ 8 0)]) rfl (C_f8_in l γ ad a2 1 20 σ v5 g7) gw_1082 gw_1083 rfl hl.1 (ca1 rfl ca0) (Nat.le_of_ble_eq_true rfl) dX7_call_17 ⟨(show (0 + 0) + 0 ≤ 0 by omega), (show (0 + 0) + 0 ≤ 0 by omega)⟩ (fun H locs hR1 => ?_)
    replace hR := hR1
    clear hR1
    refine rw_ifneZ (b := v5) (tgt := 27) hX dX7_call_20 (by decide) (fun c8 => ?_) (fun c8 => ?_)
    · replace hw := if_t hw c8
      refine rw_aload_n hX hl 0 rfl (Or.inr ⟨_, rfl⟩) dX7_call_27 rfl ?_
      refine rw_iload_n hX hl 1 rfl dX7_call_28 rfl ?_
      obtain ⟨v9, g11, hw1⟩ := ob1_some hw
      replace hw := hw1
      clear hw1
      refine rw_cVi hX hR pk_f8_isUsable (mc := 0) (ms := 0) ⟨rfl, rfl, (show 2 + 1 ≤ 6 by omega), (show 8 + (2 + 11) + 64 * 2 ≤ 64 * 6 by omega)⟩ (As := [.int a1]) (rest := [.ref (gS γ 8 0)]) rfl (C_f8_isUsable l γ ad a1 σ v9 g11) gw_1204 gw_1206 gs_72 (rs_recv hX hR 8 0 (C := RX7) (T := TX7) (N := 48) rfl (by decide) (Nat.le_of_ble_eq_true rfl) rfl) rfl hl.1 (ca1 rfl ca0) (Nat.le_of_ble_eq_true rfl) dX7_call_29 ⟨(show ((0 + 0) + 0) + 0 ≤ 0 by omega), (show ((0 + 0) + 0) + 0 ≤ 0 by omega)⟩ (fun H locs hR1 => ?_)
      replace hR := hR1
      clear hR1
      refine rw_ifeqZ (b := v9) (tgt := 51) hX dX7_call_32 (by decide) (fun c12 => ?_) (fun c12 => ?_)
      · replace hw := if_f hw c12
        refine lv_iconst (v := 3) hX.1.1 hX.1.2.1 dX7_call_51 (by decide) ?_
        refine lv_goto (tgt := 56) hX.1.1 hX.1.2.1 dX7_call_52 (by decide) ?_
        exact J56 a1 a2 3 σ _ _ (by omega) (by omega) _ _ _ hw hR (lh_sub hl [0, 1, 2] rfl)
      · replace hw := if_t hw c12
        refine rw_aload_n hX hl 0 rfl (Or.inr ⟨_, rfl⟩) dX7_call_35 rfl ?_
        refine rw_get hX hR 8 2 0 (C := RX7) (T := TX7) (N := 48) rfl (by decide) (Nat.le_of_ble_eq_true rfl) rfl (v := .int (b2i (gb σ 802 0))) rfl uw_X7 gw_930 rfl dX7_call_36 ?_
        refine rw_ifneZ (b := (gb σ 802 0)) (tgt := 51) hX dX7_call_39 (by decide) (fun c28 => ?_) (fun c28 => ?_)
        · replace hw := if_t hw c28
          refine lv_iconst (v := 3) hX.1.1 hX.1.2.1 dX7_call_51 (by decide) ?_
          refine lv_goto (tgt := 56) hX.1.1 hX.1.2.1 dX7_call_52 (by decide) ?_
          exact J56 a1 a2 3 σ _ _ (by omega) (by omega) _ _ _ hw hR (lh_sub hl [0, 1, 2] rfl)
        · replace hw := if_f hw c28
          refine rw_aload_n hX hl 0 rfl (Or.inr ⟨_, rfl⟩) dX7_call_42 rfl ?_
          refine rw_get hX hR 8 34 0 (C := RX7) (T := TX7) (N := 48) rfl (by decide) (Nat.le_of_ble_eq_true rfl) rfl (v := .int (gi σ 834 0)) rfl uw_X7 gw_962 rfl dX7_call_43 ?_
          refine lv_bipush (v := 100) hX.1.1 hX.1.2.1 dX7_call_46 (by decide) ?_
          refine lv_icmp_ne (x := (gi σ 834 0)) (y := 100) (tgt := 55) hX.1.1 hX.1.2.1 dX7_call_48 (by decide) (fun c29 => ?_) (fun c29 => ?_)
          · replace hw := if_f hw c29
            refine lv_iconst (v := 0) hX.1.1 hX.1.2.1 dX7_call_55 (by decide) ?_
            exact J56 a1 a2 0 σ _ _ (by omega) (by omega) _ _ _ hw hR (lh_sub hl [0, 1, 2] rfl)
          · replace hw := if_t hw c29
            refine lv_iconst (v := 3) hX.1.1 hX.1.2.1 dX7_call_51 (by decide) ?_
            refine lv_goto (tgt := 56) hX.1.1 hX.1.2.1 dX7_call_52 (by decide) ?_
            exact J56 a1 a2 3 σ _ _ (by omega) (by omega) _ _ _ hw hR (lh_sub hl [0, 1, 2] rfl)
    · replace hw := if_f hw c8
      refine lv_iconst (v := 2) hX.1.1 hX.1.2.1 dX7_call_23 (by decide) ?_
      refine lv_goto (tgt := 56) hX.1.1 hX.1.2.1 dX7_call_24 (by decide) ?_
      exact J56 a1 a2 2 σ _ _ (by omega) (by omega) _ _ _ hw hR (lh_sub hl [0, 1, 2] rfl)
  · replace hw := if_f hw c4
    refine lv_iconst (v := 1) hX.1.1 hX.1.2.1 dX7_call_9 (by decide) ?_
    refine lv_goto (tgt := 56) hX.1.1 hX.1.2.1 dX7_call_10 (by decide) ?_
    exact J56 a1 a2 1 σ _ _ (by omega) (by omega) _ _ _ hw hR (lh_sub hl [0, 1, 2] rfl)
set_option maxHeartbeats 8000000 in
set_option maxRecDepth 100000 in
theorem C_f8_set (l : Launch) (γ : GT) (ad : Nat → Nat → Nat) {fu : Nat} (a1 : Int32) (a2 : Int32) (σ : St) (r : Int32) (σ' : St) (hw : f8_set fu a1 a2 σ = some (r, σ')) : Met l yX7_set (Cond.code yX7_set cX7_set 5 (Option.some Jvm.ClassFile.FieldType.int) :: GW) (rmo 6 0 0) (va_Pc [.ref (gS γ 8 0), .int a1, .int a2] (RU γ ad σ)) (QI γ ad σ' r) 0 0 (gA γ) := by
  refine Met.ofW (cc := cX7_set) (maxL := 5) (ret := (Option.some Jvm.ClassFile.FieldType.int)) (by decide +kernel) rfl ?_
  intro p e s m args below meth c s₁ B hml hv
  obtain ⟨rfl, hU⟩ := hv
  obtain ⟨hX, hR⟩ := cx_of (own := RX7) B hml rfl hU
  have hr := B.returns
  have hlocks := B.notSynchronized
  have hc0 : (0 : Nat) ≤ 0 := Nat.le_refl 0
  show W p l e (rmo 6 0 0) s m ([.ref (gS γ 8 0), .int a1, .int a2] : List Value).toArray below meth c s.heap [] 0 0 (MQ below (QI γ ad σ' r) ([.ref (gS γ 8 0), .int a1, .int a2] : List Value).toArray s 0 0 (gA γ)) (entryFrame m ([.ref (gS γ 8 0), .int a1, .int a2] : List Value).toArray 5)
  unfold f8_set at hw
  have J47 : ∀ (x1 : Int32) (x2 : Int32) (y1 : Int32) (σ : St) (cells slots : Nat), cells ≤ 0 → slots ≤ 0 → ∀ (H : Heap) (locs : List Loc) (ls : Array Slot), f8_set_j47 fu x1 x2 y1 σ = some (r, σ') → RS γ ad σ s H locs → lh ls 5 [(0, .ref (gS γ 8 0)), (1, .int x1), (2, .int x2)] → W p l e (rmo 6 0 0) s m ([.ref (gS γ 8 0), .int a1, .int a2] : List Value).toArray below meth c H locs cells slots (MQ below (QI γ ad σ' r) ([.ref (gS γ 8 0), .int a1, .int a2] : List Value).toArray s 0 0 (gA γ)) (F0 m 47 ls [.int y1, .ref (gS γ 8 0)]) := by
    intro x1 x2 y1 σ cells slots hc1 hc2 H locs ls hw hR hl
    unfold f8_set_j47 at hw
    refine rw_puti (x := y1) hX hR 8 0 0 800 (C := RX7) (T := TX7) (N := 48) rfl (by decide) rfl rfl (Nat.le_of_ble_eq_true rfl) rfl uw_X7 tyX7 tyX7_ok nmX7 gw_928 rfl rfl (by decide) dX7_set_47 (fun σ1 H locs e1 hR1 => ?_)
    replace hR := hR1
    clear hR1
    subst e1
    refine rw_aload_n hX hl 0 rfl (Or.inr ⟨_, rfl⟩) dX7_set_50 rfl ?_
    refine rw_get hX hR 8 0 0 (C := RX7) (T := TX7) (N := 48) rfl (by decide) (Nat.le_of_ble_eq_true rfl) rfl (v := .int (gi (zi σ 800 0 y1) 800 0)) rfl uw_X7 gw_928 rfl dX7_set_51 ?_
    refine lv_if_eq (x := (gi (zi σ 800 0 y1) 800 0)) (tgt := 59) hX.1.1 hX.1.2.1 dX7_set_54 (by decide) (fun c13 => ?_) (fun c13 => ?_)
    · replace hw := if_t hw c13
      refine rw_aload_n hX hl 0 rfl (Or.inr ⟨_, rfl⟩) dX7_set_59 rfl ?_
      refine rw_get hX hR 8 31 0 (C := RX7) (T := TX7) (N := 48) rfl (by decide) (Nat.le_of_ble_eq_true rfl) rfl (v := .ref (gS γ 1831 0)) rfl uw_X7 gw_959 rfl dX7_set_60 ?_
      refine rw_iload_n hX hl 1 rfl dX7_set_63 rfl ?_
      obtain ⟨h15, hw1⟩ := ar_some hw
      replace hw := hw1
      clear hw1
      obtain ⟨j14, ej14⟩ : ∃ j, (x1 : Int32).toNatClampNeg = j := ⟨_, rfl⟩
      rw [ej14] at hw
      refine rw_iald hX hR 831 (n := 40) (i := x1) (v := (gi (zi σ 800 0 y1) 831 j14)) rfl (by decide) rfl rfl h15 (by rw [ej14]) dX7_set_64 ?_
      refine rw_istore_n (lv' := [(3, .int (gi (zi σ 800 0 y1) 831 j14)), (0, .ref (gS γ 8 0)), (1, .int x1), (2, .int x2)]) hX hl (by decide) rfl dX7_set_65 rfl (fun ls hl1 => ?_)
      replace hl := hl1
      clear hl1
      refine rw_aload_n hX hl 1 rfl (Or.inr ⟨_, rfl⟩) dX7_set_66 rfl ?_
      refine rw_iload_n hX hl 0 rfl dX7_set_67 rfl ?_
      obtain ⟨σ17, g18, hw1⟩ := ob1_some hw
      replace hw := hw1
      clear hw1
      refine rw_cVv hX hR pk_f8_touch (mc := 0) (ms := 0) ⟨rfl, rfl, (show 3 + 1 ≤ 6 by omega), (show 8 + (2 + 11) + 64 * 3 ≤ 64 * 6 by omega)⟩ (As := [.int (gi (zi σ 800 0 y1) 831 j14)]) (rest := []) rfl (C_f8_touch l γ ad (gi (zi σ 800 0 y1) 831 j14) (zi σ 800 0 y1) σ17 g18) gw_1208 gw_1210 gs_73 (rs_recv hX hR 8 0 (C := RX7) (T := TX7) (N := 48) rfl (by decide) (Nat.le_of_ble_eq_true rfl) rfl) rfl hl.1 ca0 (Nat.le_of_ble_eq_true rfl) dX7_set_68 ⟨(show cells + 0 ≤ 0 by omega), (show slots + 0 ≤ 0 by omega)⟩ (fun H locs hR1 => ?_)
      replace hR := hR1
      clear hR1
      refine rw_aload_n hX hl 1 rfl (Or.inr ⟨_, rfl⟩) dX7_set_71 rfl ?_
      refine rw_get hX hR 8 15 0 (C := RX7) (T := TX7) (N := 48) rfl (by decide) (Nat.le_of_ble_eq_true rfl) rfl (v := .ref (gS γ 1815 0)) rfl uw_X7 gw_943 rfl dX7_set_72 ?_
      refine rw_iload_n hX hl 0 rfl dX7_set_75 rfl ?_
      obtain ⟨h20, hw1⟩ := ar_some hw
      replace hw := hw1
      clear hw1
      obtain ⟨j19, ej19⟩ : ∃ j, ((gi (zi σ 800 0 y1) 831 j14) : Int32).toNatClampNeg = j := ⟨_, rfl⟩
      rw [ej19] at hw
      refine rw_iald hX hR 815 (n := 24) (i := (gi (zi σ 800 0 y1) 831 j14)) (v := (gi σ17 815 j19)) rfl (by decide) rfl rfl h20 (by rw [ej19]) dX7_set_76 ?_
      refine rw_istore (lv' := [(4, .int (gi σ17 815 j19)), (3, .int (gi (zi σ 800 0 y1) 831 j14)), (0, .ref (gS γ 8 0)), (1, .int x1), (2, .int x2)]) hX hl (by decide) rfl dX7_set_77 (fun ls hl1 => ?_)
      replace hl := hl1
      clear hl1
      refine rw_aload_n hX hl 2 rfl (Or.inr ⟨_, rfl⟩) dX7_set_79 rfl ?_
      refine rw_get hX hR 8 15 0 (C := RX7) (T := TX7) (N := 48) rfl (by decide) (Nat.le_of_ble_eq_true rfl) rfl (v := .ref (gS γ 1815 0)) rfl uw_X7 gw_943 rfl dX7_set_80 ?_
      refine rw_iload_n hX hl 1 rfl dX7_set_83 rfl ?_
      refine rw_iload_n hX hl 4 rfl dX7_set_84 rfl ?_
      obtain ⟨h22, hw1⟩ := ar_some hw
      replace hw := hw1
      clear hw1
      obtain ⟨j21, ej21⟩ : ∃ j, ((gi (zi σ 800 0 y1) 831 j14) : Int32).toNatClampNeg = j := ⟨_, rfl⟩
      rw [ej21] at hw
      refine rw_iast hX hR 815 (n := 24) (i := (gi (zi σ 800 0 y1) 831 j14)) (x := x2) rfl (by decide) rfl rfl h22 dX7_set_85 (fun σ1 H locs e1 hR1 => ?_)
      replace hR := hR1
      clear hR1
      rw [ej21] at e1
      subst e1
      refine rw_aload_n hX hl 2 rfl (Or.inr ⟨_, rfl⟩) dX7_set_86 rfl ?_
      obtain ⟨σ24, g25, hw1⟩ := ob1_some hw
      replace hw := hw1
      clear hw1
      refine rw_cVv hX hR pk_f8_settle (mc := 0) (ms := 0) ⟨rfl, rfl, (show 5 + 1 ≤ 6 by omega), (show 8 + (3 + 11) + 64 * 5 ≤ 64 * 6 by omega)⟩ (As := []) (rest := []) rfl (C_f8_settle l γ ad (zi σ17 815 j21 x2) σ24 g25) gw_1093 gw_1095 gs_54 (rs_recv hX hR 8 0 (C := RX7) (T := TX7) (N := 48) rfl (by decide) (Nat.le_of_ble_eq_true rfl) rfl) rfl hl.1 ca0 (Nat.le_of_ble_eq_true rfl) dX7_set_87 ⟨(show (cells + 0) + 0 ≤ 0 by omega), (show (slots + 0) + 0 ≤ 0 by omega)⟩ (fun H locs hR1 => ?_)
      replace hR := hR1
      clear hR1
      refine rw_iload hX hl 0 rfl dX7_set_90 ?_
      refine W.widen (k := 0) (n := 0) (by omega) (by omega) ?_
      exact rq_ie hX hR hr hw dX7_set_92 hlocks
    · replace hw := if_f hw c13
      refine lv_iconst (v := 0) hX.1.1 hX.1.2.1 dX7_set_57 (by decide) ?_
      refine W.widen (k := 0) (n := 0) (by omega) (by omega) ?_
      exact rq_ie hX hR hr hw dX7_set_58 hlocks
  refine rw_entry (ca1 rfl (ca1 rfl (ca1 rfl ca0))) (Nat.le_of_ble_eq_true rfl) (fun ls hl1 => ?_)
  replace hl := hl1
  clear hl1
  refine rw_aload_n hX hl 0 rfl (Or.inr ⟨_, rfl⟩) dX7_set_0 rfl ?_
  refine rw_aload_n hX hl 0 rfl (Or.inr ⟨_, rfl⟩) dX7_set_1 rfl ?_
  refine rw_iload_n hX hl 1 rfl dX7_set_2 rfl ?_
  obtain ⟨v1, g3, hw1⟩ := ob1_some hw
  replace hw := hw1
  clear hw1
  refine rw_cVi hX hR pk_f8_isHandle (mc := 0) (ms := 0) ⟨rfl, rfl, (show 2 + 1 ≤ 6 by omega), (show 8 + (2 + 11) + 64 * 2 ≤ 64 * 6 by omega)⟩ (As := [.int a1]) (rest := [.ref (gS γ 8 0)]) rfl (C_f8_isHandle l γ ad a1 σ v1 g3) gw_1192 gw_1194 gs_70 (rs_recv hX hR 8 0 (C := RX7) (T := TX7) (N := 48) rfl (by decide) (Nat.le_of_ble_eq_true rfl) rfl) rfl hl.1 (ca1 rfl ca0) (Nat.le_of_ble_eq_true rfl) dX7_set_3 ⟨(show 0 + 0 ≤ 0 by omega), (show 0 + 0 ≤ 0 by omega)⟩ (fun H locs hR1 => ?_)
  replace hR := hR1
  clear hR1
  refine rw_ifneZ (b := v1) (tgt := 13) hX dX7_set_6 (by decide) (fun c4 => ?_) (fun c4 => ?_)
  · replace hw := if_t hw c4
    refine rw_iload_n hX hl 2 rfl dX7_set_13 rfl ?_
    refine lv_iconst (v := 0) hX.1.1 hX.1.2.1 dX7_set_14 (by decide) ?_
    refine lv_bipush (v := 99) hX.1.1 hX.1.2.1 dX7_set_15 (by decide) ?_
    obtain ⟨v5, g7, hw1⟩ := ob1_some hw
    replace hw := hw1
    clear hw1
    refine rw_cSi hX hR pk_f8_in (mc := 0) (ms := 0) ⟨rfl, rfl, (show 1 + 1 ≤ 6 by omega), (show 8 + (3 + 11) + 64 * 1 ≤ 64 * 6 by omega)⟩ (As := [.int a2, .int 0, .int 99]) (rest := [.ref (gS γ 8 0)]) rfl (C_f8_in l γ ad a2 0 99 σ v5 g7) gw_1082 gw_1083 rfl hl.1 (ca1 rfl ca0) (Nat.le_of_ble_eq_true rfl) dX7_set_17 ⟨(show (0 + 0) + 0 ≤ 0 by omega), (show (0 + 0) + 0 ≤ 0 by omega)⟩ (fun H locs hR1 => ?_)
    replace hR := hR1
    clear hR1
    refine rw_ifneZ (b := v5) (tgt := 27) hX dX7_set_20 (by decide) (fun c8 => ?_) (fun c8 => ?_)
    · replace hw := if_t hw c8
      refine rw_aload_n hX hl 0 rfl (Or.inr ⟨_, rfl⟩) dX7_set_27 rfl ?_
      refine rw_iload_n hX hl 1 rfl dX7_set_28 rfl ?_
      obtain ⟨v9, g11, hw1⟩ := ob1_some hw
      replace hw := hw1
      clear hw1
      refine rw_cVi hX hR pk_f8_isUsable (mc := 0) (ms := 0) ⟨rfl, rfl, (show 2 + 1 ≤ 6 by omega), (show 8 + (2 + 11) + 64 * 2 ≤ 64 * 6 by omega)⟩ (As := [.int a1]) (rest := [.ref (gS γ 8 0)]) rfl (C_f8_isUsable l γ ad a1 σ v9 g11) gw_1204 gw_1206 gs_72 (rs_recv hX hR 8 0 (C := RX7) (T := TX7) (N := 48) rfl (by decide) (Nat.le_of_ble_eq_true rfl) rfl) rfl hl.1 (ca1 rfl ca0) (Nat.le_of_ble_eq_true rfl) dX7_set_29 ⟨(show ((0 + 0) + 0) + 0 ≤ 0 by omega), (show ((0 + 0) + 0) + 0 ≤ 0 by omega)⟩ (fun H locs hR1 => ?_)
      replace hR := hR1
      clear hR1
      refine rw_ifeqZ (b := v9) (tgt := 42) hX dX7_set_32 (by decide) (fun c12 => ?_) (fun c12 => ?_)
      · replace hw := if_f hw c12
        refine lv_iconst (v := 3) hX.1.1 hX.1.2.1 dX7_set_42 (by decide) ?_
        refine lv_goto (tgt := 47) hX.1.1 hX.1.2.1 dX7_set_43 (by decide) ?_
        exact J47 a1 a2 3 σ _ _ (by omega) (by omega) _ _ _ hw hR (lh_sub hl [0, 1, 2] rfl)
      · replace hw := if_t hw c12
        refine rw_aload_n hX hl 0 rfl (Or.inr ⟨_, rfl⟩) dX7_set_35 rfl ?_
        refine rw_get hX hR 8 2 0 (C := RX7) (T := TX7) (N := 48) rfl (by decide) (Nat.le_of_ble_eq_true rfl) rfl (v := .int (b2i (gb σ 802 0))) rfl uw_X7 gw_930 rfl dX7_set_36 ?_
        refine rw_ifeqZ (b := (gb σ 802 0)) (tgt := 46) hX dX7_set_39 (by decide) (fun c26 => ?_) (fun c26 => ?_)
        · replace hw := if_f hw c26
          refine lv_iconst (v := 0) hX.1.1 hX.1.2.1 dX7_set_46 (by decide) ?_
          exact J47 a1 a2 0 σ _ _ (by omega) (by omega) _ _ _ hw hR (lh_sub hl [0, 1, 2] rfl)
        · replace hw := if_t hw c26
          refine lv_iconst (v := 3) hX.1.1 hX.1.2.1 dX7_set_42 (by decide) ?_
          refine lv_goto (tgt := 47) hX.1.1 hX.1.2.1 dX7_set_43 (by decide) ?_
          exact J47 a1 a2 3 σ _ _ (by omega) (by omega) _ _ _ hw hR (lh_sub hl [0, 1, 2] rfl)
    · replace hw := if_f hw c8
      refine lv_iconst (v := 2) hX.1.1 hX.1.2.1 dX7_set_23 (by decide) ?_
      refine lv_goto (tgt := 47) hX.1.1 hX.1.2.1 dX7_set_24 (by decide) ?_
      exact J47 a1 a2 2 σ _ _ (by omega) (by omega) _ _ _ hw hR (lh_sub hl [0, 1, 2] rfl)
  · replace hw := if_f hw c4
    refine lv_iconst (v := 1) hX.1.1 hX.1.2.1 dX7_set_9 (by decide) ?_
    refine lv_goto (tgt := 47) hX.1.1 hX.1.2.1 dX7_set_10 (by decide) ?_
    exact J47 a1 a2 1 σ _ _ (by omega) (by omega) _ _ _ hw hR (lh_sub hl [0, 1, 2] rfl)
set_option maxHeartbeats 8000000 in
set_option maxRecDepth 100000 in
theorem C_f8_get (l : Launch) (γ : GT) (ad : Nat → Nat → Nat) {fu : Nat} (a1 : Int32) (σ : St) (r : Int32) (σ' : St) (hw : f8_get fu a1 σ = some (r, σ')) : Met l yX7_get (Cond.code yX7_get cX7_get 2 (Option.some Jvm.ClassFile.FieldType.int) :: GW) (rmo 6 0 0) (va_Pc [.ref (gS γ 8 0), .int a1] (RU γ ad σ)) (QI γ ad σ' r) 0 0 (gA γ) := by
  refine Met.ofW (cc := cX7_get) (maxL := 2) (ret := (Option.some Jvm.ClassFile.FieldType.int)) (by decide +kernel) rfl ?_
  intro p e s m args below meth c s₁ B hml hv
  obtain ⟨rfl, hU⟩ := hv
  obtain ⟨hX, hR⟩ := cx_of (own := RX7) B hml rfl hU
  have hr := B.returns
  have hlocks := B.notSynchronized
  have hc0 : (0 : Nat) ≤ 0 := Nat.le_refl 0
  show W p l e (rmo 6 0 0) s m ([.ref (gS γ 8 0), .int a1] : List Value).toArray below meth c s.heap [] 0 0 (MQ below (QI γ ad σ' r) ([.ref (gS γ 8 0), .int a1] : List Value).toArray s 0 0 (gA γ)) (entryFrame m ([.ref (gS γ 8 0), .int a1] : List Value).toArray 2)
  unfold f8_get at hw
  have J33 : ∀ (x1 : Int32) (y1 : Int32) (σ : St) (cells slots : Nat), cells ≤ 0 → slots ≤ 0 → ∀ (H : Heap) (locs : List Loc) (ls : Array Slot), f8_get_j33 fu x1 y1 σ = some (r, σ') → RS γ ad σ s H locs → lh ls 2 [(0, .ref (gS γ 8 0)), (1, .int x1)] → W p l e (rmo 6 0 0) s m ([.ref (gS γ 8 0), .int a1] : List Value).toArray below meth c H locs cells slots (MQ below (QI γ ad σ' r) ([.ref (gS γ 8 0), .int a1] : List Value).toArray s 0 0 (gA γ)) (F0 m 33 ls [.int y1, .ref (gS γ 8 0)]) := by
    intro x1 y1 σ cells slots hc1 hc2 H locs ls hw hR hl
    unfold f8_get_j33 at hw
    refine rw_puti (x := y1) hX hR 8 0 0 800 (C := RX7) (T := TX7) (N := 48) rfl (by decide) rfl rfl (Nat.le_of_ble_eq_true rfl) rfl uw_X7 tyX7 tyX7_ok nmX7 gw_928 rfl rfl (by decide) dX7_get_33 (fun σ1 H locs e1 hR1 => ?_)
    replace hR := hR1
    clear hR1
    subst e1
    refine rw_aload_n hX hl 0 rfl (Or.inr ⟨_, rfl⟩) dX7_get_36 rfl ?_
    refine rw_get hX hR 8 0 0 (C := RX7) (T := TX7) (N := 48) rfl (by decide) (Nat.le_of_ble_eq_true rfl) rfl (v := .int (gi (zi σ 800 0 y1) 800 0)) rfl uw_X7 gw_928 rfl dX7_get_37 ?_
    refine lv_if_eq (x := (gi (zi σ 800 0 y1) 800 0)) (tgt := 45) hX.1.1 hX.1.2.1 dX7_get_40 (by decide) (fun c9 => ?_) (fun c9 => ?_)
    · replace hw := if_t hw c9
      refine rw_aload_n hX hl 0 rfl (Or.inr ⟨_, rfl⟩) dX7_get_45 rfl ?_
      refine rw_aload_n hX hl 0 rfl (Or.inr ⟨_, rfl⟩) dX7_get_46 rfl ?_
      refine rw_get hX hR 8 31 0 (C := RX7) (T := TX7) (N := 48) rfl (by decide) (Nat.le_of_ble_eq_true rfl) rfl (v := .ref (gS γ 1831 0)) rfl uw_X7 gw_959 rfl dX7_get_47 ?_
      refine rw_iload_n hX hl 1 rfl dX7_get_50 rfl ?_
      obtain ⟨h11, hw1⟩ := ar_some hw
      replace hw := hw1
      clear hw1
      obtain ⟨j10, ej10⟩ : ∃ j, (x1 : Int32).toNatClampNeg = j := ⟨_, rfl⟩
      rw [ej10] at hw
      refine rw_iald hX hR 831 (n := 40) (i := x1) (v := (gi (zi σ 800 0 y1) 831 j10)) rfl (by decide) rfl rfl h11 (by rw [ej10]) dX7_get_51 ?_
      obtain ⟨σ13, g14, hw1⟩ := ob1_some hw
      replace hw := hw1
      clear hw1
      refine rw_cVv hX hR pk_f8_touch (mc := 0) (ms := 0) ⟨rfl, rfl, (show 3 + 1 ≤ 6 by omega), (show 8 + (2 + 11) + 64 * 3 ≤ 64 * 6 by omega)⟩ (As := [.int (gi (zi σ 800 0 y1) 831 j10)]) (rest := []) rfl (C_f8_touch l γ ad (gi (zi σ 800 0 y1) 831 j10) (zi σ 800 0 y1) σ13 g14) gw_1208 gw_1210 gs_73 (rs_recv hX hR 8 0 (C := RX7) (T := TX7) (N := 48) rfl (by decide) (Nat.le_of_ble_eq_true rfl) rfl) rfl hl.1 ca0 (Nat.le_of_ble_eq_true rfl) dX7_get_52 ⟨(show cells + 0 ≤ 0 by omega), (show slots + 0 ≤ 0 by omega)⟩ (fun H locs hR1 => ?_)
      replace hR := hR1
      clear hR1
      refine rw_aload_n hX hl 0 rfl (Or.inr ⟨_, rfl⟩) dX7_get_55 rfl ?_
      obtain ⟨σ16, g17, hw1⟩ := ob1_some hw
      replace hw := hw1
      clear hw1
      refine rw_cVv hX hR pk_f8_settle (mc := 0) (ms := 0) ⟨rfl, rfl, (show 5 + 1 ≤ 6 by omega), (show 8 + (3 + 11) + 64 * 5 ≤ 64 * 6 by omega)⟩ (As := []) (rest := []) rfl (C_f8_settle l γ ad σ13 σ16 g17) gw_1093 gw_1095 gs_54 (rs_recv hX hR 8 0 (C := RX7) (T := TX7) (N := 48) rfl (by decide) (Nat.le_of_ble_eq_true rfl) rfl) rfl hl.1 ca0 (Nat.le_of_ble_eq_true rfl) dX7_get_56 ⟨(show (cells + 0) + 0 ≤ 0 by omega), (show (slots + 0) + 0 ≤ 0 by omega)⟩ (fun H locs hR1 => ?_)
      replace hR := hR1
      clear hR1
      refine rw_aload_n hX hl 0 rfl (Or.inr ⟨_, rfl⟩) dX7_get_59 rfl ?_
      refine rw_get hX hR 8 15 0 (C := RX7) (T := TX7) (N := 48) rfl (by decide) (Nat.le_of_ble_eq_true rfl) rfl (v := .ref (gS γ 1815 0)) rfl uw_X7 gw_943 rfl dX7_get_60 ?_
      refine rw_aload_n hX hl 0 rfl (Or.inr ⟨_, rfl⟩) dX7_get_63 rfl ?_
      refine rw_get hX hR 8 31 0 (C := RX7) (T := TX7) (N := 48) rfl (by decide) (Nat.le_of_ble_eq_true rfl) rfl (v := .ref (gS γ 1831 0)) rfl uw_X7 gw_959 rfl dX7_get_64 ?_
      refine rw_iload_n hX hl 1 rfl dX7_get_67 rfl ?_
      obtain ⟨h19, hw1⟩ := ar_some hw
      replace hw := hw1
      clear hw1
      obtain ⟨j18, ej18⟩ : ∃ j, (x1 : Int32).toNatClampNeg = j := ⟨_, rfl⟩
      rw [ej18] at hw
      refine rw_iald hX hR 831 (n := 40) (i := x1) (v := (gi σ16 831 j18)) rfl (by decide) rfl rfl h19 (by rw [ej18]) dX7_get_68 ?_
      obtain ⟨h21, hw1⟩ := ar_some hw
      replace hw := hw1
      clear hw1
      obtain ⟨j20, ej20⟩ : ∃ j, ((gi σ16 831 j18) : Int32).toNatClampNeg = j := ⟨_, rfl⟩
      rw [ej20] at hw
      refine rw_iald hX hR 815 (n := 24) (i := (gi σ16 831 j18)) (v := (gi σ16 815 j20)) rfl (by decide) rfl rfl h21 (by rw [ej20]) dX7_get_69 ?_
      refine W.widen (k := 0) (n := 0) (by omega) (by omega) ?_
      exact rq_ie hX hR hr hw dX7_get_70 hlocks
    · replace hw := if_f hw c9
      refine lv_iconst (v := 0) hX.1.1 hX.1.2.1 dX7_get_43 (by decide) ?_
      refine W.widen (k := 0) (n := 0) (by omega) (by omega) ?_
      exact rq_ie hX hR hr hw dX7_get_44 hlocks
  refine rw_entry (ca1 rfl (ca1 rfl ca0)) (Nat.le_of_ble_eq_true rfl) (fun ls hl1 => ?_)
  replace hl := hl1
  clear hl1
  refine rw_aload_n hX hl 0 rfl (Or.inr ⟨_, rfl⟩) dX7_get_0 rfl ?_
  refine rw_aload_n hX hl 0 rfl (Or.inr ⟨_, rfl⟩) dX7_get_1 rfl ?_
  refine rw_iload_n hX hl 1 rfl dX7_get_2 rfl ?_
  obtain ⟨v1, g3, hw1⟩ := ob1_some hw
  replace hw := hw1
  clear hw1
  refine rw_cVi hX hR pk_f8_isHandle (mc := 0) (ms := 0) ⟨rfl, rfl, (show 2 + 1 ≤ 6 by omega), (show 8 + (2 + 11) + 64 * 2 ≤ 64 * 6 by omega)⟩ (As := [.int a1]) (rest := [.ref (gS γ 8 0)]) rfl (C_f8_isHandle l γ ad a1 σ v1 g3) gw_1192 gw_1194 gs_70 (rs_recv hX hR 8 0 (C := RX7) (T := TX7) (N := 48) rfl (by decide) (Nat.le_of_ble_eq_true rfl) rfl) rfl hl.1 (ca1 rfl ca0) (Nat.le_of_ble_eq_true rfl) dX7_get_3 ⟨(show 0 + 0 ≤ 0 by omega), (show 0 + 0 ≤ 0 by omega)⟩ (fun H locs hR1 => ?_)
  replace hR := hR1
  clear hR1
  refine rw_ifneZ (b := v1) (tgt := 13) hX dX7_get_6 (by decide) (fun c4 => ?_) (fun c4 => ?_)
  · replace hw := if_t hw c4
    refine rw_aload_n hX hl 0 rfl (Or.inr ⟨_, rfl⟩) dX7_get_13 rfl ?_
    refine rw_iload_n hX hl 1 rfl dX7_get_14 rfl ?_
    obtain ⟨v5, g7, hw1⟩ := ob1_some hw
    replace hw := hw1
    clear hw1
    refine rw_cVi hX hR pk_f8_isUsable (mc := 0) (ms := 0) ⟨rfl, rfl, (show 2 + 1 ≤ 6 by omega), (show 8 + (2 + 11) + 64 * 2 ≤ 64 * 6 by omega)⟩ (As := [.int a1]) (rest := [.ref (gS γ 8 0)]) rfl (C_f8_isUsable l γ ad a1 σ v5 g7) gw_1204 gw_1206 gs_72 (rs_recv hX hR 8 0 (C := RX7) (T := TX7) (N := 48) rfl (by decide) (Nat.le_of_ble_eq_true rfl) rfl) rfl hl.1 (ca1 rfl ca0) (Nat.le_of_ble_eq_true rfl) dX7_get_15 ⟨(show (0 + 0) + 0 ≤ 0 by omega), (show (0 + 0) + 0 ≤ 0 by omega)⟩ (fun H locs hR1 => ?_)
    replace hR := hR1
    clear hR1
    refine rw_ifeqZ (b := v5) (tgt := 28) hX dX7_get_18 (by decide) (fun c8 => ?_) (fun c8 => ?_)
    · replace hw := if_f hw c8
      refine lv_iconst (v := 2) hX.1.1 hX.1.2.1 dX7_get_28 (by decide) ?_
      refine lv_goto (tgt := 33) hX.1.1 hX.1.2.1 dX7_get_29 (by decide) ?_
      exact J33 a1 2 σ _ _ (by omega) (by omega) _ _ _ hw hR (lh_sub hl [0, 1] rfl)
    · replace hw := if_t hw c8
      refine rw_aload_n hX hl 0 rfl (Or.inr ⟨_, rfl⟩) dX7_get_21 rfl ?_
      refine rw_get hX hR 8 2 0 (C := RX7) (T := TX7) (N := 48) rfl (by decide) (Nat.le_of_ble_eq_true rfl) rfl (v := .int (b2i (gb σ 802 0))) rfl uw_X7 gw_930 rfl dX7_get_22 ?_
      refine rw_ifeqZ (b := (gb σ 802 0)) (tgt := 32) hX dX7_get_25 (by decide) (fun c22 => ?_) (fun c22 => ?_)
      · replace hw := if_f hw c22
        refine lv_iconst (v := 0) hX.1.1 hX.1.2.1 dX7_get_32 (by decide) ?_
        exact J33 a1 0 σ _ _ (by omega) (by omega) _ _ _ hw hR (lh_sub hl [0, 1] rfl)
      · replace hw := if_t hw c22
        refine lv_iconst (v := 2) hX.1.1 hX.1.2.1 dX7_get_28 (by decide) ?_
        refine lv_goto (tgt := 33) hX.1.1 hX.1.2.1 dX7_get_29 (by decide) ?_
        exact J33 a1 2 σ _ _ (by omega) (by omega) _ _ _ hw hR (lh_sub hl [0, 1] rfl)
  · replace hw := if_f hw c4
    refine lv_iconst (v := 1) hX.1.1 hX.1.2.1 dX7_get_9 (by decide) ?_
    refine lv_goto (tgt := 33) hX.1.1 hX.1.2.1 dX7_get_10 (by decide) ?_
    exact J33 a1 1 σ _ _ (by omega) (by omega) _ _ _ hw hR (lh_sub hl [0, 1] rfl)
set_option maxHeartbeats 8000000 in
set_option maxRecDepth 100000 in
theorem C_f8_map (l : Launch) (γ : GT) (ad : Nat → Nat → Nat) {fu : Nat} (a1 : Int32) (a2 : Int32) (σ : St) (r : Int32) (σ' : St) (hw : f8_map fu a1 a2 σ = some (r, σ')) : Met l yX7_map (Cond.code yX7_map cX7_map 4 (Option.some Jvm.ClassFile.FieldType.int) :: GW) (rmo 6 0 0) (va_Pc [.ref (gS γ 8 0), .int a1, .int a2] (RU γ ad σ)) (QI γ ad σ' r) 0 0 (gA γ) := by
  refine Met.ofW (cc := cX7_map) (maxL := 4) (ret := (Option.some Jvm.ClassFile.FieldType.int)) (by decide +kernel) rfl ?_
  intro p e s m args below meth c s₁ B hml hv
  obtain ⟨rfl, hU⟩ := hv
  obtain ⟨hX, hR⟩ := cx_of (own := RX7) B hml rfl hU
  have hr := B.returns
  have hlocks := B.notSynchronized
  have hc0 : (0 : Nat) ≤ 0 := Nat.le_refl 0
  show W p l e (rmo 6 0 0) s m ([.ref (gS γ 8 0), .int a1, .int a2] : List Value).toArray below meth c s.heap [] 0 0 (MQ below (QI γ ad σ' r) ([.ref (gS γ 8 0), .int a1, .int a2] : List Value).toArray s 0 0 (gA γ)) (entryFrame m ([.ref (gS γ 8 0), .int a1, .int a2] : List Value).toArray 4)
  unfold f8_map at hw
  have J77 : ∀ (x1 : Int32) (x2 : Int32) (x3 : Int32) (y1 : Int32) (σ : St) (cells slots : Nat), cells ≤ 0 → slots ≤ 0 → ∀ (H : Heap) (locs : List Loc) (ls : Array Slot), f8_map_j77 fu x1 x2 x3 y1 σ = some (r, σ') → RS γ ad σ s H locs → lh ls 4 [(0, .ref (gS γ 8 0)), (1, .int x1), (2, .int x2), (3, .int x3)] → W p l e (rmo 6 0 0) s m ([.ref (gS γ 8 0), .int a1, .int a2] : List Value).toArray below meth c H locs cells slots (MQ below (QI γ ad σ' r) ([.ref (gS γ 8 0), .int a1, .int a2] : List Value).toArray s 0 0 (gA γ)) (F0 m 77 ls [.int y1, .ref (gS γ 8 0)]) := by
    intro x1 x2 x3 y1 σ cells slots hc1 hc2 H locs ls hw hR hl
    unfold f8_map_j77 at hw
    refine rw_puti (x := y1) hX hR 8 0 0 800 (C := RX7) (T := TX7) (N := 48) rfl (by decide) rfl rfl (Nat.le_of_ble_eq_true rfl) rfl uw_X7 tyX7 tyX7_ok nmX7 gw_928 rfl rfl (by decide) dX7_map_77 (fun σ1 H locs e1 hR1 => ?_)
    replace hR := hR1
    clear hR1
    subst e1
    refine rw_aload_n hX hl 0 rfl (Or.inr ⟨_, rfl⟩) dX7_map_80 rfl ?_
    refine rw_get hX hR 8 0 0 (C := RX7) (T := TX7) (N := 48) rfl (by decide) (Nat.le_of_ble_eq_true rfl) rfl (v := .int (gi (zi σ 800 0 y1) 800 0)) rfl uw_X7 gw_928 rfl dX7_map_81 ?_
    refine lv_if_eq (x := (gi (zi σ 800 0 y1) 800 0)) (tgt := 89) hX.1.1 hX.1.2.1 dX7_map_84 (by decide) (fun c14 => ?_) (fun c14 => ?_)
    · replace hw := if_t hw c14
      refine rw_aload_n hX hl 0 rfl (Or.inr ⟨_, rfl⟩) dX7_map_89 rfl ?_
      refine rw_get hX hR 8 39 0 (C := RX7) (T := TX7) (N := 48) rfl (by decide) (Nat.le_of_ble_eq_true rfl) rfl (v := .ref (gS γ 1839 0)) rfl uw_X7 gw_967 rfl dX7_map_90 ?_
      refine rw_iload_n hX hl 3 rfl dX7_map_93 rfl ?_
      refine rw_aload_n hX hl 0 rfl (Or.inr ⟨_, rfl⟩) dX7_map_94 rfl ?_
      refine rw_get hX hR 8 31 0 (C := RX7) (T := TX7) (N := 48) rfl (by decide) (Nat.le_of_ble_eq_true rfl) rfl (v := .ref (gS γ 1831 0)) rfl uw_X7 gw_959 rfl dX7_map_95 ?_
      refine rw_iload_n hX hl 1 rfl dX7_map_98 rfl ?_
      obtain ⟨h16, hw1⟩ := ar_some hw
      replace hw := hw1
      clear hw1
      obtain ⟨j15, ej15⟩ : ∃ j, (x1 : Int32).toNatClampNeg = j := ⟨_, rfl⟩
      rw [ej15] at hw
      refine rw_iald hX hR 831 (n := 40) (i := x1) (v := (gi (zi σ 800 0 y1) 831 j15)) rfl (by decide) rfl rfl h16 (by rw [ej15]) dX7_map_99 ?_
      obtain ⟨h18, hw1⟩ := ar_some hw
      replace hw := hw1
      clear hw1
      obtain ⟨j17, ej17⟩ : ∃ j, (x3 : Int32).toNatClampNeg = j := ⟨_, rfl⟩
      rw [ej17] at hw
      refine rw_iast hX hR 839 (n := 16) (i := x3) (x := (gi (zi σ 800 0 y1) 831 j15)) rfl (by decide) rfl rfl h18 dX7_map_100 (fun σ1 H locs e1 hR1 => ?_)
      replace hR := hR1
      clear hR1
      rw [ej17] at e1
      subst e1
      refine rw_aload_n hX hl 0 rfl (Or.inr ⟨_, rfl⟩) dX7_map_101 rfl ?_
      refine rw_get hX hR 8 40 0 (C := RX7) (T := TX7) (N := 48) rfl (by decide) (Nat.le_of_ble_eq_true rfl) rfl (v := .ref (gS γ 1840 0)) rfl uw_X7 gw_968 rfl dX7_map_102 ?_
      refine rw_iload_n hX hl 3 rfl dX7_map_105 rfl ?_
      refine rw_iload_n hX hl 2 rfl dX7_map_106 rfl ?_
      obtain ⟨h20, hw1⟩ := ar_some hw
      replace hw := hw1
      clear hw1
      obtain ⟨j19, ej19⟩ : ∃ j, (x3 : Int32).toNatClampNeg = j := ⟨_, rfl⟩
      rw [ej19] at hw
      refine rw_iast hX hR 840 (n := 16) (i := x3) (x := x2) rfl (by decide) rfl rfl h20 dX7_map_107 (fun σ1 H locs e1 hR1 => ?_)
      replace hR := hR1
      clear hR1
      rw [ej19] at e1
      subst e1
      refine rw_aload_n hX hl 0 rfl (Or.inr ⟨_, rfl⟩) dX7_map_108 rfl ?_
      obtain ⟨σ22, g23, hw1⟩ := ob1_some hw
      replace hw := hw1
      clear hw1
      refine rw_cVv hX hR pk_f8_settle (mc := 0) (ms := 0) ⟨rfl, rfl, (show 5 + 1 ≤ 6 by omega), (show 8 + (3 + 11) + 64 * 5 ≤ 64 * 6 by omega)⟩ (As := []) (rest := []) rfl (C_f8_settle l γ ad (zi (zi (zi σ 800 0 y1) 839 j17 (gi (zi σ 800 0 y1) 831 j15)) 840 j19 x2) σ22 g23) gw_1093 gw_1095 gs_54 (rs_recv hX hR 8 0 (C := RX7) (T := TX7) (N := 48) rfl (by decide) (Nat.le_of_ble_eq_true rfl) rfl) rfl hl.1 ca0 (Nat.le_of_ble_eq_true rfl) dX7_map_109 ⟨(show cells + 0 ≤ 0 by omega), (show slots + 0 ≤ 0 by omega)⟩ (fun H locs hR1 => ?_)
      replace hR := hR1
      clear hR1
      refine rw_iload_n hX hl 3 rfl dX7_map_112 rfl ?_
      refine W.widen (k := 0) (n := 0) (by omega) (by omega) ?_
      exact rq_ie hX hR hr hw dX7_map_113 hlocks
    · replace hw := if_f hw c14
      refine lv_iconst (v := 0) hX.1.1 hX.1.2.1 dX7_map_87 (by decide) ?_
      refine W.widen (k := 0) (n := 0) (by omega) (by omega) ?_
      exact rq_ie hX hR hr hw dX7_map_88 hlocks
  have J24 : ∀ (x1 : Int32) (x2 : Int32) (x3 : Int32) (σ : St) (cells slots : Nat), cells ≤ 0 → slots ≤ 0 → ∀ (H : Heap) (locs : List Loc) (ls : Array Slot), f8_map_j24 fu x1 x2 x3 σ = some (r, σ') → RS γ ad σ s H locs → lh ls 4 [(0, .ref (gS γ 8 0)), (1, .int x1), (2, .int x2), (3, .int x3)] → W p l e (rmo 6 0 0) s m ([.ref (gS γ 8 0), .int a1, .int a2] : List Value).toArray below meth c H locs cells slots (MQ below (QI γ ad σ' r) ([.ref (gS γ 8 0), .int a1, .int a2] : List Value).toArray s 0 0 (gA γ)) (F0 m 24 ls []) := by
    intro x1 x2 x3 σ cells slots hc1 hc2 H locs ls hw hR hl
    unfold f8_map_j24 at hw
    refine rw_aload_n hX hl 0 rfl (Or.inr ⟨_, rfl⟩) dX7_map_24 rfl ?_
    refine rw_aload_n hX hl 0 rfl (Or.inr ⟨_, rfl⟩) dX7_map_25 rfl ?_
    refine rw_iload_n hX hl 1 rfl dX7_map_26 rfl ?_
    obtain ⟨v2, g4, hw1⟩ := ob1_some hw
    replace hw := hw1
    clear hw1
    refine rw_cVi hX hR pk_f8_isHandle (mc := 0) (ms := 0) ⟨rfl, rfl, (show 2 + 1 ≤ 6 by omega), (show 8 + (2 + 11) + 64 * 2 ≤ 64 * 6 by omega)⟩ (As := [.int x1]) (rest := [.ref (gS γ 8 0)]) rfl (C_f8_isHandle l γ ad x1 σ v2 g4) gw_1192 gw_1194 gs_70 (rs_recv hX hR 8 0 (C := RX7) (T := TX7) (N := 48) rfl (by decide) (Nat.le_of_ble_eq_true rfl) rfl) rfl hl.1 (ca1 rfl ca0) (Nat.le_of_ble_eq_true rfl) dX7_map_27 ⟨(show cells + 0 ≤ 0 by omega), (show slots + 0 ≤ 0 by omega)⟩ (fun H locs hR1 => ?_)
    replace hR := hR1
    clear hR1
    refine rw_ifneZ (b := v2) (tgt := 37) hX dX7_map_30 (by decide) (fun c5 => ?_) (fun c5 => ?_)
    · replace hw := if_t hw c5
      refine rw_iload_n hX hl 2 rfl dX7_map_37 rfl ?_
      refine lv_iconst (v := 0) hX.1.1 hX.1.2.1 dX7_map_38 (by decide) ?_
      refine lv_bipush (v := 31) hX.1.1 hX.1.2.1 dX7_map_39 (by decide) ?_
      obtain ⟨v6, g8, hw1⟩ := ob1_some hw
      replace hw := hw1
      clear hw1
      refine rw_cSi hX hR pk_f8_in (mc := 0) (ms := 0) ⟨rfl, rfl, (show 1 + 1 ≤ 6 by omega), (show 8 + (3 + 11) + 64 * 1 ≤ 64 * 6 by omega)⟩ (As := [.int x2, .int 0, .int 31]) (rest := [.ref (gS γ 8 0)]) rfl (C_f8_in l γ ad x2 0 31 σ v6 g8) gw_1082 gw_1083 rfl hl.1 (ca1 rfl ca0) (Nat.le_of_ble_eq_true rfl) dX7_map_41 ⟨(show (cells + 0) + 0 ≤ 0 by omega), (show (slots + 0) + 0 ≤ 0 by omega)⟩ (fun H locs hR1 => ?_)
      replace hR := hR1
      clear hR1
      refine rw_ifneZ (b := v6) (tgt := 51) hX dX7_map_44 (by decide) (fun c9 => ?_) (fun c9 => ?_)
      · replace hw := if_t hw c9
        refine rw_aload_n hX hl 0 rfl (Or.inr ⟨_, rfl⟩) dX7_map_51 rfl ?_
        refine rw_iload_n hX hl 1 rfl dX7_map_52 rfl ?_
        obtain ⟨v10, g12, hw1⟩ := ob1_some hw
        replace hw := hw1
        clear hw1
        refine rw_cVi hX hR pk_f8_isUsable (mc := 0) (ms := 0) ⟨rfl, rfl, (show 2 + 1 ≤ 6 by omega), (show 8 + (2 + 11) + 64 * 2 ≤ 64 * 6 by omega)⟩ (As := [.int x1]) (rest := [.ref (gS γ 8 0)]) rfl (C_f8_isUsable l γ ad x1 σ v10 g12) gw_1204 gw_1206 gs_72 (rs_recv hX hR 8 0 (C := RX7) (T := TX7) (N := 48) rfl (by decide) (Nat.le_of_ble_eq_true rfl) rfl) rfl hl.1 (ca1 rfl ca0) (Nat.le_of_ble_eq_true rfl) dX7_map_53 ⟨(show ((cells + 0) + 0) + 0 ≤ 0 by omega), (show ((slots + 0) + 0) + 0 ≤ 0 by omega)⟩ (fun H locs hR1 => ?_)
        replace hR := hR1
        clear hR1
        refine rw_ifeqZ (b := v10) (tgt := 72) hX dX7_map_56 (by decide) (fun c13 => ?_) (fun c13 => ?_)
        · replace hw := if_f hw c13
          refine lv_iconst (v := 3) hX.1.1 hX.1.2.1 dX7_map_72 (by decide) ?_
          refine lv_goto (tgt := 77) hX.1.1 hX.1.2.1 dX7_map_73 (by decide) ?_
          exact J77 x1 x2 x3 3 σ _ _ (by omega) (by omega) _ _ _ hw hR (lh_sub hl [0, 1, 2, 3] rfl)
        · replace hw := if_t hw c13
          refine rw_aload_n hX hl 0 rfl (Or.inr ⟨_, rfl⟩) dX7_map_59 rfl ?_
          refine rw_get hX hR 8 2 0 (C := RX7) (T := TX7) (N := 48) rfl (by decide) (Nat.le_of_ble_eq_true rfl) rfl (v := .int (b2i (gb σ 802 0))) rfl uw_X7 gw_930 rfl dX7_map_60 ?_
          refine rw_ifneZ (b := (gb σ 802 0)) (tgt := 72) hX dX7_map_63 (by decide) (fun c24 => ?_) (fun c24 => ?_)
          · replace hw := if_t hw c24
            refine lv_iconst (v := 3) hX.1.1 hX.1.2.1 dX7_map_72 (by decide) ?_
            refine lv_goto (tgt := 77) hX.1.1 hX.1.2.1 dX7_map_73 (by decide) ?_
            exact J77 x1 x2 x3 3 σ _ _ (by omega) (by omega) _ _ _ hw hR (lh_sub hl [0, 1, 2, 3] rfl)
          · replace hw := if_f hw c24
            refine rw_iload_n hX hl 3 rfl dX7_map_66 rfl ?_
            refine lv_bipush (v := 16) hX.1.1 hX.1.2.1 dX7_map_67 (by decide) ?_
            refine lv_icmp_ne (x := x3) (y := 16) (tgt := 76) hX.1.1 hX.1.2.1 dX7_map_69 (by decide) (fun c25 => ?_) (fun c25 => ?_)
            · replace hw := if_f hw c25
              refine lv_iconst (v := 0) hX.1.1 hX.1.2.1 dX7_map_76 (by decide) ?_
              exact J77 x1 x2 x3 0 σ _ _ (by omega) (by omega) _ _ _ hw hR (lh_sub hl [0, 1, 2, 3] rfl)
            · replace hw := if_t hw c25
              refine lv_iconst (v := 3) hX.1.1 hX.1.2.1 dX7_map_72 (by decide) ?_
              refine lv_goto (tgt := 77) hX.1.1 hX.1.2.1 dX7_map_73 (by decide) ?_
              exact J77 x1 x2 x3 3 σ _ _ (by omega) (by omega) _ _ _ hw hR (lh_sub hl [0, 1, 2, 3] rfl)
      · replace hw := if_f hw c9
        refine lv_iconst (v := 2) hX.1.1 hX.1.2.1 dX7_map_47 (by decide) ?_
        refine lv_goto (tgt := 77) hX.1.1 hX.1.2.1 dX7_map_48 (by decide) ?_
        exact J77 x1 x2 x3 2 σ _ _ (by omega) (by omega) _ _ _ hw hR (lh_sub hl [0, 1, 2, 3] rfl)
    · replace hw := if_f hw c5
      refine lv_iconst (v := 1) hX.1.1 hX.1.2.1 dX7_map_33 (by decide) ?_
      refine lv_goto (tgt := 77) hX.1.1 hX.1.2.1 dX7_map_34 (by decide) ?_
      exact J77 x1 x2 x3 1 σ _ _ (by omega) (by omega) _ _ _ hw hR (lh_sub hl [0, 1, 2, 3] rfl)
  have L2 : ∀ (x1 : Int32) (x2 : Int32) (σ : St) (n : Nat) (s9 : Int32) (cells slots : Nat), cells ≤ 0 → slots ≤ 0 → ∀ (H : Heap) (locs : List Loc) (ls : Array Slot), lp (fun s8 => f8_map_b2 fu x1 x2 s8 σ) n s9 = some (r, σ') → RS γ ad σ s H locs → lh ls 4 [(0, .ref (gS γ 8 0)), (1, .int x1), (2, .int x2), (3, .int s9)] → W p l e (rmo 6 0 0) s m ([.ref (gS γ 8 0), .int a1, .int a2] : List Value).toArray below meth c H locs cells slots (MQ below (QI γ ad σ' r) ([.ref (gS γ 8 0), .int a1, .int a2] : List Value).toArray s 0 0 (gA γ)) (F0 m 2 ls []) := by
    intro x1 x2 σ n2
    induction n2 with
    | zero => intro s9 cells slots hc1 hc2 H locs ls hw hR hl; exact (lp_zero hw).elim
    | succ n2 ih2 =>
      intro x3 cells slots hc1 hc2 H locs ls hw hR hl
      obtain ⟨o2, hw1, hb2, ho2⟩ := lp_succ hw
      replace hw := hw1
      clear hw1
      replace hw : f8_map_b2 fu x1 x2 x3 σ = some o2 := hw
      replace hl : lh ls 4 [(0, .ref (gS γ 8 0)), (1, .int x1), (2, .int x2), (3, .int x3)] := hl
      unfold f8_map_b2 at hw
      refine rw_iload_n hX hl 3 rfl dX7_map_2 rfl ?_
      refine lv_bipush (v := 16) hX.1.1 hX.1.2.1 dX7_map_3 (by decide) ?_
      refine lv_icmp_ge (x := x3) (y := 16) (tgt := 24) hX.1.1 hX.1.2.1 dX7_map_5 (by decide) (fun c1 => ?_) (fun c1 => ?_)
      · replace hw := if_t hw c1
        replace hw := lp_out hw ho2
        exact J24 x1 x2 x3 σ _ _ (by omega) (by omega) _ _ _ hw hR (lh_sub hl [0, 1, 2, 3] rfl)
      · replace hw := if_f hw c1
        refine rw_aload_n hX hl 0 rfl (Or.inr ⟨_, rfl⟩) dX7_map_8 rfl ?_
        refine rw_get hX hR 8 39 0 (C := RX7) (T := TX7) (N := 48) rfl (by decide) (Nat.le_of_ble_eq_true rfl) rfl (v := .ref (gS γ 1839 0)) rfl uw_X7 gw_967 rfl dX7_map_9 ?_
        refine rw_iload_n hX hl 3 rfl dX7_map_12 rfl ?_
        obtain ⟨h27, hw1⟩ := ar_some hw
        replace hw := hw1
        clear hw1
        obtain ⟨j26, ej26⟩ : ∃ j, (x3 : Int32).toNatClampNeg = j := ⟨_, rfl⟩
        rw [ej26] at hw
        refine rw_iald hX hR 839 (n := 16) (i := x3) (v := (gi σ 839 j26)) rfl (by decide) rfl rfl h27 (by rw [ej26]) dX7_map_13 ?_
        refine lv_iconst (v := (-1)) hX.1.1 hX.1.2.1 dX7_map_14 (by decide) ?_
        refine lv_icmp_eq (x := (gi σ 839 j26)) (y := (-1)) (tgt := 24) hX.1.1 hX.1.2.1 dX7_map_15 (by decide) (fun c28 => ?_) (fun c28 => ?_)
        · replace hw := if_t hw c28
          replace hw := lp_out hw ho2
          exact J24 x1 x2 x3 σ _ _ (by omega) (by omega) _ _ _ hw hR (lh_sub hl [0, 1, 2, 3] rfl)
        · replace hw := if_f hw c28
          refine rw_iinc (k := 3) (v := (x3 + 1)) (lv' := [(3, .int (x3 + 1)), (0, .ref (gS γ 8 0)), (1, .int x1), (2, .int x2)]) hX hl rfl (congrArg (fun q => x3 + q) (show Int32.ofInt 1 = 1 by decide)) (by decide) rfl dX7_map_18 (fun ls hl1 => ?_)
          replace hl := hl1
          clear hl1
          refine lv_goto (tgt := 2) hX.1.1 hX.1.2.1 dX7_map_21 (by decide) ?_
          exact ih2 _ _ _ (by omega) (by omega) _ _ _ (lp_back hw hb2) hR (lh_sub hl [1, 2, 3, 0] rfl)
  refine rw_entry (ca1 rfl (ca1 rfl (ca1 rfl ca0))) (Nat.le_of_ble_eq_true rfl) (fun ls hl1 => ?_)
  replace hl := hl1
  clear hl1
  refine lv_iconst (v := 0) hX.1.1 hX.1.2.1 dX7_map_0 (by decide) ?_
  refine rw_istore_n (lv' := [(3, .int 0), (0, .ref (gS γ 8 0)), (1, .int a1), (2, .int a2)]) hX hl (by decide) rfl dX7_map_1 rfl (fun ls hl1 => ?_)
  replace hl := hl1
  clear hl1
  exact L2 a1 a2 σ _ _ _ _ (by omega) (by omega) _ _ _ hw hR (lh_sub hl [1, 2, 3, 0] rfl)
set_option maxHeartbeats 8000000 in
set_option maxRecDepth 100000 in
theorem C_f8_unmap (l : Launch) (γ : GT) (ad : Nat → Nat → Nat) {fu : Nat} (a1 : Int32) (a2 : Int32) (σ : St) (r : Int32) (σ' : St) (hw : f8_unmap fu a1 a2 σ = some (r, σ')) : Met l yX7_unmap (Cond.code yX7_unmap cX7_unmap 3 (Option.some Jvm.ClassFile.FieldType.int) :: GW) (rmo 6 0 0) (va_Pc [.ref (gS γ 8 0), .int a1, .int a2] (RU γ ad σ)) (QI γ ad σ' r) 0 0 (gA γ) := by
  refine Met.ofW (cc := cX7_unmap) (maxL := 3) (ret := (Option.some Jvm.ClassFile.FieldType.int)) (by decide +kernel) rfl ?_
  intro p e s m args below meth c s₁ B hml hv
  obtain ⟨rfl, hU⟩ := hv
  obtain ⟨hX, hR⟩ := cx_of (own := RX7) B hml rfl hU
  have hr := B.returns
  have hlocks := B.notSynchronized
  have hc0 : (0 : Nat) ≤ 0 := Nat.le_refl 0
  show W p l e (rmo 6 0 0) s m ([.ref (gS γ 8 0), .int a1, .int a2] : List Value).toArray below meth c s.heap [] 0 0 (MQ below (QI γ ad σ' r) ([.ref (gS γ 8 0), .int a1, .int a2] : List Value).toArray s 0 0 (gA γ)) (entryFrame m ([.ref (gS γ 8 0), .int a1, .int a2] : List Value).toArray 3)
  unfold f8_unmap at hw
  have J51 : ∀ (x2 : Int32) (y1 : Int32) (σ : St) (cells slots : Nat), cells ≤ 0 → slots ≤ 0 → ∀ (H : Heap) (locs : List Loc) (ls : Array Slot), f8_unmap_j51 fu x2 y1 σ = some (r, σ') → RS γ ad σ s H locs → lh ls 3 [(0, .ref (gS γ 8 0)), (2, .int x2)] → W p l e (rmo 6 0 0) s m ([.ref (gS γ 8 0), .int a1, .int a2] : List Value).toArray below meth c H locs cells slots (MQ below (QI γ ad σ' r) ([.ref (gS γ 8 0), .int a1, .int a2] : List Value).toArray s 0 0 (gA γ)) (F0 m 51 ls [.int y1, .ref (gS γ 8 0)]) := by
    intro x2 y1 σ cells slots hc1 hc2 H locs ls hw hR hl
    unfold f8_unmap_j51 at hw
    refine rw_puti (x := y1) hX hR 8 0 0 800 (C := RX7) (T := TX7) (N := 48) rfl (by decide) rfl rfl (Nat.le_of_ble_eq_true rfl) rfl uw_X7 tyX7 tyX7_ok nmX7 gw_928 rfl rfl (by decide) dX7_unmap_51 (fun σ1 H locs e1 hR1 => ?_)
    replace hR := hR1
    clear hR1
    subst e1
    refine rw_aload_n hX hl 0 rfl (Or.inr ⟨_, rfl⟩) dX7_unmap_54 rfl ?_
    refine rw_get hX hR 8 0 0 (C := RX7) (T := TX7) (N := 48) rfl (by decide) (Nat.le_of_ble_eq_true rfl) rfl (v := .int (gi (zi σ 800 0 y1) 800 0)) rfl uw_X7 gw_928 rfl dX7_unmap_55 ?_
    refine lv_if_eq (x := (gi (zi σ 800 0 y1) 800 0)) (tgt := 63) hX.1.1 hX.1.2.1 dX7_unmap_58 (by decide) (fun c5 => ?_) (fun c5 => ?_)
    · replace hw := if_t hw c5
      refine rw_aload_n hX hl 0 rfl (Or.inr ⟨_, rfl⟩) dX7_unmap_63 rfl ?_
      refine rw_get hX hR 8 39 0 (C := RX7) (T := TX7) (N := 48) rfl (by decide) (Nat.le_of_ble_eq_true rfl) rfl (v := .ref (gS γ 1839 0)) rfl uw_X7 gw_967 rfl dX7_unmap_64 ?_
      refine rw_iload_n hX hl 1 rfl dX7_unmap_67 rfl ?_
      refine lv_iconst (v := (-1)) hX.1.1 hX.1.2.1 dX7_unmap_68 (by decide) ?_
      obtain ⟨h7, hw1⟩ := ar_some hw
      replace hw := hw1
      clear hw1
      obtain ⟨j6, ej6⟩ : ∃ j, (x2 : Int32).toNatClampNeg = j := ⟨_, rfl⟩
      rw [ej6] at hw
      refine rw_iast hX hR 839 (n := 16) (i := x2) (x := (-1)) rfl (by decide) rfl rfl h7 dX7_unmap_69 (fun σ1 H locs e1 hR1 => ?_)
      replace hR := hR1
      clear hR1
      rw [ej6] at e1
      subst e1
      refine rw_aload_n hX hl 0 rfl (Or.inr ⟨_, rfl⟩) dX7_unmap_70 rfl ?_
      obtain ⟨σ9, g10, hw1⟩ := ob1_some hw
      replace hw := hw1
      clear hw1
      refine rw_cVv hX hR pk_f8_settle (mc := 0) (ms := 0) ⟨rfl, rfl, (show 5 + 1 ≤ 6 by omega), (show 8 + (3 + 11) + 64 * 5 ≤ 64 * 6 by omega)⟩ (As := []) (rest := []) rfl (C_f8_settle l γ ad (zi (zi σ 800 0 y1) 839 j6 (-1)) σ9 g10) gw_1093 gw_1095 gs_54 (rs_recv hX hR 8 0 (C := RX7) (T := TX7) (N := 48) rfl (by decide) (Nat.le_of_ble_eq_true rfl) rfl) rfl hl.1 ca0 (Nat.le_of_ble_eq_true rfl) dX7_unmap_71 ⟨(show cells + 0 ≤ 0 by omega), (show slots + 0 ≤ 0 by omega)⟩ (fun H locs hR1 => ?_)
      replace hR := hR1
      clear hR1
      refine rw_aload_n hX hl 0 rfl (Or.inr ⟨_, rfl⟩) dX7_unmap_74 rfl ?_
      refine rw_get hX hR 8 40 0 (C := RX7) (T := TX7) (N := 48) rfl (by decide) (Nat.le_of_ble_eq_true rfl) rfl (v := .ref (gS γ 1840 0)) rfl uw_X7 gw_968 rfl dX7_unmap_75 ?_
      refine rw_iload_n hX hl 1 rfl dX7_unmap_78 rfl ?_
      obtain ⟨h12, hw1⟩ := ar_some hw
      replace hw := hw1
      clear hw1
      obtain ⟨j11, ej11⟩ : ∃ j, (x2 : Int32).toNatClampNeg = j := ⟨_, rfl⟩
      rw [ej11] at hw
      refine rw_iald hX hR 840 (n := 16) (i := x2) (v := (gi σ9 840 j11)) rfl (by decide) rfl rfl h12 (by rw [ej11]) dX7_unmap_79 ?_
      refine W.widen (k := 0) (n := 0) (by omega) (by omega) ?_
      exact rq_ie hX hR hr hw dX7_unmap_80 hlocks
    · replace hw := if_f hw c5
      refine lv_iconst (v := 0) hX.1.1 hX.1.2.1 dX7_unmap_61 (by decide) ?_
      refine W.widen (k := 0) (n := 0) (by omega) (by omega) ?_
      exact rq_ie hX hR hr hw dX7_unmap_62 hlocks
  refine rw_entry (ca1 rfl (ca1 rfl (ca1 rfl ca0))) (Nat.le_of_ble_eq_true rfl) (fun ls hl1 => ?_)
  replace hl := hl1
  clear hl1
  refine rw_aload_n hX hl 0 rfl (Or.inr ⟨_, rfl⟩) dX7_unmap_0 rfl ?_
  refine rw_aload_n hX hl 0 rfl (Or.inr ⟨_, rfl⟩) dX7_unmap_1 rfl ?_
  refine rw_iload_n hX hl 1 rfl dX7_unmap_2 rfl ?_
  obtain ⟨v1, g3, hw1⟩ := ob1_some hw
  replace hw := hw1
  clear hw1
  refine rw_cVi hX hR pk_f8_isHandle (mc := 0) (ms := 0) ⟨rfl, rfl, (show 2 + 1 ≤ 6 by omega), (show 8 + (2 + 11) + 64 * 2 ≤ 64 * 6 by omega)⟩ (As := [.int a1]) (rest := [.ref (gS γ 8 0)]) rfl (C_f8_isHandle l γ ad a1 σ v1 g3) gw_1192 gw_1194 gs_70 (rs_recv hX hR 8 0 (C := RX7) (T := TX7) (N := 48) rfl (by decide) (Nat.le_of_ble_eq_true rfl) rfl) rfl hl.1 (ca1 rfl ca0) (Nat.le_of_ble_eq_true rfl) dX7_unmap_3 ⟨(show 0 + 0 ≤ 0 by omega), (show 0 + 0 ≤ 0 by omega)⟩ (fun H locs hR1 => ?_)
  replace hR := hR1
  clear hR1
  refine rw_ifeqZ (b := v1) (tgt := 19) hX dX7_unmap_6 (by decide) (fun c4 => ?_) (fun c4 => ?_)
  · replace hw := if_f hw c4
    refine lv_iconst (v := 1) hX.1.1 hX.1.2.1 dX7_unmap_19 (by decide) ?_
    refine lv_goto (tgt := 51) hX.1.1 hX.1.2.1 dX7_unmap_20 (by decide) ?_
    exact J51 a2 1 σ _ _ (by omega) (by omega) _ _ _ hw hR (lh_sub hl [0, 2] rfl)
  · replace hw := if_t hw c4
    refine rw_iload_n hX hl 2 rfl dX7_unmap_9 rfl ?_
    refine lv_iconst (v := 0) hX.1.1 hX.1.2.1 dX7_unmap_10 (by decide) ?_
    refine lv_bipush (v := 15) hX.1.1 hX.1.2.1 dX7_unmap_11 (by decide) ?_
    obtain ⟨v13, g15, hw1⟩ := ob1_some hw
    replace hw := hw1
    clear hw1
    refine rw_cSi hX hR pk_f8_in (mc := 0) (ms := 0) ⟨rfl, rfl, (show 1 + 1 ≤ 6 by omega), (show 8 + (3 + 11) + 64 * 1 ≤ 64 * 6 by omega)⟩ (As := [.int a2, .int 0, .int 15]) (rest := [.ref (gS γ 8 0)]) rfl (C_f8_in l γ ad a2 0 15 σ v13 g15) gw_1082 gw_1083 rfl hl.1 (ca1 rfl ca0) (Nat.le_of_ble_eq_true rfl) dX7_unmap_13 ⟨(show (0 + 0) + 0 ≤ 0 by omega), (show (0 + 0) + 0 ≤ 0 by omega)⟩ (fun H locs hR1 => ?_)
    replace hR := hR1
    clear hR1
    refine rw_ifneZ (b := v13) (tgt := 23) hX dX7_unmap_16 (by decide) (fun c16 => ?_) (fun c16 => ?_)
    · replace hw := if_t hw c16
      refine rw_aload_n hX hl 0 rfl (Or.inr ⟨_, rfl⟩) dX7_unmap_23 rfl ?_
      refine rw_iload_n hX hl 1 rfl dX7_unmap_24 rfl ?_
      obtain ⟨v17, g19, hw1⟩ := ob1_some hw
      replace hw := hw1
      clear hw1
      refine rw_cVi hX hR pk_f8_isUsable (mc := 0) (ms := 0) ⟨rfl, rfl, (show 2 + 1 ≤ 6 by omega), (show 8 + (2 + 11) + 64 * 2 ≤ 64 * 6 by omega)⟩ (As := [.int a1]) (rest := [.ref (gS γ 8 0)]) rfl (C_f8_isUsable l γ ad a1 σ v17 g19) gw_1204 gw_1206 gs_72 (rs_recv hX hR 8 0 (C := RX7) (T := TX7) (N := 48) rfl (by decide) (Nat.le_of_ble_eq_true rfl) rfl) rfl hl.1 (ca1 rfl ca0) (Nat.le_of_ble_eq_true rfl) dX7_unmap_25 ⟨(show ((0 + 0) + 0) + 0 ≤ 0 by omega), (show ((0 + 0) + 0) + 0 ≤ 0 by omega)⟩ (fun H locs hR1 => ?_)
      replace hR := hR1
      clear hR1
      refine rw_ifeqZ (b := v17) (tgt := 46) hX dX7_unmap_28 (by decide) (fun c20 => ?_) (fun c20 => ?_)
      · replace hw := if_f hw c20
        refine lv_iconst (v := 2) hX.1.1 hX.1.2.1 dX7_unmap_46 (by decide) ?_
        refine lv_goto (tgt := 51) hX.1.1 hX.1.2.1 dX7_unmap_47 (by decide) ?_
        exact J51 a2 2 σ _ _ (by omega) (by omega) _ _ _ hw hR (lh_sub hl [0, 2] rfl)
      · replace hw := if_t hw c20
        refine rw_aload_n hX hl 0 rfl (Or.inr ⟨_, rfl⟩) dX7_unmap_31 rfl ?_
        refine rw_get hX hR 8 39 0 (C := RX7) (T := TX7) (N := 48) rfl (by decide) (Nat.le_of_ble_eq_true rfl) rfl (v := .ref (gS γ 1839 0)) rfl uw_X7 gw_967 rfl dX7_unmap_32 ?_
        refine rw_iload_n hX hl 2 rfl dX7_unmap_35 rfl ?_
        obtain ⟨h22, hw1⟩ := ar_some hw
        replace hw := hw1
        clear hw1
        obtain ⟨j21, ej21⟩ : ∃ j, (a2 : Int32).toNatClampNeg = j := ⟨_, rfl⟩
        rw [ej21] at hw
        refine rw_iald hX hR 839 (n := 16) (i := a2) (v := (gi σ 839 j21)) rfl (by decide) rfl rfl h22 (by rw [ej21]) dX7_unmap_36 ?_
        refine rw_aload_n hX hl 0 rfl (Or.inr ⟨_, rfl⟩) dX7_unmap_37 rfl ?_
        refine rw_get hX hR 8 31 0 (C := RX7) (T := TX7) (N := 48) rfl (by decide) (Nat.le_of_ble_eq_true rfl) rfl (v := .ref (gS γ 1831 0)) rfl uw_X7 gw_959 rfl dX7_unmap_38 ?_
        refine rw_iload_n hX hl 1 rfl dX7_unmap_41 rfl ?_
        obtain ⟨h24, hw1⟩ := ar_some hw
        replace hw := hw1
        clear hw1
        obtain ⟨j23, ej23⟩ : ∃ j, (a1 : Int32).toNatClampNeg = j := ⟨_, rfl⟩
        rw [ej23] at hw
        refine rw_iald hX hR 831 (n := 40) (i := a1) (v := (gi σ 831 j23)) rfl (by decide) rfl rfl h24 (by rw [ej23]) dX7_unmap_42 ?_
        refine lv_icmp_eq (x := (gi σ 839 j21)) (y := (gi σ 831 j23)) (tgt := 50) hX.1.1 hX.1.2.1 dX7_unmap_43 (by decide) (fun c25 => ?_) (fun c25 => ?_)
        · replace hw := if_t hw c25
          refine lv_iconst (v := 0) hX.1.1 hX.1.2.1 dX7_unmap_50 (by decide) ?_
          exact J51 a2 0 σ _ _ (by omega) (by omega) _ _ _ hw hR (lh_sub hl [0, 2] rfl)
        · replace hw := if_f hw c25
          refine lv_iconst (v := 2) hX.1.1 hX.1.2.1 dX7_unmap_46 (by decide) ?_
          refine lv_goto (tgt := 51) hX.1.1 hX.1.2.1 dX7_unmap_47 (by decide) ?_
          exact J51 a2 2 σ _ _ (by omega) (by omega) _ _ _ hw hR (lh_sub hl [0, 2] rfl)
    · replace hw := if_f hw c16
      refine lv_iconst (v := 1) hX.1.1 hX.1.2.1 dX7_unmap_19 (by decide) ?_
      refine lv_goto (tgt := 51) hX.1.1 hX.1.2.1 dX7_unmap_20 (by decide) ?_
      exact J51 a2 1 σ _ _ (by omega) (by omega) _ _ _ hw hR (lh_sub hl [0, 2] rfl)
set_option maxHeartbeats 8000000 in
set_option maxRecDepth 100000 in
theorem C_f8_access (l : Launch) (γ : GT) (ad : Nat → Nat → Nat) {fu : Nat} (a1 : Int32) (a2 : Int32) (σ : St) (r : Int32) (σ' : St) (hw : f8_access fu a1 a2 σ = some (r, σ')) : Met l yX7_access (Cond.code yX7_access cX7_access 4 (Option.some Jvm.ClassFile.FieldType.int) :: GW) (rmo 6 0 0) (va_Pc [.ref (gS γ 8 0), .int a1, .int a2] (RU γ ad σ)) (QI γ ad σ' r) 0 0 (gA γ) := by
  refine Met.ofW (cc := cX7_access) (maxL := 4) (ret := (Option.some Jvm.ClassFile.FieldType.int)) (by decide +kernel) rfl ?_
  intro p e s m args below meth c s₁ B hml hv
  obtain ⟨rfl, hU⟩ := hv
  obtain ⟨hX, hR⟩ := cx_of (own := RX7) B hml rfl hU
  have hr := B.returns
  have hlocks := B.notSynchronized
  have hc0 : (0 : Nat) ≤ 0 := Nat.le_refl 0
  show W p l e (rmo 6 0 0) s m ([.ref (gS γ 8 0), .int a1, .int a2] : List Value).toArray below meth c s.heap [] 0 0 (MQ below (QI γ ad σ' r) ([.ref (gS γ 8 0), .int a1, .int a2] : List Value).toArray s 0 0 (gA γ)) (entryFrame m ([.ref (gS γ 8 0), .int a1, .int a2] : List Value).toArray 4)
  unfold f8_access at hw
  have J88 : ∀ (x2 : Int32) (x3 : Bool) (y1 : Int32) (y2 : Bool) (σ : St) (cells slots : Nat), cells ≤ 0 → slots ≤ 0 → ∀ (H : Heap) (locs : List Loc) (ls : Array Slot), f8_access_j88 fu x2 x3 y1 y2 σ = some (r, σ') → RS γ ad σ s H locs → lh ls 4 [(0, .ref (gS γ 8 0)), (2, .int x2), (3, .int (b2i x3))] → W p l e (rmo 6 0 0) s m ([.ref (gS γ 8 0), .int a1, .int a2] : List Value).toArray below meth c H locs cells slots (MQ below (QI γ ad σ' r) ([.ref (gS γ 8 0), .int a1, .int a2] : List Value).toArray s 0 0 (gA γ)) (F0 m 88 ls [.int (b2i y2), .int y1, .ref (gS γ 8 0)]) := by
    intro x2 x3 y1 y2 σ cells slots hc1 hc2 H locs ls hw hR hl
    unfold f8_access_j88 at hw
    refine lv_iadd (x := y1) (y := (b2i y2)) hX.1.1 hX.1.2.1 dX7_access_88 ?_
    refine rw_puti (x := (y1 + (b2i y2))) hX hR 8 41 0 841 (C := RX7) (T := TX7) (N := 48) rfl (by decide) rfl rfl (Nat.le_of_ble_eq_true rfl) rfl uw_X7 tyX7 tyX7_ok nmX7 gw_969 rfl rfl (by decide) dX7_access_89 (fun σ1 H locs e1 hR1 => ?_)
    replace hR := hR1
    clear hR1
    subst e1
    refine rw_aload_n hX hl 0 rfl (Or.inr ⟨_, rfl⟩) dX7_access_92 rfl ?_
    obtain ⟨σ11, g12, hw1⟩ := ob1_some hw
    replace hw := hw1
    clear hw1
    refine rw_cVv hX hR pk_f8_settle (mc := 0) (ms := 0) ⟨rfl, rfl, (show 5 + 1 ≤ 6 by omega), (show 8 + (3 + 11) + 64 * 5 ≤ 64 * 6 by omega)⟩ (As := []) (rest := []) rfl (C_f8_settle l γ ad (zi σ 841 0 (y1 + (b2i y2))) σ11 g12) gw_1093 gw_1095 gs_54 (rs_recv hX hR 8 0 (C := RX7) (T := TX7) (N := 48) rfl (by decide) (Nat.le_of_ble_eq_true rfl) rfl) rfl hl.1 ca0 (Nat.le_of_ble_eq_true rfl) dX7_access_93 ⟨(show cells + 0 ≤ 0 by omega), (show slots + 0 ≤ 0 by omega)⟩ (fun H locs hR1 => ?_)
    replace hR := hR1
    clear hR1
    refine rw_iload_n hX hl 2 rfl dX7_access_96 rfl ?_
    refine rw_ifeqZ (b := x3) (tgt := 109) hX dX7_access_97 (by decide) (fun c13 => ?_) (fun c13 => ?_)
    · replace hw := if_f hw c13
      refine lv_iconst (v := (-1)) hX.1.1 hX.1.2.1 dX7_access_109 (by decide) ?_
      refine W.widen (k := 0) (n := 0) (by omega) (by omega) ?_
      exact rq_ie hX hR hr hw dX7_access_110 hlocks
    · replace hw := if_t hw c13
      refine rw_aload_n hX hl 0 rfl (Or.inr ⟨_, rfl⟩) dX7_access_100 rfl ?_
      refine rw_get hX hR 8 40 0 (C := RX7) (T := TX7) (N := 48) rfl (by decide) (Nat.le_of_ble_eq_true rfl) rfl (v := .ref (gS γ 1840 0)) rfl uw_X7 gw_968 rfl dX7_access_101 ?_
      refine rw_iload_n hX hl 1 rfl dX7_access_104 rfl ?_
      obtain ⟨h15, hw1⟩ := ar_some hw
      replace hw := hw1
      clear hw1
      obtain ⟨j14, ej14⟩ : ∃ j, (x2 : Int32).toNatClampNeg = j := ⟨_, rfl⟩
      rw [ej14] at hw
      refine rw_iald hX hR 840 (n := 16) (i := x2) (v := (gi σ11 840 j14)) rfl (by decide) rfl rfl h15 (by rw [ej14]) dX7_access_105 ?_
      refine lv_goto (tgt := 110) hX.1.1 hX.1.2.1 dX7_access_106 (by decide) ?_
      refine W.widen (k := 0) (n := 0) (by omega) (by omega) ?_
      exact rq_ie hX hR hr hw dX7_access_110 hlocks
  have J73 : ∀ (x2 : Int32) (y0 : Bool) (σ : St) (cells slots : Nat), cells ≤ 0 → slots ≤ 0 → ∀ (H : Heap) (locs : List Loc) (ls : Array Slot), f8_access_j73 fu x2 y0 σ = some (r, σ') → RS γ ad σ s H locs → lh ls 4 [(0, .ref (gS γ 8 0)), (2, .int x2)] → W p l e (rmo 6 0 0) s m ([.ref (gS γ 8 0), .int a1, .int a2] : List Value).toArray below meth c H locs cells slots (MQ below (QI γ ad σ' r) ([.ref (gS γ 8 0), .int a1, .int a2] : List Value).toArray s 0 0 (gA γ)) (F0 m 73 ls [.int (b2i y0)]) := by
    intro x2 y0 σ cells slots hc1 hc2 H locs ls hw hR hl
    unfold f8_access_j73 at hw
    refine rw_istore_n (lv' := [(3, .int (b2i y0)), (0, .ref (gS γ 8 0)), (2, .int x2)]) hX hl (by decide) rfl dX7_access_73 rfl (fun ls hl1 => ?_)
    replace hl := hl1
    clear hl1
    refine rw_aload_n hX hl 1 rfl (Or.inr ⟨_, rfl⟩) dX7_access_74 rfl ?_
    refine lv_dup hX.1.1 hX.1.2.1 dX7_access_75 rfl ?_
    refine rw_get hX hR 8 41 0 (C := RX7) (T := TX7) (N := 48) rfl (by decide) (Nat.le_of_ble_eq_true rfl) rfl (v := .int (gi σ 841 0)) rfl uw_X7 gw_969 rfl dX7_access_76 ?_
    refine rw_iload_n hX hl 0 rfl dX7_access_79 rfl ?_
    refine rw_ifeqZ (b := y0) (tgt := 87) hX dX7_access_80 (by decide) (fun c9 => ?_) (fun c9 => ?_)
    · replace hw := if_f hw c9
      refine lv_iconst (v := 1) hX.1.1 hX.1.2.1 dX7_access_87 (by decide) ?_
      exact J88 x2 y0 (gi σ 841 0) true σ _ _ (by omega) (by omega) _ _ _ hw hR (lh_sub hl [1, 2, 0] rfl)
    · replace hw := if_t hw c9
      refine lv_iconst (v := 0) hX.1.1 hX.1.2.1 dX7_access_83 (by decide) ?_
      refine lv_goto (tgt := 88) hX.1.1 hX.1.2.1 dX7_access_84 (by decide) ?_
      exact J88 x2 y0 (gi σ 841 0) false σ _ _ (by omega) (by omega) _ _ _ hw hR (lh_sub hl [1, 2, 0] rfl)
  have J37 : ∀ (x1 : Int32) (x2 : Int32) (y1 : Int32) (σ : St) (cells slots : Nat), cells ≤ 0 → slots ≤ 0 → ∀ (H : Heap) (locs : List Loc) (ls : Array Slot), f8_access_j37 fu x1 x2 y1 σ = some (r, σ') → RS γ ad σ s H locs → lh ls 4 [(0, .ref (gS γ 8 0)), (1, .int x1), (2, .int x2)] → W p l e (rmo 6 0 0) s m ([.ref (gS γ 8 0), .int a1, .int a2] : List Value).toArray below meth c H locs cells slots (MQ below (QI γ ad σ' r) ([.ref (gS γ 8 0), .int a1, .int a2] : List Value).toArray s 0 0 (gA γ)) (F0 m 37 ls [.int y1, .ref (gS γ 8 0)]) := by
    intro x1 x2 y1 σ cells slots hc1 hc2 H locs ls hw hR hl
    unfold f8_access_j37 at hw
    refine rw_puti (x := y1) hX hR 8 0 0 800 (C := RX7) (T := TX7) (N := 48) rfl (by decide) rfl rfl (Nat.le_of_ble_eq_true rfl) rfl uw_X7 tyX7 tyX7_ok nmX7 gw_928 rfl rfl (by decide) dX7_access_37 (fun σ1 H locs e1 hR1 => ?_)
    replace hR := hR1
    clear hR1
    subst e1
    refine rw_aload_n hX hl 0 rfl (Or.inr ⟨_, rfl⟩) dX7_access_40 rfl ?_
    refine rw_get hX hR 8 0 0 (C := RX7) (T := TX7) (N := 48) rfl (by decide) (Nat.le_of_ble_eq_true rfl) rfl (v := .int (gi (zi σ 800 0 y1) 800 0)) rfl uw_X7 gw_928 rfl dX7_access_41 ?_
    refine lv_if_eq (x := (gi (zi σ 800 0 y1) 800 0)) (tgt := 49) hX.1.1 hX.1.2.1 dX7_access_44 (by decide) (fun c5 => ?_) (fun c5 => ?_)
    · replace hw := if_t hw c5
      refine rw_aload_n hX hl 0 rfl (Or.inr ⟨_, rfl⟩) dX7_access_49 rfl ?_
      refine rw_get hX hR 8 13 0 (C := RX7) (T := TX7) (N := 48) rfl (by decide) (Nat.le_of_ble_eq_true rfl) rfl (v := .ref (gS γ 1813 0)) rfl uw_X7 gw_941 rfl dX7_access_50 ?_
      refine rw_iload_n hX hl 1 rfl dX7_access_53 rfl ?_
      obtain ⟨h7, hw1⟩ := ar_some hw
      replace hw := hw1
      clear hw1
      obtain ⟨j6, ej6⟩ : ∃ j, (x1 : Int32).toNatClampNeg = j := ⟨_, rfl⟩
      rw [ej6] at hw
      refine rw_zald hX hR 813 (n := 24) (i := x1) (v := (gb (zi σ 800 0 y1) 813 j6)) rfl (by decide) rfl rfl h7 (by rw [ej6]) dX7_access_54 ?_
      refine rw_ifeqZ (b := (gb (zi σ 800 0 y1) 813 j6)) (tgt := 72) hX dX7_access_55 (by decide) (fun c8 => ?_) (fun c8 => ?_)
      · replace hw := if_f hw c8
        refine lv_iconst (v := 0) hX.1.1 hX.1.2.1 dX7_access_72 (by decide) ?_
        exact J73 x2 false (zi σ 800 0 y1) _ _ (by omega) (by omega) _ _ _ hw hR (lh_sub hl [0, 2] rfl)
      · replace hw := if_t hw c8
        refine rw_aload_n hX hl 0 rfl (Or.inr ⟨_, rfl⟩) dX7_access_58 rfl ?_
        refine rw_get hX hR 8 39 0 (C := RX7) (T := TX7) (N := 48) rfl (by decide) (Nat.le_of_ble_eq_true rfl) rfl (v := .ref (gS γ 1839 0)) rfl uw_X7 gw_967 rfl dX7_access_59 ?_
        refine rw_iload_n hX hl 2 rfl dX7_access_62 rfl ?_
        obtain ⟨h17, hw1⟩ := ar_some hw
        replace hw := hw1
        clear hw1
        obtain ⟨j16, ej16⟩ : ∃ j, (x2 : Int32).toNatClampNeg = j := ⟨_, rfl⟩
        rw [ej16] at hw
        refine rw_iald hX hR 839 (n := 16) (i := x2) (v := (gi (zi σ 800 0 y1) 839 j16)) rfl (by decide) rfl rfl h17 (by rw [ej16]) dX7_access_63 ?_
        refine rw_iload_n hX hl 1 rfl dX7_access_64 rfl ?_
        refine lv_icmp_ne (x := (gi (zi σ 800 0 y1) 839 j16)) (y := x1) (tgt := 72) hX.1.1 hX.1.2.1 dX7_access_65 (by decide) (fun c18 => ?_) (fun c18 => ?_)
        · replace hw := if_f hw c18
          refine lv_iconst (v := 0) hX.1.1 hX.1.2.1 dX7_access_72 (by decide) ?_
          exact J73 x2 false (zi σ 800 0 y1) _ _ (by omega) (by omega) _ _ _ hw hR (lh_sub hl [0, 2] rfl)
        · replace hw := if_t hw c18
          refine lv_iconst (v := 1) hX.1.1 hX.1.2.1 dX7_access_68 (by decide) ?_
          refine lv_goto (tgt := 73) hX.1.1 hX.1.2.1 dX7_access_69 (by decide) ?_
          exact J73 x2 true (zi σ 800 0 y1) _ _ (by omega) (by omega) _ _ _ hw hR (lh_sub hl [0, 2] rfl)
    · replace hw := if_f hw c5
      refine lv_iconst (v := 0) hX.1.1 hX.1.2.1 dX7_access_47 (by decide) ?_
      refine W.widen (k := 0) (n := 0) (by omega) (by omega) ?_
      exact rq_ie hX hR hr hw dX7_access_48 hlocks
  refine rw_entry (ca1 rfl (ca1 rfl (ca1 rfl ca0))) (Nat.le_of_ble_eq_true rfl) (fun ls hl1 => ?_)
  replace hl := hl1
  clear hl1
  refine rw_aload_n hX hl 0 rfl (Or.inr ⟨_, rfl⟩) dX7_access_0 rfl ?_
  refine rw_aload_n hX hl 0 rfl (Or.inr ⟨_, rfl⟩) dX7_access_1 rfl ?_
  refine rw_iload_n hX hl 1 rfl dX7_access_2 rfl ?_
  obtain ⟨v1, g3, hw1⟩ := ob1_some hw
  replace hw := hw1
  clear hw1
  refine rw_cVi hX hR pk_f8_isDevice (mc := 0) (ms := 0) ⟨rfl, rfl, (show 2 + 1 ≤ 6 by omega), (show 8 + (2 + 11) + 64 * 2 ≤ 64 * 6 by omega)⟩ (As := [.int a1]) (rest := [.ref (gS γ 8 0)]) rfl (C_f8_isDevice l γ ad a1 σ v1 g3) gw_1089 gw_1091 gs_53 (rs_recv hX hR 8 0 (C := RX7) (T := TX7) (N := 48) rfl (by decide) (Nat.le_of_ble_eq_true rfl) rfl) rfl hl.1 (ca1 rfl ca0) (Nat.le_of_ble_eq_true rfl) dX7_access_3 ⟨(show 0 + 0 ≤ 0 by omega), (show 0 + 0 ≤ 0 by omega)⟩ (fun H locs hR1 => ?_)
  replace hR := hR1
  clear hR1
  refine rw_ifeqZ (b := v1) (tgt := 19) hX dX7_access_6 (by decide) (fun c4 => ?_) (fun c4 => ?_)
  · replace hw := if_f hw c4
    refine lv_iconst (v := 1) hX.1.1 hX.1.2.1 dX7_access_19 (by decide) ?_
    refine lv_goto (tgt := 37) hX.1.1 hX.1.2.1 dX7_access_20 (by decide) ?_
    exact J37 a1 a2 1 σ _ _ (by omega) (by omega) _ _ _ hw hR (lh_sub hl [0, 1, 2] rfl)
  · replace hw := if_t hw c4
    refine rw_iload_n hX hl 2 rfl dX7_access_9 rfl ?_
    refine lv_iconst (v := 0) hX.1.1 hX.1.2.1 dX7_access_10 (by decide) ?_
    refine lv_bipush (v := 15) hX.1.1 hX.1.2.1 dX7_access_11 (by decide) ?_
    obtain ⟨v19, g21, hw1⟩ := ob1_some hw
    replace hw := hw1
    clear hw1
    refine rw_cSi hX hR pk_f8_in (mc := 0) (ms := 0) ⟨rfl, rfl, (show 1 + 1 ≤ 6 by omega), (show 8 + (3 + 11) + 64 * 1 ≤ 64 * 6 by omega)⟩ (As := [.int a2, .int 0, .int 15]) (rest := [.ref (gS γ 8 0)]) rfl (C_f8_in l γ ad a2 0 15 σ v19 g21) gw_1082 gw_1083 rfl hl.1 (ca1 rfl ca0) (Nat.le_of_ble_eq_true rfl) dX7_access_13 ⟨(show (0 + 0) + 0 ≤ 0 by omega), (show (0 + 0) + 0 ≤ 0 by omega)⟩ (fun H locs hR1 => ?_)
    replace hR := hR1
    clear hR1
    refine rw_ifneZ (b := v19) (tgt := 23) hX dX7_access_16 (by decide) (fun c22 => ?_) (fun c22 => ?_)
    · replace hw := if_t hw c22
      refine rw_aload_n hX hl 0 rfl (Or.inr ⟨_, rfl⟩) dX7_access_23 rfl ?_
      refine rw_get hX hR 8 11 0 (C := RX7) (T := TX7) (N := 48) rfl (by decide) (Nat.le_of_ble_eq_true rfl) rfl (v := .ref (gS γ 1811 0)) rfl uw_X7 gw_939 rfl dX7_access_24 ?_
      refine rw_iload_n hX hl 1 rfl dX7_access_27 rfl ?_
      obtain ⟨h24, hw1⟩ := ar_some hw
      replace hw := hw1
      clear hw1
      obtain ⟨j23, ej23⟩ : ∃ j, (a1 : Int32).toNatClampNeg = j := ⟨_, rfl⟩
      rw [ej23] at hw
      refine rw_zald hX hR 811 (n := 24) (i := a1) (v := (gb σ 811 j23)) rfl (by decide) rfl rfl h24 (by rw [ej23]) dX7_access_28 ?_
      refine rw_ifneZ (b := (gb σ 811 j23)) (tgt := 36) hX dX7_access_29 (by decide) (fun c25 => ?_) (fun c25 => ?_)
      · replace hw := if_t hw c25
        refine lv_iconst (v := 0) hX.1.1 hX.1.2.1 dX7_access_36 (by decide) ?_
        exact J37 a1 a2 0 σ _ _ (by omega) (by omega) _ _ _ hw hR (lh_sub hl [0, 1, 2] rfl)
      · replace hw := if_f hw c25
        refine lv_iconst (v := 2) hX.1.1 hX.1.2.1 dX7_access_32 (by decide) ?_
        refine lv_goto (tgt := 37) hX.1.1 hX.1.2.1 dX7_access_33 (by decide) ?_
        exact J37 a1 a2 2 σ _ _ (by omega) (by omega) _ _ _ hw hR (lh_sub hl [0, 1, 2] rfl)
    · replace hw := if_f hw c22
      refine lv_iconst (v := 1) hX.1.1 hX.1.2.1 dX7_access_19 (by decide) ?_
      refine lv_goto (tgt := 37) hX.1.1 hX.1.2.1 dX7_access_20 (by decide) ?_
      exact J37 a1 a2 1 σ _ _ (by omega) (by omega) _ _ _ hw hR (lh_sub hl [0, 1, 2] rfl)
set_option maxHeartbeats 8000000 in
set_option maxRecDepth 100000 in
theorem C_f8_hasCall (l : Launch) (γ : GT) (ad : Nat → Nat → Nat) {fu : Nat} (a1 : Int32) (σ : St) (r : Bool) (hw : f8_hasCall fu a1 σ = some r) : Met l yX7_hasCall (Cond.code yX7_hasCall cX7_hasCall 4 (Option.some Jvm.ClassFile.FieldType.boolean) :: GW) (rmo 1 0 0) (va_Pc [.ref (gS γ 8 0), .int a1] (RU γ ad σ)) (QI γ ad σ (b2i r)) 0 0 (gA γ) := by
  refine Met.ofW (cc := cX7_hasCall) (maxL := 4) (ret := (Option.some Jvm.ClassFile.FieldType.boolean)) (by decide +kernel) rfl ?_
  intro p e s m args below meth c s₁ B hml hv
  obtain ⟨rfl, hU⟩ := hv
  obtain ⟨hX, hR⟩ := cx_of (own := RX7) B hml rfl hU
  have hr := B.returns
  have hlocks := B.notSynchronized
  have hc0 : (0 : Nat) ≤ 0 := Nat.le_refl 0
  show W p l e (rmo 1 0 0) s m ([.ref (gS γ 8 0), .int a1] : List Value).toArray below meth c s.heap [] 0 0 (MQ below (QI γ ad σ (b2i r)) ([.ref (gS γ 8 0), .int a1] : List Value).toArray s 0 0 (gA γ)) (entryFrame m ([.ref (gS γ 8 0), .int a1] : List Value).toArray 4)
  unfold f8_hasCall at hw
  have L4 : ∀ (x1 : Int32) (n : Nat) (s9 : (Bool × Int32)) (cells slots : Nat), cells ≤ 0 → slots ≤ 0 → ∀ (H : Heap) (locs : List Loc) (ls : Array Slot), lp (fun s8 => f8_hasCall_b4 fu x1 s8.1 s8.2 σ) n s9 = some r → RS γ ad σ s H locs → lh ls 4 [(0, .ref (gS γ 8 0)), (1, .int x1), (2, .int (b2i s9.1)), (3, .int s9.2)] → W p l e (rmo 1 0 0) s m ([.ref (gS γ 8 0), .int a1] : List Value).toArray below meth c H locs cells slots (MQ below (QI γ ad σ (b2i r)) ([.ref (gS γ 8 0), .int a1] : List Value).toArray s 0 0 (gA γ)) (F0 m 4 ls []) := by
    intro x1 n4
    induction n4 with
    | zero => intro s9 cells slots hc1 hc2 H locs ls hw hR hl; exact (lp_zero hw).elim
    | succ n4 ih4 =>
      intro s9 cells slots hc1 hc2 H locs ls hw hR hl
      obtain ⟨o4, hw1, hb4, ho4⟩ := lp_succ hw
      replace hw := hw1
      clear hw1
      obtain ⟨x2, x3⟩ := s9
      replace hw : f8_hasCall_b4 fu x1 x2 x3 σ = some o4 := hw
      replace hl : lh ls 4 [(0, .ref (gS γ 8 0)), (1, .int x1), (2, .int (b2i x2)), (3, .int x3)] := hl
      unfold f8_hasCall_b4 at hw
      have J45 : ∀ (x3 : Int32) (y0 : Bool) (cells slots : Nat), cells ≤ 0 → slots ≤ 0 → ∀ (H : Heap) (locs : List Loc) (ls : Array Slot), f8_hasCall_j45 fu x1 x3 y0 σ = some o4 → RS γ ad σ s H locs → lh ls 4 [(0, .ref (gS γ 8 0)), (1, .int x1), (3, .int x3)] → W p l e (rmo 1 0 0) s m ([.ref (gS γ 8 0), .int a1] : List Value).toArray below meth c H locs cells slots (MQ below (QI γ ad σ (b2i r)) ([.ref (gS γ 8 0), .int a1] : List Value).toArray s 0 0 (gA γ)) (F0 m 45 ls [.int (b2i y0)]) := by
        intro x3 y0 cells slots hc1 hc2 H locs ls hw hR hl
        unfold f8_hasCall_j45 at hw
        refine rw_istore_n (lv' := [(2, .int (b2i y0)), (0, .ref (gS γ 8 0)), (1, .int x1), (3, .int x3)]) hX hl (by decide) rfl dX7_hasCall_45 rfl (fun ls hl1 => ?_)
        replace hl := hl1
        clear hl1
        refine rw_iinc (k := 3) (v := (x3 + 1)) (lv' := [(3, .int (x3 + 1)), (2, .int (b2i y0)), (0, .ref (gS γ 8 0)), (1, .int x1)]) hX hl rfl (congrArg (fun q => x3 + q) (show Int32.ofInt 1 = 1 by decide)) (by decide) rfl dX7_hasCall_46 (fun ls hl1 => ?_)
        replace hl := hl1
        clear hl1
        refine lv_goto (tgt := 4) hX.1.1 hX.1.2.1 dX7_hasCall_49 (by decide) ?_
        exact ih4 _ _ _ (by omega) (by omega) _ _ _ (lp_back hw hb4) hR (lh_sub hl [2, 3, 1, 0] rfl)
      refine rw_iload_n hX hl 3 rfl dX7_hasCall_4 rfl ?_
      refine rw_aload_n hX hl 0 rfl (Or.inr ⟨_, rfl⟩) dX7_hasCall_5 rfl ?_
      refine rw_get hX hR 8 34 0 (C := RX7) (T := TX7) (N := 48) rfl (by decide) (Nat.le_of_ble_eq_true rfl) rfl (v := .int (gi σ 834 0)) rfl uw_X7 gw_962 rfl dX7_hasCall_6 ?_
      refine lv_icmp_ge (x := x3) (y := (gi σ 834 0)) (tgt := 52) hX.1.1 hX.1.2.1 dX7_hasCall_9 (by decide) (fun c1 => ?_) (fun c1 => ?_)
      · replace hw := if_t hw c1
        replace hw := lp_out hw ho4
        refine rw_iload_n hX hl 2 rfl dX7_hasCall_52 rfl ?_
        refine W.widen (k := 0) (n := 0) (by omega) (by omega) ?_
        exact rq_z hX hR hr (v := x2) rfl hw dX7_hasCall_53 hlocks
      · replace hw := if_f hw c1
        refine rw_iload_n hX hl 2 rfl dX7_hasCall_12 rfl ?_
        refine rw_ifneZ (b := x2) (tgt := 40) hX dX7_hasCall_13 (by decide) (fun c2 => ?_) (fun c2 => ?_)
        · replace hw := if_t hw c2
          refine lv_iconst (v := 1) hX.1.1 hX.1.2.1 dX7_hasCall_40 (by decide) ?_
          refine lv_goto (tgt := 45) hX.1.1 hX.1.2.1 dX7_hasCall_41 (by decide) ?_
          exact J45 x3 true _ _ (by omega) (by omega) _ _ _ hw hR (lh_sub hl [0, 1, 3] rfl)
        · replace hw := if_f hw c2
          refine rw_aload_n hX hl 0 rfl (Or.inr ⟨_, rfl⟩) dX7_hasCall_16 rfl ?_
          refine rw_get hX hR 8 37 0 (C := RX7) (T := TX7) (N := 48) rfl (by decide) (Nat.le_of_ble_eq_true rfl) rfl (v := .ref (gS γ 1837 0)) rfl uw_X7 gw_965 rfl dX7_hasCall_17 ?_
          refine rw_iload_n hX hl 3 rfl dX7_hasCall_20 rfl ?_
          obtain ⟨h4, hw1⟩ := ar_some hw
          replace hw := hw1
          clear hw1
          obtain ⟨j3, ej3⟩ : ∃ j, (x3 : Int32).toNatClampNeg = j := ⟨_, rfl⟩
          rw [ej3] at hw
          refine rw_iald hX hR 837 (n := 100) (i := x3) (v := (gi σ 837 j3)) rfl (by decide) rfl rfl h4 (by rw [ej3]) dX7_hasCall_21 ?_
          refine lv_if_ne (x := (gi σ 837 j3)) (tgt := 44) hX.1.1 hX.1.2.1 dX7_hasCall_22 (by decide) (fun c5 => ?_) (fun c5 => ?_)
          · replace hw := if_f hw c5
            refine lv_iconst (v := 0) hX.1.1 hX.1.2.1 dX7_hasCall_44 (by decide) ?_
            exact J45 x3 false _ _ (by omega) (by omega) _ _ _ hw hR (lh_sub hl [0, 1, 3] rfl)
          · replace hw := if_t hw c5
            refine rw_aload_n hX hl 0 rfl (Or.inr ⟨_, rfl⟩) dX7_hasCall_25 rfl ?_
            refine rw_get hX hR 8 31 0 (C := RX7) (T := TX7) (N := 48) rfl (by decide) (Nat.le_of_ble_eq_true rfl) rfl (v := .ref (gS γ 1831 0)) rfl uw_X7 gw_959 rfl dX7_hasCall_26 ?_
            refine rw_aload_n hX hl 0 rfl (Or.inr ⟨_, rfl⟩) dX7_hasCall_29 rfl ?_
            refine rw_get hX hR 8 35 0 (C := RX7) (T := TX7) (N := 48) rfl (by decide) (Nat.le_of_ble_eq_true rfl) rfl (v := .ref (gS γ 1835 0)) rfl uw_X7 gw_963 rfl dX7_hasCall_30 ?_
            refine rw_iload_n hX hl 3 rfl dX7_hasCall_33 rfl ?_
            obtain ⟨h7, hw1⟩ := ar_some hw
            replace hw := hw1
            clear hw1
            obtain ⟨j6, ej6⟩ : ∃ j, (x3 : Int32).toNatClampNeg = j := ⟨_, rfl⟩
            rw [ej6] at hw
            refine rw_iald hX hR 835 (n := 100) (i := x3) (v := (gi σ 835 j6)) rfl (by decide) rfl rfl h7 (by rw [ej6]) dX7_hasCall_34 ?_
            obtain ⟨h9, hw1⟩ := ar_some hw
            replace hw := hw1
            clear hw1
            obtain ⟨j8, ej8⟩ : ∃ j, ((gi σ 835 j6) : Int32).toNatClampNeg = j := ⟨_, rfl⟩
            rw [ej8] at hw
            refine rw_iald hX hR 831 (n := 40) (i := (gi σ 835 j6)) (v := (gi σ 831 j8)) rfl (by decide) rfl rfl h9 (by rw [ej8]) dX7_hasCall_35 ?_
            refine rw_iload_n hX hl 1 rfl dX7_hasCall_36 rfl ?_
            refine lv_icmp_ne (x := (gi σ 831 j8)) (y := x1) (tgt := 44) hX.1.1 hX.1.2.1 dX7_hasCall_37 (by decide) (fun c10 => ?_) (fun c10 => ?_)
            · replace hw := if_f hw c10
              refine lv_iconst (v := 0) hX.1.1 hX.1.2.1 dX7_hasCall_44 (by decide) ?_
              exact J45 x3 false _ _ (by omega) (by omega) _ _ _ hw hR (lh_sub hl [0, 1, 3] rfl)
            · replace hw := if_t hw c10
              refine lv_iconst (v := 1) hX.1.1 hX.1.2.1 dX7_hasCall_40 (by decide) ?_
              refine lv_goto (tgt := 45) hX.1.1 hX.1.2.1 dX7_hasCall_41 (by decide) ?_
              exact J45 x3 true _ _ (by omega) (by omega) _ _ _ hw hR (lh_sub hl [0, 1, 3] rfl)
  refine rw_entry (ca1 rfl (ca1 rfl ca0)) (Nat.le_of_ble_eq_true rfl) (fun ls hl1 => ?_)
  replace hl := hl1
  clear hl1
  refine lv_iconst (v := 0) hX.1.1 hX.1.2.1 dX7_hasCall_0 (by decide) ?_
  refine rw_istore_n (lv' := [(2, .int 0), (0, .ref (gS γ 8 0)), (1, .int a1)]) hX hl (by decide) rfl dX7_hasCall_1 rfl (fun ls hl1 => ?_)
  replace hl := hl1
  clear hl1
  refine lv_iconst (v := 0) hX.1.1 hX.1.2.1 dX7_hasCall_2 (by decide) ?_
  refine rw_istore_n (lv' := [(3, .int 0), (2, .int 0), (0, .ref (gS γ 8 0)), (1, .int a1)]) hX hl (by decide) rfl dX7_hasCall_3 rfl (fun ls hl1 => ?_)
  replace hl := hl1
  clear hl1
  exact L4 a1 _ _ _ _ (by omega) (by omega) _ _ _ hw hR (lh_sub hl [2, 3, 1, 0] rfl)
set_option maxHeartbeats 8000000 in
set_option maxRecDepth 100000 in
theorem C_f8_isHeld (l : Launch) (γ : GT) (ad : Nat → Nat → Nat) {fu : Nat} (a1 : Int32) (σ : St) (r : Bool) (hw : f8_isHeld fu a1 σ = some r) : Met l yX7_isHeld (Cond.code yX7_isHeld cX7_isHeld 4 (Option.some Jvm.ClassFile.FieldType.boolean) :: GW) (rmo 2 0 0) (va_Pc [.ref (gS γ 8 0), .int a1] (RU γ ad σ)) (QI γ ad σ (b2i r)) 0 0 (gA γ) := by
  refine Met.ofW (cc := cX7_isHeld) (maxL := 4) (ret := (Option.some Jvm.ClassFile.FieldType.boolean)) (by decide +kernel) rfl ?_
  intro p e s m args below meth c s₁ B hml hv
  obtain ⟨rfl, hU⟩ := hv
  obtain ⟨hX, hR⟩ := cx_of (own := RX7) B hml rfl hU
  have hr := B.returns
  have hlocks := B.notSynchronized
  have hc0 : (0 : Nat) ≤ 0 := Nat.le_refl 0
  show W p l e (rmo 2 0 0) s m ([.ref (gS γ 8 0), .int a1] : List Value).toArray below meth c s.heap [] 0 0 (MQ below (QI γ ad σ (b2i r)) ([.ref (gS γ 8 0), .int a1] : List Value).toArray s 0 0 (gA γ)) (entryFrame m ([.ref (gS γ 8 0), .int a1] : List Value).toArray 4)
  unfold f8_isHeld at hw
  have L10 : ∀ (x1 : Int32) (n : Nat) (s9 : (Bool × Int32)) (cells slots : Nat), cells ≤ 0 → slots ≤ 0 → ∀ (H : Heap) (locs : List Loc) (ls : Array Slot), lp (fun s8 => f8_isHeld_b10 fu x1 s8.1 s8.2 σ) n s9 = some r → RS γ ad σ s H locs → lh ls 4 [(0, .ref (gS γ 8 0)), (1, .int x1), (2, .int (b2i s9.1)), (3, .int s9.2)] → W p l e (rmo 2 0 0) s m ([.ref (gS γ 8 0), .int a1] : List Value).toArray below meth c H locs cells slots (MQ below (QI γ ad σ (b2i r)) ([.ref (gS γ 8 0), .int a1] : List Value).toArray s 0 0 (gA γ)) (F0 m 10 ls []) := by
    intro x1 n10
    induction n10 with
    | zero => intro s9 cells slots hc1 hc2 H locs ls hw hR hl; exact (lp_zero hw).elim
    | succ n10 ih10 =>
      intro s9 cells slots hc1 hc2 H locs ls hw hR hl
      obtain ⟨o10, hw1, hb10, ho10⟩ := lp_succ hw
      replace hw := hw1
      clear hw1
      obtain ⟨x2, x3⟩ := s9
      replace hw : f8_isHeld_b10 fu x1 x2 x3 σ = some o10 := hw
      replace hl : lh ls 4 [(0, .ref (gS γ 8 0)), (1, .int x1), (2, .int (b2i x2)), (3, .int x3)] := hl
      unfold f8_isHeld_b10 at hw
      have J66 : ∀ (x3 : Int32) (y0 : Bool) (cells slots : Nat), cells ≤ 0 → slots ≤ 0 → ∀ (H : Heap) (locs : List Loc) (ls : Array Slot), f8_isHeld_j66 fu x1 x3 y0 σ = some o10 → RS γ ad σ s H locs → lh ls 4 [(0, .ref (gS γ 8 0)), (1, .int x1), (3, .int x3)] → W p l e (rmo 2 0 0) s m ([.ref (gS γ 8 0), .int a1] : List Value).toArray below meth c H locs cells slots (MQ below (QI γ ad σ (b2i r)) ([.ref (gS γ 8 0), .int a1] : List Value).toArray s 0 0 (gA γ)) (F0 m 66 ls [.int (b2i y0)]) := by
        intro x3 y0 cells slots hc1 hc2 H locs ls hw hR hl
        unfold f8_isHeld_j66 at hw
        refine rw_istore_n (lv' := [(2, .int (b2i y0)), (0, .ref (gS γ 8 0)), (1, .int x1), (3, .int x3)]) hX hl (by decide) rfl dX7_isHeld_66 rfl (fun ls hl1 => ?_)
        replace hl := hl1
        clear hl1
        refine rw_iinc (k := 3) (v := (x3 + 1)) (lv' := [(3, .int (x3 + 1)), (2, .int (b2i y0)), (0, .ref (gS γ 8 0)), (1, .int x1)]) hX hl rfl (congrArg (fun q => x3 + q) (show Int32.ofInt 1 = 1 by decide)) (by decide) rfl dX7_isHeld_67 (fun ls hl1 => ?_)
        replace hl := hl1
        clear hl1
        refine lv_goto (tgt := 10) hX.1.1 hX.1.2.1 dX7_isHeld_70 (by decide) ?_
        exact ih10 _ _ _ (by omega) (by omega) _ _ _ (lp_back hw hb10) hR (lh_sub hl [2, 3, 1, 0] rfl)
      refine rw_iload_n hX hl 3 rfl dX7_isHeld_10 rfl ?_
      refine rw_aload_n hX hl 0 rfl (Or.inr ⟨_, rfl⟩) dX7_isHeld_11 rfl ?_
      refine rw_get hX hR 8 3 0 (C := RX7) (T := TX7) (N := 48) rfl (by decide) (Nat.le_of_ble_eq_true rfl) rfl (v := .int (gi σ 803 0)) rfl uw_X7 gw_931 rfl dX7_isHeld_12 ?_
      refine lv_icmp_ge (x := x3) (y := (gi σ 803 0)) (tgt := 73) hX.1.1 hX.1.2.1 dX7_isHeld_15 (by decide) (fun c4 => ?_) (fun c4 => ?_)
      · replace hw := if_t hw c4
        replace hw := lp_out hw ho10
        refine rw_iload_n hX hl 2 rfl dX7_isHeld_73 rfl ?_
        refine W.widen (k := 0) (n := 0) (by omega) (by omega) ?_
        exact rq_z hX hR hr (v := x2) rfl hw dX7_isHeld_74 hlocks
      · replace hw := if_f hw c4
        refine rw_iload_n hX hl 2 rfl dX7_isHeld_18 rfl ?_
        refine rw_ifneZ (b := x2) (tgt := 61) hX dX7_isHeld_19 (by decide) (fun c5 => ?_) (fun c5 => ?_)
        · replace hw := if_t hw c5
          refine lv_iconst (v := 1) hX.1.1 hX.1.2.1 dX7_isHeld_61 (by decide) ?_
          refine lv_goto (tgt := 66) hX.1.1 hX.1.2.1 dX7_isHeld_62 (by decide) ?_
          exact J66 x3 true _ _ (by omega) (by omega) _ _ _ hw hR (lh_sub hl [0, 1, 3] rfl)
        · replace hw := if_f hw c5
          refine rw_aload_n hX hl 0 rfl (Or.inr ⟨_, rfl⟩) dX7_isHeld_22 rfl ?_
          refine rw_get hX hR 8 13 0 (C := RX7) (T := TX7) (N := 48) rfl (by decide) (Nat.le_of_ble_eq_true rfl) rfl (v := .ref (gS γ 1813 0)) rfl uw_X7 gw_941 rfl dX7_isHeld_23 ?_
          refine rw_iload_n hX hl 3 rfl dX7_isHeld_26 rfl ?_
          obtain ⟨h7, hw1⟩ := ar_some hw
          replace hw := hw1
          clear hw1
          obtain ⟨j6, ej6⟩ : ∃ j, (x3 : Int32).toNatClampNeg = j := ⟨_, rfl⟩
          rw [ej6] at hw
          refine rw_zald hX hR 813 (n := 24) (i := x3) (v := (gb σ 813 j6)) rfl (by decide) rfl rfl h7 (by rw [ej6]) dX7_isHeld_27 ?_
          refine rw_ifeqZ (b := (gb σ 813 j6)) (tgt := 65) hX dX7_isHeld_28 (by decide) (fun c8 => ?_) (fun c8 => ?_)
          · replace hw := if_f hw c8
            refine lv_iconst (v := 0) hX.1.1 hX.1.2.1 dX7_isHeld_65 (by decide) ?_
            exact J66 x3 false _ _ (by omega) (by omega) _ _ _ hw hR (lh_sub hl [0, 1, 3] rfl)
          · replace hw := if_t hw c8
            refine rw_aload_n hX hl 0 rfl (Or.inr ⟨_, rfl⟩) dX7_isHeld_31 rfl ?_
            refine rw_get hX hR 8 4 0 (C := RX7) (T := TX7) (N := 48) rfl (by decide) (Nat.le_of_ble_eq_true rfl) rfl (v := .ref (gS γ 1804 0)) rfl uw_X7 gw_932 rfl dX7_isHeld_32 ?_
            refine rw_iload_n hX hl 3 rfl dX7_isHeld_35 rfl ?_
            obtain ⟨h10, hw1⟩ := ar_some hw
            replace hw := hw1
            clear hw1
            obtain ⟨j9, ej9⟩ : ∃ j, (x3 : Int32).toNatClampNeg = j := ⟨_, rfl⟩
            rw [ej9] at hw
            refine rw_iald hX hR 804 (n := 24) (i := x3) (v := (gi σ 804 j9)) rfl (by decide) rfl rfl h10 (by rw [ej9]) dX7_isHeld_36 ?_
            refine rw_iload_n hX hl 1 rfl dX7_isHeld_37 rfl ?_
            refine lv_icmp_eq (x := (gi σ 804 j9)) (y := x1) (tgt := 61) hX.1.1 hX.1.2.1 dX7_isHeld_38 (by decide) (fun c11 => ?_) (fun c11 => ?_)
            · replace hw := if_t hw c11
              refine lv_iconst (v := 1) hX.1.1 hX.1.2.1 dX7_isHeld_61 (by decide) ?_
              refine lv_goto (tgt := 66) hX.1.1 hX.1.2.1 dX7_isHeld_62 (by decide) ?_
              exact J66 x3 true _ _ (by omega) (by omega) _ _ _ hw hR (lh_sub hl [0, 1, 3] rfl)
            · replace hw := if_f hw c11
              refine rw_aload_n hX hl 0 rfl (Or.inr ⟨_, rfl⟩) dX7_isHeld_41 rfl ?_
              refine rw_get hX hR 8 9 0 (C := RX7) (T := TX7) (N := 48) rfl (by decide) (Nat.le_of_ble_eq_true rfl) rfl (v := .ref (gS γ 1809 0)) rfl uw_X7 gw_937 rfl dX7_isHeld_42 ?_
              refine rw_iload_n hX hl 3 rfl dX7_isHeld_45 rfl ?_
              obtain ⟨h13, hw1⟩ := ar_some hw
              replace hw := hw1
              clear hw1
              obtain ⟨j12, ej12⟩ : ∃ j, (x3 : Int32).toNatClampNeg = j := ⟨_, rfl⟩
              rw [ej12] at hw
              refine rw_iald hX hR 809 (n := 24) (i := x3) (v := (gi σ 809 j12)) rfl (by decide) rfl rfl h13 (by rw [ej12]) dX7_isHeld_46 ?_
              refine rw_iload_n hX hl 1 rfl dX7_isHeld_47 rfl ?_
              refine lv_icmp_eq (x := (gi σ 809 j12)) (y := x1) (tgt := 61) hX.1.1 hX.1.2.1 dX7_isHeld_48 (by decide) (fun c14 => ?_) (fun c14 => ?_)
              · replace hw := if_t hw c14
                refine lv_iconst (v := 1) hX.1.1 hX.1.2.1 dX7_isHeld_61 (by decide) ?_
                refine lv_goto (tgt := 66) hX.1.1 hX.1.2.1 dX7_isHeld_62 (by decide) ?_
                exact J66 x3 true _ _ (by omega) (by omega) _ _ _ hw hR (lh_sub hl [0, 1, 3] rfl)
              · replace hw := if_f hw c14
                refine rw_aload_n hX hl 0 rfl (Or.inr ⟨_, rfl⟩) dX7_isHeld_51 rfl ?_
                refine rw_get hX hR 8 10 0 (C := RX7) (T := TX7) (N := 48) rfl (by decide) (Nat.le_of_ble_eq_true rfl) rfl (v := .ref (gS γ 1810 0)) rfl uw_X7 gw_938 rfl dX7_isHeld_52 ?_
                refine rw_iload_n hX hl 3 rfl dX7_isHeld_55 rfl ?_
                obtain ⟨h16, hw1⟩ := ar_some hw
                replace hw := hw1
                clear hw1
                obtain ⟨j15, ej15⟩ : ∃ j, (x3 : Int32).toNatClampNeg = j := ⟨_, rfl⟩
                rw [ej15] at hw
                refine rw_iald hX hR 810 (n := 24) (i := x3) (v := (gi σ 810 j15)) rfl (by decide) rfl rfl h16 (by rw [ej15]) dX7_isHeld_56 ?_
                refine rw_iload_n hX hl 1 rfl dX7_isHeld_57 rfl ?_
                refine lv_icmp_ne (x := (gi σ 810 j15)) (y := x1) (tgt := 65) hX.1.1 hX.1.2.1 dX7_isHeld_58 (by decide) (fun c17 => ?_) (fun c17 => ?_)
                · replace hw := if_f hw c17
                  refine lv_iconst (v := 0) hX.1.1 hX.1.2.1 dX7_isHeld_65 (by decide) ?_
                  exact J66 x3 false _ _ (by omega) (by omega) _ _ _ hw hR (lh_sub hl [0, 1, 3] rfl)
                · replace hw := if_t hw c17
                  refine lv_iconst (v := 1) hX.1.1 hX.1.2.1 dX7_isHeld_61 (by decide) ?_
                  refine lv_goto (tgt := 66) hX.1.1 hX.1.2.1 dX7_isHeld_62 (by decide) ?_
                  exact J66 x3 true _ _ (by omega) (by omega) _ _ _ hw hR (lh_sub hl [0, 1, 3] rfl)
  refine rw_entry (ca1 rfl (ca1 rfl ca0)) (Nat.le_of_ble_eq_true rfl) (fun ls hl1 => ?_)
  replace hl := hl1
  clear hl1
  refine rw_aload_n hX hl 0 rfl (Or.inr ⟨_, rfl⟩) dX7_isHeld_0 rfl ?_
  refine rw_iload_n hX hl 1 rfl dX7_isHeld_1 rfl ?_
  obtain ⟨v1, g3, hw1⟩ := ob1_some hw
  replace hw := hw1
  clear hw1
  refine rw_cVi hX hR pk_f8_hasCall (mc := 0) (ms := 0) ⟨rfl, rfl, (show 1 + 1 ≤ 2 by omega), (show 8 + (4 + 11) + 64 * 1 ≤ 64 * 2 by omega)⟩ (As := [.int a1]) (rest := []) rfl (C_f8_hasCall l γ ad a1 σ v1 g3) gw_1244 gw_1246 gs_76 (rs_recv hX hR 8 0 (C := RX7) (T := TX7) (N := 48) rfl (by decide) (Nat.le_of_ble_eq_true rfl) rfl) rfl hl.1 ca0 (Nat.le_of_ble_eq_true rfl) dX7_isHeld_2 ⟨(show 0 + 0 ≤ 0 by omega), (show 0 + 0 ≤ 0 by omega)⟩ (fun H locs hR1 => ?_)
  replace hR := hR1
  clear hR1
  refine rw_istore_n (lv' := [(2, .int (b2i v1)), (0, .ref (gS γ 8 0)), (1, .int a1)]) hX hl (by decide) rfl dX7_isHeld_5 rfl (fun ls hl1 => ?_)
  replace hl := hl1
  clear hl1
  refine rw_iload_n hX hl 2 rfl dX7_isHeld_6 rfl ?_
  refine lv_iconst (v := 1) hX.1.1 hX.1.2.1 dX7_isHeld_7 (by decide) ?_
  refine lv_iadd (x := a1) (y := 1) hX.1.1 hX.1.2.1 dX7_isHeld_8 ?_
  refine rw_istore_n (lv' := [(3, .int (a1 + 1)), (2, .int (b2i v1)), (0, .ref (gS γ 8 0)), (1, .int a1)]) hX hl (by decide) rfl dX7_isHeld_9 rfl (fun ls hl1 => ?_)
  replace hl := hl1
  clear hl1
  exact L10 a1 _ _ _ _ (by omega) (by omega) _ _ _ hw hR (lh_sub hl [2, 3, 1, 0] rfl)
set_option maxHeartbeats 8000000 in
set_option maxRecDepth 100000 in
theorem C_f8_tick (l : Launch) (γ : GT) (ad : Nat → Nat → Nat) {fu : Nat} (σ : St) (σ' : St) (hw : f8_tick fu σ = some σ') : Met l yX7_tick (Cond.code yX7_tick cX7_tick 3 (Option.none : Option Jvm.ClassFile.FieldType) :: GW) (rmo 3 0 0) (va_Pc [.ref (gS γ 8 0)] (RU γ ad σ)) (QV γ ad σ') 0 0 (gA γ) := by
  refine Met.ofW (cc := cX7_tick) (maxL := 3) (ret := (Option.none : Option Jvm.ClassFile.FieldType)) (by decide +kernel) rfl ?_
  intro p e s m args below meth c s₁ B hml hv
  obtain ⟨rfl, hU⟩ := hv
  obtain ⟨hX, hR⟩ := cx_of (own := RX7) B hml rfl hU
  have hr := B.returns
  have hlocks := B.notSynchronized
  have hc0 : (0 : Nat) ≤ 0 := Nat.le_refl 0
  show W p l e (rmo 3 0 0) s m ([.ref (gS γ 8 0)] : List Value).toArray below meth c s.heap [] 0 0 (MQ below (QV γ ad σ') ([.ref (gS γ 8 0)] : List Value).toArray s 0 0 (gA γ)) (entryFrame m ([.ref (gS γ 8 0)] : List Value).toArray 3)
  unfold f8_tick at hw
  have L158 : ∀ (n : Nat) (s9 : (Int32 × Int32 × St)) (cells slots : Nat), cells ≤ 0 → slots ≤ 0 → ∀ (H : Heap) (locs : List Loc) (ls : Array Slot), lp (fun s8 => f8_tick_b158 fu s8.1 s8.2.1 s8.2.2) n s9 = some σ' → RS γ ad (s9.2.2) s H locs → lh ls 3 [(0, .ref (gS γ 8 0)), (1, .int s9.1), (2, .int s9.2.1)] → W p l e (rmo 3 0 0) s m ([.ref (gS γ 8 0)] : List Value).toArray below meth c H locs cells slots (MQ below (QV γ ad σ') ([.ref (gS γ 8 0)] : List Value).toArray s 0 0 (gA γ)) (F0 m 158 ls []) := by
    intro n158
    induction n158 with
    | zero => intro s9 cells slots hc1 hc2 H locs ls hw hR hl; exact (lp_zero hw).elim
    | succ n158 ih158 =>
      intro s9 cells slots hc1 hc2 H locs ls hw hR hl
      obtain ⟨o158, hw1, hb158, ho158⟩ := lp_succ hw
      replace hw := hw1
      clear hw1
      obtain ⟨x1, x2, σ⟩ := s9
      replace hw : f8_tick_b158 fu x1 x2 σ = some o158 := hw
      replace hR : RS γ ad σ s H locs := hR
      replace hl : lh ls 3 [(0, .ref (gS γ 8 0)), (1, .int x1), (2, .int x2)] := hl
      unfold f8_tick_b158 at hw
      refine rw_iload_n hX hl 2 rfl dX7_tick_158 rfl ?_
      refine lv_iconst (v := (-1)) hX.1.1 hX.1.2.1 dX7_tick_159 (by decide) ?_
      refine lv_icmp_eq (x := x2) (y := (-1)) (tgt := 185) hX.1.1 hX.1.2.1 dX7_tick_160 (by decide) (fun c6 => ?_) (fun c6 => ?_)
      · replace hw := if_t hw c6
        replace hw := lp_out hw ho158
        refine W.widen (k := 0) (n := 0) (by omega) (by omega) ?_
        exact rq_ve hX hR hr hw dX7_tick_185 hlocks
      · replace hw := if_f hw c6
        refine rw_aload_n hX hl 0 rfl (Or.inr ⟨_, rfl⟩) dX7_tick_163 rfl ?_
        refine rw_iload_n hX hl 2 rfl dX7_tick_164 rfl ?_
        obtain ⟨σ8, g9, hw1⟩ := ob1_some hw
        replace hw := hw1
        clear hw1
        refine rw_cVv hX hR pk_f8_fallsAsleep (mc := 0) (ms := 0) ⟨rfl, rfl, (show 2 + 1 ≤ 3 by omega), (show 8 + (2 + 11) + 64 * 2 ≤ 64 * 3 by omega)⟩ (As := [.int x2]) (rest := []) rfl (C_f8_fallsAsleep l γ ad x2 σ σ8 g9) gw_1248 gw_1250 gs_77 (rs_recv hX hR 8 0 (C := RX7) (T := TX7) (N := 48) rfl (by decide) (Nat.le_of_ble_eq_true rfl) rfl) rfl hl.1 ca0 (Nat.le_of_ble_eq_true rfl) dX7_tick_165 ⟨(show cells + 0 ≤ 0 by omega), (show slots + 0 ≤ 0 by omega)⟩ (fun H locs hR1 => ?_)
        replace hR := hR1
        clear hR1
        refine rw_iload_n hX hl 1 rfl dX7_tick_168 rfl ?_
        refine lv_iconst (v := 1) hX.1.1 hX.1.2.1 dX7_tick_169 (by decide) ?_
        refine rw_iload_n hX hl 2 rfl dX7_tick_170 rfl ?_
        refine lv_ishl (x := 1) (y := x2) hX.1.1 hX.1.2.1 dX7_tick_171 ?_
        refine lv_iconst (v := (-1)) hX.1.1 hX.1.2.1 dX7_tick_172 (by decide) ?_
        refine lv_ixor (x := (1 <<< (x2 &&& 31))) (y := (-1)) hX.1.1 hX.1.2.1 dX7_tick_173 ?_
        refine lv_iand (x := x1) (y := ((1 <<< (x2 &&& 31)) ^^^ (-1))) hX.1.1 hX.1.2.1 dX7_tick_174 ?_
        refine rw_istore_n (lv' := [(1, .int (x1 &&& ((1 <<< (x2 &&& 31)) ^^^ (-1)))), (0, .ref (gS γ 8 0)), (2, .int x2)]) hX hl (by decide) rfl dX7_tick_175 rfl (fun ls hl1 => ?_)
        replace hl := hl1
        clear hl1
        refine rw_aload_n hX hl 1 rfl (Or.inr ⟨_, rfl⟩) dX7_tick_176 rfl ?_
        refine rw_iload_n hX hl 0 rfl dX7_tick_177 rfl ?_
        obtain ⟨v10, g12, hw1⟩ := ob1_some hw
        replace hw := hw1
        clear hw1
        refine rw_cVi hX hR pk_f8_lastOf (mc := 0) (ms := 0) ⟨rfl, rfl, (show 2 + 1 ≤ 3 by omega), (show 8 + (4 + 11) + 64 * 2 ≤ 64 * 3 by omega)⟩ (As := [.int (x1 &&& ((1 <<< (x2 &&& 31)) ^^^ (-1)))]) (rest := []) rfl (C_f8_lastOf l γ ad (x1 &&& ((1 <<< (x2 &&& 31)) ^^^ (-1))) σ8 v10 g12) gw_1152 gw_1154 gs_67 (rs_recv hX hR 8 0 (C := RX7) (T := TX7) (N := 48) rfl (by decide) (Nat.le_of_ble_eq_true rfl) rfl) rfl hl.1 ca0 (Nat.le_of_ble_eq_true rfl) dX7_tick_178 ⟨(show (cells + 0) + 0 ≤ 0 by omega), (show (slots + 0) + 0 ≤ 0 by omega)⟩ (fun H locs hR1 => ?_)
        replace hR := hR1
        clear hR1
        refine rw_istore_n (lv' := [(2, .int v10), (1, .int (x1 &&& ((1 <<< (x2 &&& 31)) ^^^ (-1)))), (0, .ref (gS γ 8 0))]) hX hl (by decide) rfl dX7_tick_181 rfl (fun ls hl1 => ?_)
        replace hl := hl1
        clear hl1
        refine lv_goto (tgt := 158) hX.1.1 hX.1.2.1 dX7_tick_182 (by decide) ?_
        exact ih158 _ _ _ (by omega) (by omega) _ _ _ (lp_back hw hb158) hR (lh_sub hl [2, 1, 0] rfl)
  have L68 : ∀ (n : Nat) (s9 : (Int32 × Int32 × St)) (cells slots : Nat), cells ≤ 0 → slots ≤ 0 → ∀ (H : Heap) (locs : List Loc) (ls : Array Slot), lp (fun s8 => f8_tick_b68 fu s8.1 s8.2.1 s8.2.2) n s9 = some σ' → RS γ ad (s9.2.2) s H locs → lh ls 3 [(0, .ref (gS γ 8 0)), (1, .int s9.1), (2, .int s9.2.1)] → W p l e (rmo 3 0 0) s m ([.ref (gS γ 8 0)] : List Value).toArray below meth c H locs cells slots (MQ below (QV γ ad σ') ([.ref (gS γ 8 0)] : List Value).toArray s 0 0 (gA γ)) (F0 m 68 ls []) := by
    intro n68
    induction n68 with
    | zero => intro s9 cells slots hc1 hc2 H locs ls hw hR hl; exact (lp_zero hw).elim
    | succ n68 ih68 =>
      intro s9 cells slots hc1 hc2 H locs ls hw hR hl
      obtain ⟨o68, hw1, hb68, ho68⟩ := lp_succ hw
      replace hw := hw1
      clear hw1
      obtain ⟨x1, x2, σ⟩ := s9
      replace hw : f8_tick_b68 fu x1 x2 σ = some o68 := hw
      replace hR : RS γ ad σ s H locs := hR
      replace hl : lh ls 3 [(0, .ref (gS γ 8 0)), (1, .int x1), (2, .int x2)] := hl
      unfold f8_tick_b68 at hw
      have J144 : ∀ (x2 : Int32) (y0 : Int32) (y1 : Int32) (σ : St) (cells slots : Nat), cells ≤ 0 → slots ≤ 0 → ∀ (H : Heap) (locs : List Loc) (ls : Array Slot), f8_tick_j144 fu x2 y0 y1 σ = some o68 → RS γ ad σ s H locs → lh ls 3 [(0, .ref (gS γ 8 0)), (2, .int x2)] → W p l e (rmo 3 0 0) s m ([.ref (gS γ 8 0)] : List Value).toArray below meth c H locs cells slots (MQ below (QV γ ad σ') ([.ref (gS γ 8 0)] : List Value).toArray s 0 0 (gA γ)) (F0 m 144 ls [.int y1, .int y0]) := by
        intro x2 y0 y1 σ cells slots hc1 hc2 H locs ls hw hR hl
        unfold f8_tick_j144 at hw
        refine lv_ior (x := y0) (y := y1) hX.1.1 hX.1.2.1 dX7_tick_144 ?_
        refine rw_istore_n (lv' := [(1, .int (y0 ||| y1)), (0, .ref (gS γ 8 0)), (2, .int x2)]) hX hl (by decide) rfl dX7_tick_145 rfl (fun ls hl1 => ?_)
        replace hl := hl1
        clear hl1
        refine rw_iinc (k := 2) (v := (x2 + 1)) (lv' := [(2, .int (x2 + 1)), (1, .int (y0 ||| y1)), (0, .ref (gS γ 8 0))]) hX hl rfl (congrArg (fun q => x2 + q) (show Int32.ofInt 1 = 1 by decide)) (by decide) rfl dX7_tick_146 (fun ls hl1 => ?_)
        replace hl := hl1
        clear hl1
        refine lv_goto (tgt := 68) hX.1.1 hX.1.2.1 dX7_tick_149 (by decide) ?_
        exact ih68 _ _ _ (by omega) (by omega) _ _ _ (lp_back hw hb68) hR (lh_sub hl [2, 1, 0] rfl)
      have J111 : ∀ (x1 : Int32) (x2 : Int32) (y1 : Int32) (y2 : Int32) (σ : St) (cells slots : Nat), cells ≤ 0 → slots ≤ 0 → ∀ (H : Heap) (locs : List Loc) (ls : Array Slot), f8_tick_j111 fu x1 x2 y1 y2 σ = some o68 → RS γ ad σ s H locs → lh ls 3 [(0, .ref (gS γ 8 0)), (1, .int x1), (2, .int x2)] → W p l e (rmo 3 0 0) s m ([.ref (gS γ 8 0)] : List Value).toArray below meth c H locs cells slots (MQ below (QV γ ad σ') ([.ref (gS γ 8 0)] : List Value).toArray s 0 0 (gA γ)) (F0 m 111 ls [.int y2, .int y1, .ref (gS γ 1821 0)]) := by
        intro x1 x2 y1 y2 σ cells slots hc1 hc2 H locs ls hw hR hl
        unfold f8_tick_j111 at hw
        obtain ⟨h19, hw1⟩ := ar_some hw
        replace hw := hw1
        clear hw1
        obtain ⟨j18, ej18⟩ : ∃ j, (y1 : Int32).toNatClampNeg = j := ⟨_, rfl⟩
        rw [ej18] at hw
        refine rw_iast hX hR 821 (n := 24) (i := y1) (x := y2) rfl (by decide) rfl rfl h19 dX7_tick_111 (fun σ1 H locs e1 hR1 => ?_)
        replace hR := hR1
        clear hR1
        rw [ej18] at e1
        subst e1
        refine rw_iload_n hX hl 1 rfl dX7_tick_112 rfl ?_
        refine rw_aload_n hX hl 0 rfl (Or.inr ⟨_, rfl⟩) dX7_tick_113 rfl ?_
        refine rw_get hX hR 8 13 0 (C := RX7) (T := TX7) (N := 48) rfl (by decide) (Nat.le_of_ble_eq_true rfl) rfl (v := .ref (gS γ 1813 0)) rfl uw_X7 gw_941 rfl dX7_tick_114 ?_
        refine rw_iload_n hX hl 2 rfl dX7_tick_117 rfl ?_
        obtain ⟨h21, hw1⟩ := ar_some hw
        replace hw := hw1
        clear hw1
        obtain ⟨j20, ej20⟩ : ∃ j, (x2 : Int32).toNatClampNeg = j := ⟨_, rfl⟩
        rw [ej20] at hw
        refine rw_zald hX hR 813 (n := 24) (i := x2) (v := (gb (zi σ 821 j18 y2) 813 j20)) rfl (by decide) rfl rfl h21 (by rw [ej20]) dX7_tick_118 ?_
        refine rw_ifeqZ (b := (gb (zi σ 821 j18 y2) 813 j20)) (tgt := 143) hX dX7_tick_119 (by decide) (fun c22 => ?_) (fun c22 => ?_)
        · replace hw := if_f hw c22
          refine lv_iconst (v := 0) hX.1.1 hX.1.2.1 dX7_tick_143 (by decide) ?_
          exact J144 x2 x1 0 (zi σ 821 j18 y2) _ _ (by omega) (by omega) _ _ _ hw hR (lh_sub hl [0, 2] rfl)
        · replace hw := if_t hw c22
          refine rw_aload_n hX hl 0 rfl (Or.inr ⟨_, rfl⟩) dX7_tick_122 rfl ?_
          refine rw_get hX hR 8 1 0 (C := RX7) (T := TX7) (N := 48) rfl (by decide) (Nat.le_of_ble_eq_true rfl) rfl (v := .int (gi (zi σ 821 j18 y2) 801 0)) rfl uw_X7 gw_929 rfl dX7_tick_123 ?_
          refine rw_aload_n hX hl 0 rfl (Or.inr ⟨_, rfl⟩) dX7_tick_126 rfl ?_
          refine rw_get hX hR 8 21 0 (C := RX7) (T := TX7) (N := 48) rfl (by decide) (Nat.le_of_ble_eq_true rfl) rfl (v := .ref (gS γ 1821 0)) rfl uw_X7 gw_949 rfl dX7_tick_127 ?_
          refine rw_iload_n hX hl 2 rfl dX7_tick_130 rfl ?_
          obtain ⟨h24, hw1⟩ := ar_some hw
          replace hw := hw1
          clear hw1
          obtain ⟨j23, ej23⟩ : ∃ j, (x2 : Int32).toNatClampNeg = j := ⟨_, rfl⟩
          rw [ej23] at hw
          refine rw_iald hX hR 821 (n := 24) (i := x2) (v := (gi (zi σ 821 j18 y2) 821 j23)) rfl (by decide) rfl rfl h24 (by rw [ej23]) dX7_tick_131 ?_
          refine lv_isub (x := (gi (zi σ 821 j18 y2) 801 0)) (y := (gi (zi σ 821 j18 y2) 821 j23)) hX.1.1 hX.1.2.1 dX7_tick_132 ?_
          refine lv_iconst (v := 5) hX.1.1 hX.1.2.1 dX7_tick_133 (by decide) ?_
          refine lv_icmp_lt (x := ((gi (zi σ 821 j18 y2) 801 0) - (gi (zi σ 821 j18 y2) 821 j23))) (y := 5) (tgt := 143) hX.1.1 hX.1.2.1 dX7_tick_134 (by decide) (fun c25 => ?_) (fun c25 => ?_)
          · replace hw := if_t hw c25
            refine lv_iconst (v := 0) hX.1.1 hX.1.2.1 dX7_tick_143 (by decide) ?_
            exact J144 x2 x1 0 (zi σ 821 j18 y2) _ _ (by omega) (by omega) _ _ _ hw hR (lh_sub hl [0, 2] rfl)
          · replace hw := if_f hw c25
            refine lv_iconst (v := 1) hX.1.1 hX.1.2.1 dX7_tick_137 (by decide) ?_
            refine rw_iload_n hX hl 2 rfl dX7_tick_138 rfl ?_
            refine lv_ishl (x := 1) (y := x2) hX.1.1 hX.1.2.1 dX7_tick_139 ?_
            refine lv_goto (tgt := 144) hX.1.1 hX.1.2.1 dX7_tick_140 (by decide) ?_
            exact J144 x2 x1 (1 <<< (x2 &&& 31)) (zi σ 821 j18 y2) _ _ (by omega) (by omega) _ _ _ hw hR (lh_sub hl [0, 2] rfl)
      have J105 : ∀ (x1 : Int32) (x2 : Int32) (y1 : Int32) (σ : St) (cells slots : Nat), cells ≤ 0 → slots ≤ 0 → ∀ (H : Heap) (locs : List Loc) (ls : Array Slot), f8_tick_j105 fu x1 x2 y1 σ = some o68 → RS γ ad σ s H locs → lh ls 3 [(0, .ref (gS γ 8 0)), (1, .int x1), (2, .int x2)] → W p l e (rmo 3 0 0) s m ([.ref (gS γ 8 0)] : List Value).toArray below meth c H locs cells slots (MQ below (QV γ ad σ') ([.ref (gS γ 8 0)] : List Value).toArray s 0 0 (gA γ)) (F0 m 105 ls [.int y1, .ref (gS γ 1821 0)]) := by
        intro x1 x2 y1 σ cells slots hc1 hc2 H locs ls hw hR hl
        unfold f8_tick_j105 at hw
        refine rw_aload_n hX hl 0 rfl (Or.inr ⟨_, rfl⟩) dX7_tick_105 rfl ?_
        refine rw_get hX hR 8 21 0 (C := RX7) (T := TX7) (N := 48) rfl (by decide) (Nat.le_of_ble_eq_true rfl) rfl (v := .ref (gS γ 1821 0)) rfl uw_X7 gw_949 rfl dX7_tick_106 ?_
        refine rw_iload_n hX hl 2 rfl dX7_tick_109 rfl ?_
        obtain ⟨h17, hw1⟩ := ar_some hw
        replace hw := hw1
        clear hw1
        obtain ⟨j16, ej16⟩ : ∃ j, (x2 : Int32).toNatClampNeg = j := ⟨_, rfl⟩
        rw [ej16] at hw
        refine rw_iald hX hR 821 (n := 24) (i := x2) (v := (gi σ 821 j16)) rfl (by decide) rfl rfl h17 (by rw [ej16]) dX7_tick_110 ?_
        exact J111 x1 x2 y1 (gi σ 821 j16) σ _ _ (by omega) (by omega) _ _ _ hw hR (lh_sub hl [0, 1, 2] rfl)
      refine rw_iload_n hX hl 2 rfl dX7_tick_68 rfl ?_
      refine rw_aload_n hX hl 0 rfl (Or.inr ⟨_, rfl⟩) dX7_tick_69 rfl ?_
      refine rw_get hX hR 8 3 0 (C := RX7) (T := TX7) (N := 48) rfl (by decide) (Nat.le_of_ble_eq_true rfl) rfl (v := .int (gi σ 803 0)) rfl uw_X7 gw_931 rfl dX7_tick_70 ?_
      refine lv_icmp_ge (x := x2) (y := (gi σ 803 0)) (tgt := 152) hX.1.1 hX.1.2.1 dX7_tick_73 (by decide) (fun c2 => ?_) (fun c2 => ?_)
      · replace hw := if_t hw c2
        replace hw := lp_out hw ho68
        refine rw_aload_n hX hl 0 rfl (Or.inr ⟨_, rfl⟩) dX7_tick_152 rfl ?_
        refine rw_iload_n hX hl 1 rfl dX7_tick_153 rfl ?_
        obtain ⟨v3, g5, hw1⟩ := ob1_some hw
        replace hw := hw1
        clear hw1
        refine rw_cVi hX hR pk_f8_lastOf (mc := 0) (ms := 0) ⟨rfl, rfl, (show 2 + 1 ≤ 3 by omega), (show 8 + (4 + 11) + 64 * 2 ≤ 64 * 3 by omega)⟩ (As := [.int x1]) (rest := []) rfl (C_f8_lastOf l γ ad x1 σ v3 g5) gw_1152 gw_1154 gs_67 (rs_recv hX hR 8 0 (C := RX7) (T := TX7) (N := 48) rfl (by decide) (Nat.le_of_ble_eq_true rfl) rfl) rfl hl.1 ca0 (Nat.le_of_ble_eq_true rfl) dX7_tick_154 ⟨(show cells + 0 ≤ 0 by omega), (show slots + 0 ≤ 0 by omega)⟩ (fun H locs hR1 => ?_)
        replace hR := hR1
        clear hR1
        refine rw_istore_n (lv' := [(2, .int v3), (0, .ref (gS γ 8 0)), (1, .int x1)]) hX hl (by decide) rfl dX7_tick_157 rfl (fun ls hl1 => ?_)
        replace hl := hl1
        clear hl1
        exact L158 _ _ _ _ (by omega) (by omega) _ _ _ hw hR (lh_sub hl [1, 2, 0] rfl)
      · replace hw := if_f hw c2
        refine rw_aload_n hX hl 0 rfl (Or.inr ⟨_, rfl⟩) dX7_tick_76 rfl ?_
        refine rw_get hX hR 8 21 0 (C := RX7) (T := TX7) (N := 48) rfl (by decide) (Nat.le_of_ble_eq_true rfl) rfl (v := .ref (gS γ 1821 0)) rfl uw_X7 gw_949 rfl dX7_tick_77 ?_
        refine rw_iload_n hX hl 2 rfl dX7_tick_80 rfl ?_
        refine rw_aload_n hX hl 0 rfl (Or.inr ⟨_, rfl⟩) dX7_tick_81 rfl ?_
        refine rw_get hX hR 8 13 0 (C := RX7) (T := TX7) (N := 48) rfl (by decide) (Nat.le_of_ble_eq_true rfl) rfl (v := .ref (gS γ 1813 0)) rfl uw_X7 gw_941 rfl dX7_tick_82 ?_
        refine rw_iload_n hX hl 2 rfl dX7_tick_85 rfl ?_
        obtain ⟨h14, hw1⟩ := ar_some hw
        replace hw := hw1
        clear hw1
        obtain ⟨j13, ej13⟩ : ∃ j, (x2 : Int32).toNatClampNeg = j := ⟨_, rfl⟩
        rw [ej13] at hw
        refine rw_zald hX hR 813 (n := 24) (i := x2) (v := (gb σ 813 j13)) rfl (by decide) rfl rfl h14 (by rw [ej13]) dX7_tick_86 ?_
        refine rw_ifeqZ (b := (gb σ 813 j13)) (tgt := 105) hX dX7_tick_87 (by decide) (fun c15 => ?_) (fun c15 => ?_)
        · replace hw := if_f hw c15
          exact J105 x1 x2 x2 σ _ _ (by omega) (by omega) _ _ _ hw hR (lh_sub hl [0, 1, 2] rfl)
        · replace hw := if_t hw c15
          refine rw_aload_n hX hl 0 rfl (Or.inr ⟨_, rfl⟩) dX7_tick_90 rfl ?_
          refine rw_iload_n hX hl 2 rfl dX7_tick_91 rfl ?_
          obtain ⟨v26, g28, hw1⟩ := ob1_some hw
          replace hw := hw1
          clear hw1
          refine rw_cVi hX hR pk_f8_isHeld (mc := 0) (ms := 0) ⟨rfl, rfl, (show 2 + 1 ≤ 3 by omega), (show 8 + (4 + 11) + 64 * 2 ≤ 64 * 3 by omega)⟩ (As := [.int x2]) (rest := [.int x2, .ref (gS γ 1821 0)]) rfl (C_f8_isHeld l γ ad x2 σ v26 g28) gw_1240 gw_1242 gs_75 (rs_recv hX hR 8 0 (C := RX7) (T := TX7) (N := 48) rfl (by decide) (Nat.le_of_ble_eq_true rfl) rfl) rfl hl.1 (ca1 rfl (ca1 rfl ca0)) (Nat.le_of_ble_eq_true rfl) dX7_tick_92 ⟨(show cells + 0 ≤ 0 by omega), (show slots + 0 ≤ 0 by omega)⟩ (fun H locs hR1 => ?_)
          replace hR := hR1
          clear hR1
          refine rw_ifeqZ (b := v26) (tgt := 105) hX dX7_tick_95 (by decide) (fun c29 => ?_) (fun c29 => ?_)
          · replace hw := if_f hw c29
            exact J105 x1 x2 x2 σ _ _ (by omega) (by omega) _ _ _ hw hR (lh_sub hl [0, 1, 2] rfl)
          · replace hw := if_t hw c29
            refine rw_aload_n hX hl 0 rfl (Or.inr ⟨_, rfl⟩) dX7_tick_98 rfl ?_
            refine rw_get hX hR 8 1 0 (C := RX7) (T := TX7) (N := 48) rfl (by decide) (Nat.le_of_ble_eq_true rfl) rfl (v := .int (gi σ 801 0)) rfl uw_X7 gw_929 rfl dX7_tick_99 ?_
            refine lv_goto (tgt := 111) hX.1.1 hX.1.2.1 dX7_tick_102 (by decide) ?_
            exact J111 x1 x2 x2 (gi σ 801 0) σ _ _ (by omega) (by omega) _ _ _ hw hR (lh_sub hl [0, 1, 2] rfl)
  have L12 : ∀ (n : Nat) (s9 : (Int32 × St)) (cells slots : Nat), cells ≤ 0 → slots ≤ 0 → ∀ (H : Heap) (locs : List Loc) (ls : Array Slot), lp (fun s8 => f8_tick_b12 fu s8.1 s8.2) n s9 = some σ' → RS γ ad (s9.2) s H locs → lh ls 3 [(0, .ref (gS γ 8 0)), (1, .int s9.1)] → W p l e (rmo 3 0 0) s m ([.ref (gS γ 8 0)] : List Value).toArray below meth c H locs cells slots (MQ below (QV γ ad σ') ([.ref (gS γ 8 0)] : List Value).toArray s 0 0 (gA γ)) (F0 m 12 ls []) := by
    intro n12
    induction n12 with
    | zero => intro s9 cells slots hc1 hc2 H locs ls hw hR hl; exact (lp_zero hw).elim
    | succ n12 ih12 =>
      intro s9 cells slots hc1 hc2 H locs ls hw hR hl
      obtain ⟨o12, hw1, hb12, ho12⟩ := lp_succ hw
      replace hw := hw1
      clear hw1
      obtain ⟨x1, σ⟩ := s9
      replace hw : f8_tick_b12 fu x1 σ = some o12 := hw
      replace hR : RS γ ad σ s H locs := hR
      replace hl : lh ls 3 [(0, .ref (gS γ 8 0)), (1, .int x1)] := hl
      unfold f8_tick_b12 at hw
      have J57 : ∀ (x1 : Int32) (y1 : Int32) (y2 : Int32) (σ : St) (cells slots : Nat), cells ≤ 0 → slots ≤ 0 → ∀ (H : Heap) (locs : List Loc) (ls : Array Slot), f8_tick_j57 fu x1 y1 y2 σ = some o12 → RS γ ad σ s H locs → lh ls 3 [(0, .ref (gS γ 8 0)), (1, .int x1)] → W p l e (rmo 3 0 0) s m ([.ref (gS γ 8 0)] : List Value).toArray below meth c H locs cells slots (MQ below (QV γ ad σ') ([.ref (gS γ 8 0)] : List Value).toArray s 0 0 (gA γ)) (F0 m 57 ls [.int y2, .int y1, .ref (gS γ 1837 0)]) := by
        intro x1 y1 y2 σ cells slots hc1 hc2 H locs ls hw hR hl
        unfold f8_tick_j57 at hw
        obtain ⟨h36, hw1⟩ := ar_some hw
        replace hw := hw1
        clear hw1
        obtain ⟨j35, ej35⟩ : ∃ j, (y1 : Int32).toNatClampNeg = j := ⟨_, rfl⟩
        rw [ej35] at hw
        refine rw_iast hX hR 837 (n := 100) (i := y1) (x := y2) rfl (by decide) rfl rfl h36 dX7_tick_57 (fun σ1 H locs e1 hR1 => ?_)
        replace hR := hR1
        clear hR1
        rw [ej35] at e1
        subst e1
        refine rw_iinc (k := 1) (v := (x1 + 1)) (lv' := [(1, .int (x1 + 1)), (0, .ref (gS γ 8 0))]) hX hl rfl (congrArg (fun q => x1 + q) (show Int32.ofInt 1 = 1 by decide)) (by decide) rfl dX7_tick_58 (fun ls hl1 => ?_)
        replace hl := hl1
        clear hl1
        refine lv_goto (tgt := 12) hX.1.1 hX.1.2.1 dX7_tick_61 (by decide) ?_
        exact ih12 _ _ _ (by omega) (by omega) _ _ _ (lp_back hw hb12) hR (lh_sub hl [1, 0] rfl)
      have J51 : ∀ (x1 : Int32) (y1 : Int32) (σ : St) (cells slots : Nat), cells ≤ 0 → slots ≤ 0 → ∀ (H : Heap) (locs : List Loc) (ls : Array Slot), f8_tick_j51 fu x1 y1 σ = some o12 → RS γ ad σ s H locs → lh ls 3 [(0, .ref (gS γ 8 0)), (1, .int x1)] → W p l e (rmo 3 0 0) s m ([.ref (gS γ 8 0)] : List Value).toArray below meth c H locs cells slots (MQ below (QV γ ad σ') ([.ref (gS γ 8 0)] : List Value).toArray s 0 0 (gA γ)) (F0 m 51 ls [.int y1, .ref (gS γ 1837 0)]) := by
        intro x1 y1 σ cells slots hc1 hc2 H locs ls hw hR hl
        unfold f8_tick_j51 at hw
        refine rw_aload_n hX hl 0 rfl (Or.inr ⟨_, rfl⟩) dX7_tick_51 rfl ?_
        refine rw_get hX hR 8 37 0 (C := RX7) (T := TX7) (N := 48) rfl (by decide) (Nat.le_of_ble_eq_true rfl) rfl (v := .ref (gS γ 1837 0)) rfl uw_X7 gw_965 rfl dX7_tick_52 ?_
        refine rw_iload_n hX hl 1 rfl dX7_tick_55 rfl ?_
        obtain ⟨h34, hw1⟩ := ar_some hw
        replace hw := hw1
        clear hw1
        obtain ⟨j33, ej33⟩ : ∃ j, (x1 : Int32).toNatClampNeg = j := ⟨_, rfl⟩
        rw [ej33] at hw
        refine rw_iald hX hR 837 (n := 100) (i := x1) (v := (gi σ 837 j33)) rfl (by decide) rfl rfl h34 (by rw [ej33]) dX7_tick_56 ?_
        exact J57 x1 y1 (gi σ 837 j33) σ _ _ (by omega) (by omega) _ _ _ hw hR (lh_sub hl [0, 1] rfl)
      refine rw_iload_n hX hl 1 rfl dX7_tick_12 rfl ?_
      refine rw_aload_n hX hl 0 rfl (Or.inr ⟨_, rfl⟩) dX7_tick_13 rfl ?_
      refine rw_get hX hR 8 34 0 (C := RX7) (T := TX7) (N := 48) rfl (by decide) (Nat.le_of_ble_eq_true rfl) rfl (v := .int (gi σ 834 0)) rfl uw_X7 gw_962 rfl dX7_tick_14 ?_
      refine lv_icmp_ge (x := x1) (y := (gi σ 834 0)) (tgt := 64) hX.1.1 hX.1.2.1 dX7_tick_17 (by decide) (fun c1 => ?_) (fun c1 => ?_)
      · replace hw := if_t hw c1
        replace hw := lp_out hw ho12
        refine lv_iconst (v := 0) hX.1.1 hX.1.2.1 dX7_tick_64 (by decide) ?_
        refine rw_istore_n (lv' := [(1, .int 0), (0, .ref (gS γ 8 0))]) hX hl (by decide) rfl dX7_tick_65 rfl (fun ls hl1 => ?_)
        replace hl := hl1
        clear hl1
        refine lv_iconst (v := 0) hX.1.1 hX.1.2.1 dX7_tick_66 (by decide) ?_
        refine rw_istore_n (lv' := [(2, .int 0), (1, .int 0), (0, .ref (gS γ 8 0))]) hX hl (by decide) rfl dX7_tick_67 rfl (fun ls hl1 => ?_)
        replace hl := hl1
        clear hl1
        exact L68 _ _ _ _ (by omega) (by omega) _ _ _ hw hR (lh_sub hl [2, 1, 0] rfl)
      · replace hw := if_f hw c1
        refine rw_aload_n hX hl 0 rfl (Or.inr ⟨_, rfl⟩) dX7_tick_20 rfl ?_
        refine rw_get hX hR 8 37 0 (C := RX7) (T := TX7) (N := 48) rfl (by decide) (Nat.le_of_ble_eq_true rfl) rfl (v := .ref (gS γ 1837 0)) rfl uw_X7 gw_965 rfl dX7_tick_21 ?_
        refine rw_iload_n hX hl 1 rfl dX7_tick_24 rfl ?_
        refine rw_aload_n hX hl 0 rfl (Or.inr ⟨_, rfl⟩) dX7_tick_25 rfl ?_
        refine rw_get hX hR 8 37 0 (C := RX7) (T := TX7) (N := 48) rfl (by decide) (Nat.le_of_ble_eq_true rfl) rfl (v := .ref (gS γ 1837 0)) rfl uw_X7 gw_965 rfl dX7_tick_26 ?_
        refine rw_iload_n hX hl 1 rfl dX7_tick_29 rfl ?_
        obtain ⟨h31, hw1⟩ := ar_some hw
        replace hw := hw1
        clear hw1
        obtain ⟨j30, ej30⟩ : ∃ j, (x1 : Int32).toNatClampNeg = j := ⟨_, rfl⟩
        rw [ej30] at hw
        refine rw_iald hX hR 837 (n := 100) (i := x1) (v := (gi σ 837 j30)) rfl (by decide) rfl rfl h31 (by rw [ej30]) dX7_tick_30 ?_
        refine lv_if_ne (x := (gi σ 837 j30)) (tgt := 51) hX.1.1 hX.1.2.1 dX7_tick_31 (by decide) (fun c32 => ?_) (fun c32 => ?_)
        · replace hw := if_f hw c32
          exact J51 x1 x1 σ _ _ (by omega) (by omega) _ _ _ hw hR (lh_sub hl [0, 1] rfl)
        · replace hw := if_t hw c32
          refine rw_aload_n hX hl 0 rfl (Or.inr ⟨_, rfl⟩) dX7_tick_34 rfl ?_
          refine rw_get hX hR 8 36 0 (C := RX7) (T := TX7) (N := 48) rfl (by decide) (Nat.le_of_ble_eq_true rfl) rfl (v := .ref (gS γ 1836 0)) rfl uw_X7 gw_964 rfl dX7_tick_35 ?_
          refine rw_iload_n hX hl 1 rfl dX7_tick_38 rfl ?_
          obtain ⟨h38, hw1⟩ := ar_some hw
          replace hw := hw1
          clear hw1
          obtain ⟨j37, ej37⟩ : ∃ j, (x1 : Int32).toNatClampNeg = j := ⟨_, rfl⟩
          rw [ej37] at hw
          refine rw_iald hX hR 836 (n := 100) (i := x1) (v := (gi σ 836 j37)) rfl (by decide) rfl rfl h38 (by rw [ej37]) dX7_tick_39 ?_
          refine rw_aload_n hX hl 0 rfl (Or.inr ⟨_, rfl⟩) dX7_tick_40 rfl ?_
          refine rw_get hX hR 8 1 0 (C := RX7) (T := TX7) (N := 48) rfl (by decide) (Nat.le_of_ble_eq_true rfl) rfl (v := .int (gi σ 801 0)) rfl uw_X7 gw_929 rfl dX7_tick_41 ?_
          refine lv_icmp_ne (x := (gi σ 836 j37)) (y := (gi σ 801 0)) (tgt := 51) hX.1.1 hX.1.2.1 dX7_tick_44 (by decide) (fun c39 => ?_) (fun c39 => ?_)
          · replace hw := if_f hw c39
            exact J51 x1 x1 σ _ _ (by omega) (by omega) _ _ _ hw hR (lh_sub hl [0, 1] rfl)
          · replace hw := if_t hw c39
            refine lv_iconst (v := 1) hX.1.1 hX.1.2.1 dX7_tick_47 (by decide) ?_
            refine lv_goto (tgt := 57) hX.1.1 hX.1.2.1 dX7_tick_48 (by decide) ?_
            exact J57 x1 x1 1 σ _ _ (by omega) (by omega) _ _ _ hw hR (lh_sub hl [0, 1] rfl)
  refine rw_entry (ca1 rfl ca0) (Nat.le_of_ble_eq_true rfl) (fun ls hl1 => ?_)
  replace hl := hl1
  clear hl1
  refine rw_aload_n hX hl 0 rfl (Or.inr ⟨_, rfl⟩) dX7_tick_0 rfl ?_
  refine lv_dup hX.1.1 hX.1.2.1 dX7_tick_1 rfl ?_
  refine rw_get hX hR 8 1 0 (C := RX7) (T := TX7) (N := 48) rfl (by decide) (Nat.le_of_ble_eq_true rfl) rfl (v := .int (gi σ 801 0)) rfl uw_X7 gw_929 rfl dX7_tick_2 ?_
  refine lv_iconst (v := 1) hX.1.1 hX.1.2.1 dX7_tick_5 (by decide) ?_
  refine lv_iadd (x := (gi σ 801 0)) (y := 1) hX.1.1 hX.1.2.1 dX7_tick_6 ?_
  refine rw_puti (x := ((gi σ 801 0) + 1)) hX hR 8 1 0 801 (C := RX7) (T := TX7) (N := 48) rfl (by decide) rfl rfl (Nat.le_of_ble_eq_true rfl) rfl uw_X7 tyX7 tyX7_ok nmX7 gw_929 rfl rfl (by decide) dX7_tick_7 (fun σ1 H locs e1 hR1 => ?_)
  replace hR := hR1
  clear hR1
  subst e1
  refine lv_iconst (v := 0) hX.1.1 hX.1.2.1 dX7_tick_10 (by decide) ?_
  refine rw_istore_n (lv' := [(1, .int 0), (0, .ref (gS γ 8 0))]) hX hl (by decide) rfl dX7_tick_11 rfl (fun ls hl1 => ?_)
  replace hl := hl1
  clear hl1
  exact L12 _ _ _ _ (by omega) (by omega) _ _ _ hw hR (lh_sub hl [1, 0] rfl)
set_option maxHeartbeats 8000000 in
set_option maxRecDepth 100000 in
theorem C_f8_pass (l : Launch) (γ : GT) (ad : Nat → Nat → Nat) {fu : Nat} (a1 : Int32) (σ : St) (r : Int32) (σ' : St) (hw : f8_pass fu a1 σ = some (r, σ')) : Met l yX7_pass (Cond.code yX7_pass cX7_pass 3 (Option.some Jvm.ClassFile.FieldType.int) :: GW) (rmo 6 0 0) (va_Pc [.ref (gS γ 8 0), .int a1] (RU γ ad σ)) (QI γ ad σ' r) 0 0 (gA γ) := by
  refine Met.ofW (cc := cX7_pass) (maxL := 3) (ret := (Option.some Jvm.ClassFile.FieldType.int)) (by decide +kernel) rfl ?_
  intro p e s m args below meth c s₁ B hml hv
  obtain ⟨rfl, hU⟩ := hv
  obtain ⟨hX, hR⟩ := cx_of (own := RX7) B hml rfl hU
  have hr := B.returns
  have hlocks := B.notSynchronized
  have hc0 : (0 : Nat) ≤ 0 := Nat.le_refl 0
  show W p l e (rmo 6 0 0) s m ([.ref (gS γ 8 0), .int a1] : List Value).toArray below meth c s.heap [] 0 0 (MQ below (QI γ ad σ' r) ([.ref (gS γ 8 0), .int a1] : List Value).toArray s 0 0 (gA γ)) (entryFrame m ([.ref (gS γ 8 0), .int a1] : List Value).toArray 3)
  unfold f8_pass at hw
  have L41 : ∀ (x1 : Int32) (n : Nat) (s9 : (Int32 × St)) (cells slots : Nat), cells ≤ 0 → slots ≤ 0 → ∀ (H : Heap) (locs : List Loc) (ls : Array Slot), lp (fun s8 => f8_pass_b41 fu x1 s8.1 s8.2) n s9 = some (r, σ') → RS γ ad (s9.2) s H locs → lh ls 3 [(0, .ref (gS γ 8 0)), (1, .int x1), (2, .int s9.1)] → W p l e (rmo 6 0 0) s m ([.ref (gS γ 8 0), .int a1] : List Value).toArray below meth c H locs cells slots (MQ below (QI γ ad σ' r) ([.ref (gS γ 8 0), .int a1] : List Value).toArray s 0 0 (gA γ)) (F0 m 41 ls []) := by
    intro x1 n41
    induction n41 with
    | zero => intro s9 cells slots hc1 hc2 H locs ls hw hR hl; exact (lp_zero hw).elim
    | succ n41 ih41 =>
      intro s9 cells slots hc1 hc2 H locs ls hw hR hl
      obtain ⟨o41, hw1, hb41, ho41⟩ := lp_succ hw
      replace hw := hw1
      clear hw1
      obtain ⟨x2, σ⟩ := s9
      replace hw : f8_pass_b41 fu x1 x2 σ = some o41 := hw
      replace hR : RS γ ad σ s H locs := hR
      replace hl : lh ls 3 [(0, .ref (gS γ 8 0)), (1, .int x1), (2, .int x2)] := hl
      unfold f8_pass_b41 at hw
      refine rw_iload_n hX hl 2 rfl dX7_pass_41 rfl ?_
      refine rw_iload_n hX hl 1 rfl dX7_pass_42 rfl ?_
      refine lv_icmp_ge (x := x2) (y := x1) (tgt := 56) hX.1.1 hX.1.2.1 dX7_pass_43 (by decide) (fun c7 => ?_) (fun c7 => ?_)
      · replace hw := if_t hw c7
        replace hw := lp_out hw ho41
        refine rw_aload_n hX hl 0 rfl (Or.inr ⟨_, rfl⟩) dX7_pass_56 rfl ?_
        obtain ⟨σ9, g10, hw1⟩ := ob1_some hw
        replace hw := hw1
        clear hw1
        refine rw_cVv hX hR pk_f8_settle (mc := 0) (ms := 0) ⟨rfl, rfl, (show 5 + 1 ≤ 6 by omega), (show 8 + (3 + 11) + 64 * 5 ≤ 64 * 6 by omega)⟩ (As := []) (rest := []) rfl (C_f8_settle l γ ad σ σ9 g10) gw_1093 gw_1095 gs_54 (rs_recv hX hR 8 0 (C := RX7) (T := TX7) (N := 48) rfl (by decide) (Nat.le_of_ble_eq_true rfl) rfl) rfl hl.1 ca0 (Nat.le_of_ble_eq_true rfl) dX7_pass_57 ⟨(show cells + 0 ≤ 0 by omega), (show slots + 0 ≤ 0 by omega)⟩ (fun H locs hR1 => ?_)
        replace hR := hR1
        clear hR1
        refine rw_aload_n hX hl 0 rfl (Or.inr ⟨_, rfl⟩) dX7_pass_60 rfl ?_
        refine rw_get hX hR 8 1 0 (C := RX7) (T := TX7) (N := 48) rfl (by decide) (Nat.le_of_ble_eq_true rfl) rfl (v := .int (gi σ9 801 0)) rfl uw_X7 gw_929 rfl dX7_pass_61 ?_
        refine W.widen (k := 0) (n := 0) (by omega) (by omega) ?_
        exact rq_ie hX hR hr hw dX7_pass_64 hlocks
      · replace hw := if_f hw c7
        refine rw_aload_n hX hl 0 rfl (Or.inr ⟨_, rfl⟩) dX7_pass_46 rfl ?_
        obtain ⟨σ12, g13, hw1⟩ := ob1_some hw
        replace hw := hw1
        clear hw1
        refine rw_cVv hX hR pk_f8_tick (mc := 0) (ms := 0) ⟨rfl, rfl, (show 3 + 1 ≤ 6 by omega), (show 8 + (3 + 11) + 64 * 3 ≤ 64 * 6 by omega)⟩ (As := []) (rest := []) rfl (C_f8_tick l γ ad σ σ12 g13) gw_1236 gw_1238 gs_74 (rs_recv hX hR 8 0 (C := RX7) (T := TX7) (N := 48) rfl (by decide) (Nat.le_of_ble_eq_true rfl) rfl) rfl hl.1 ca0 (Nat.le_of_ble_eq_true rfl) dX7_pass_47 ⟨(show cells + 0 ≤ 0 by omega), (show slots + 0 ≤ 0 by omega)⟩ (fun H locs hR1 => ?_)
        replace hR := hR1
        clear hR1
        refine rw_iinc (k := 2) (v := (x2 + 1)) (lv' := [(2, .int (x2 + 1)), (0, .ref (gS γ 8 0)), (1, .int x1)]) hX hl rfl (congrArg (fun q => x2 + q) (show Int32.ofInt 1 = 1 by decide)) (by decide) rfl dX7_pass_50 (fun ls hl1 => ?_)
        replace hl := hl1
        clear hl1
        refine lv_goto (tgt := 41) hX.1.1 hX.1.2.1 dX7_pass_53 (by decide) ?_
        exact ih41 _ _ _ (by omega) (by omega) _ _ _ (lp_back hw hb41) hR (lh_sub hl [1, 2, 0] rfl)
  have J27 : ∀ (x1 : Int32) (y1 : Int32) (σ : St) (cells slots : Nat), cells ≤ 0 → slots ≤ 0 → ∀ (H : Heap) (locs : List Loc) (ls : Array Slot), f8_pass_j27 fu x1 y1 σ = some (r, σ') → RS γ ad σ s H locs → lh ls 3 [(0, .ref (gS γ 8 0)), (1, .int x1)] → W p l e (rmo 6 0 0) s m ([.ref (gS γ 8 0), .int a1] : List Value).toArray below meth c H locs cells slots (MQ below (QI γ ad σ' r) ([.ref (gS γ 8 0), .int a1] : List Value).toArray s 0 0 (gA γ)) (F0 m 27 ls [.int y1, .ref (gS γ 8 0)]) := by
    intro x1 y1 σ cells slots hc1 hc2 H locs ls hw hR hl
    unfold f8_pass_j27 at hw
    refine rw_puti (x := y1) hX hR 8 0 0 800 (C := RX7) (T := TX7) (N := 48) rfl (by decide) rfl rfl (Nat.le_of_ble_eq_true rfl) rfl uw_X7 tyX7 tyX7_ok nmX7 gw_928 rfl rfl (by decide) dX7_pass_27 (fun σ1 H locs e1 hR1 => ?_)
    replace hR := hR1
    clear hR1
    subst e1
    refine rw_aload_n hX hl 0 rfl (Or.inr ⟨_, rfl⟩) dX7_pass_30 rfl ?_
    refine rw_get hX hR 8 0 0 (C := RX7) (T := TX7) (N := 48) rfl (by decide) (Nat.le_of_ble_eq_true rfl) rfl (v := .int (gi (zi σ 800 0 y1) 800 0)) rfl uw_X7 gw_928 rfl dX7_pass_31 ?_
    refine lv_if_eq (x := (gi (zi σ 800 0 y1) 800 0)) (tgt := 39) hX.1.1 hX.1.2.1 dX7_pass_34 (by decide) (fun c6 => ?_) (fun c6 => ?_)
    · replace hw := if_t hw c6
      refine lv_iconst (v := 0) hX.1.1 hX.1.2.1 dX7_pass_39 (by decide) ?_
      refine rw_istore_n (lv' := [(2, .int 0), (0, .ref (gS γ 8 0)), (1, .int x1)]) hX hl (by decide) rfl dX7_pass_40 rfl (fun ls hl1 => ?_)
      replace hl := hl1
      clear hl1
      exact L41 x1 _ _ _ _ (by omega) (by omega) _ _ _ hw hR (lh_sub hl [1, 2, 0] rfl)
    · replace hw := if_f hw c6
      refine lv_iconst (v := 0) hX.1.1 hX.1.2.1 dX7_pass_37 (by decide) ?_
      refine W.widen (k := 0) (n := 0) (by omega) (by omega) ?_
      exact rq_ie hX hR hr hw dX7_pass_38 hlocks
  refine rw_entry (ca1 rfl (ca1 rfl ca0)) (Nat.le_of_ble_eq_true rfl) (fun ls hl1 => ?_)
  replace hl := hl1
  clear hl1
  refine rw_aload_n hX hl 0 rfl (Or.inr ⟨_, rfl⟩) dX7_pass_0 rfl ?_
  refine rw_iload_n hX hl 1 rfl dX7_pass_1 rfl ?_
  refine lv_iconst (v := 1) hX.1.1 hX.1.2.1 dX7_pass_2 (by decide) ?_
  refine lv_bipush (v := 50) hX.1.1 hX.1.2.1 dX7_pass_3 (by decide) ?_
  obtain ⟨v1, g3, hw1⟩ := ob1_some hw
  replace hw := hw1
  clear hw1
  refine rw_cSi hX hR pk_f8_in (mc := 0) (ms := 0) ⟨rfl, rfl, (show 1 + 1 ≤ 6 by omega), (show 8 + (3 + 11) + 64 * 1 ≤ 64 * 6 by omega)⟩ (As := [.int a1, .int 1, .int 50]) (rest := [.ref (gS γ 8 0)]) rfl (C_f8_in l γ ad a1 1 50 σ v1 g3) gw_1082 gw_1083 rfl hl.1 (ca1 rfl ca0) (Nat.le_of_ble_eq_true rfl) dX7_pass_5 ⟨(show 0 + 0 ≤ 0 by omega), (show 0 + 0 ≤ 0 by omega)⟩ (fun H locs hR1 => ?_)
  replace hR := hR1
  clear hR1
  refine rw_ifneZ (b := v1) (tgt := 15) hX dX7_pass_8 (by decide) (fun c4 => ?_) (fun c4 => ?_)
  · replace hw := if_t hw c4
    refine rw_aload_n hX hl 0 rfl (Or.inr ⟨_, rfl⟩) dX7_pass_15 rfl ?_
    refine rw_get hX hR 8 2 0 (C := RX7) (T := TX7) (N := 48) rfl (by decide) (Nat.le_of_ble_eq_true rfl) rfl (v := .int (b2i (gb σ 802 0))) rfl uw_X7 gw_930 rfl dX7_pass_16 ?_
    refine rw_ifeqZ (b := (gb σ 802 0)) (tgt := 26) hX dX7_pass_19 (by decide) (fun c5 => ?_) (fun c5 => ?_)
    · replace hw := if_f hw c5
      refine lv_iconst (v := 0) hX.1.1 hX.1.2.1 dX7_pass_26 (by decide) ?_
      exact J27 a1 0 σ _ _ (by omega) (by omega) _ _ _ hw hR (lh_sub hl [0, 1] rfl)
    · replace hw := if_t hw c5
      refine lv_iconst (v := 2) hX.1.1 hX.1.2.1 dX7_pass_22 (by decide) ?_
      refine lv_goto (tgt := 27) hX.1.1 hX.1.2.1 dX7_pass_23 (by decide) ?_
      exact J27 a1 2 σ _ _ (by omega) (by omega) _ _ _ hw hR (lh_sub hl [0, 1] rfl)
  · replace hw := if_f hw c4
    refine lv_iconst (v := 1) hX.1.1 hX.1.2.1 dX7_pass_11 (by decide) ?_
    refine lv_goto (tgt := 27) hX.1.1 hX.1.2.1 dX7_pass_12 (by decide) ?_
    exact J27 a1 1 σ _ _ (by omega) (by omega) _ _ _ hw hR (lh_sub hl [0, 1] rfl)
set_option maxHeartbeats 8000000 in
set_option maxRecDepth 100000 in
theorem C_f8_allOn (l : Launch) (γ : GT) (ad : Nat → Nat → Nat) {fu : Nat} (σ : St) (r : Int32) (hw : f8_allOn fu σ = some r) : Met l yX7_allOn (Cond.code yX7_allOn cX7_allOn 3 (Option.some Jvm.ClassFile.FieldType.int) :: GW) (rmo 1 0 0) (va_Pc [.ref (gS γ 8 0)] (RU γ ad σ)) (QI γ ad σ r) 0 0 (gA γ) := by
  refine Met.ofW (cc := cX7_allOn) (maxL := 3) (ret := (Option.some Jvm.ClassFile.FieldType.int)) (by decide +kernel) rfl ?_
  intro p e s m args below meth c s₁ B hml hv
  obtain ⟨rfl, hU⟩ := hv
  obtain ⟨hX, hR⟩ := cx_of (own := RX7) B hml rfl hU
  have hr := B.returns
  have hlocks := B.notSynchronized
  have hc0 : (0 : Nat) ≤ 0 := Nat.le_refl 0
  show W p l e (rmo 1 0 0) s m ([.ref (gS γ 8 0)] : List Value).toArray below meth c s.heap [] 0 0 (MQ below (QI γ ad σ r) ([.ref (gS γ 8 0)] : List Value).toArray s 0 0 (gA γ)) (entryFrame m ([.ref (gS γ 8 0)] : List Value).toArray 3)
  unfold f8_allOn at hw
  have L4 : ∀ (n : Nat) (s9 : (Int32 × Int32)) (cells slots : Nat), cells ≤ 0 → slots ≤ 0 → ∀ (H : Heap) (locs : List Loc) (ls : Array Slot), lp (fun s8 => f8_allOn_b4 fu s8.1 s8.2 σ) n s9 = some r → RS γ ad σ s H locs → lh ls 3 [(0, .ref (gS γ 8 0)), (1, .int s9.1), (2, .int s9.2)] → W p l e (rmo 1 0 0) s m ([.ref (gS γ 8 0)] : List Value).toArray below meth c H locs cells slots (MQ below (QI γ ad σ r) ([.ref (gS γ 8 0)] : List Value).toArray s 0 0 (gA γ)) (F0 m 4 ls []) := by
    intro n4
    induction n4 with
    | zero => intro s9 cells slots hc1 hc2 H locs ls hw hR hl; exact (lp_zero hw).elim
    | succ n4 ih4 =>
      intro s9 cells slots hc1 hc2 H locs ls hw hR hl
      obtain ⟨o4, hw1, hb4, ho4⟩ := lp_succ hw
      replace hw := hw1
      clear hw1
      obtain ⟨x1, x2⟩ := s9
      replace hw : f8_allOn_b4 fu x1 x2 σ = some o4 := hw
      replace hl : lh ls 3 [(0, .ref (gS γ 8 0)), (1, .int x1), (2, .int x2)] := hl
      unfold f8_allOn_b4 at hw
      have J29 : ∀ (x2 : Int32) (y0 : Int32) (y1 : Int32) (cells slots : Nat), cells ≤ 0 → slots ≤ 0 → ∀ (H : Heap) (locs : List Loc) (ls : Array Slot), f8_allOn_j29 fu x2 y0 y1 σ = some o4 → RS γ ad σ s H locs → lh ls 3 [(0, .ref (gS γ 8 0)), (2, .int x2)] → W p l e (rmo 1 0 0) s m ([.ref (gS γ 8 0)] : List Value).toArray below meth c H locs cells slots (MQ below (QI γ ad σ r) ([.ref (gS γ 8 0)] : List Value).toArray s 0 0 (gA γ)) (F0 m 29 ls [.int y1, .int y0]) := by
        intro x2 y0 y1 cells slots hc1 hc2 H locs ls hw hR hl
        unfold f8_allOn_j29 at hw
        refine lv_ior (x := y0) (y := y1) hX.1.1 hX.1.2.1 dX7_allOn_29 ?_
        refine rw_istore_n (lv' := [(1, .int (y0 ||| y1)), (0, .ref (gS γ 8 0)), (2, .int x2)]) hX hl (by decide) rfl dX7_allOn_30 rfl (fun ls hl1 => ?_)
        replace hl := hl1
        clear hl1
        refine rw_iinc (k := 2) (v := (x2 + 1)) (lv' := [(2, .int (x2 + 1)), (1, .int (y0 ||| y1)), (0, .ref (gS γ 8 0))]) hX hl rfl (congrArg (fun q => x2 + q) (show Int32.ofInt 1 = 1 by decide)) (by decide) rfl dX7_allOn_31 (fun ls hl1 => ?_)
        replace hl := hl1
        clear hl1
        refine lv_goto (tgt := 4) hX.1.1 hX.1.2.1 dX7_allOn_34 (by decide) ?_
        exact ih4 _ _ _ (by omega) (by omega) _ _ _ (lp_back hw hb4) hR (lh_sub hl [2, 1, 0] rfl)
      refine rw_iload_n hX hl 2 rfl dX7_allOn_4 rfl ?_
      refine rw_aload_n hX hl 0 rfl (Or.inr ⟨_, rfl⟩) dX7_allOn_5 rfl ?_
      refine rw_get hX hR 8 3 0 (C := RX7) (T := TX7) (N := 48) rfl (by decide) (Nat.le_of_ble_eq_true rfl) rfl (v := .int (gi σ 803 0)) rfl uw_X7 gw_931 rfl dX7_allOn_6 ?_
      refine lv_icmp_ge (x := x2) (y := (gi σ 803 0)) (tgt := 37) hX.1.1 hX.1.2.1 dX7_allOn_9 (by decide) (fun c1 => ?_) (fun c1 => ?_)
      · replace hw := if_t hw c1
        replace hw := lp_out hw ho4
        refine rw_iload_n hX hl 1 rfl dX7_allOn_37 rfl ?_
        refine W.widen (k := 0) (n := 0) (by omega) (by omega) ?_
        exact rq_i hX hR hr hw dX7_allOn_38 hlocks
      · replace hw := if_f hw c1
        refine rw_iload_n hX hl 1 rfl dX7_allOn_12 rfl ?_
        refine rw_aload_n hX hl 0 rfl (Or.inr ⟨_, rfl⟩) dX7_allOn_13 rfl ?_
        refine rw_get hX hR 8 13 0 (C := RX7) (T := TX7) (N := 48) rfl (by decide) (Nat.le_of_ble_eq_true rfl) rfl (v := .ref (gS γ 1813 0)) rfl uw_X7 gw_941 rfl dX7_allOn_14 ?_
        refine rw_iload_n hX hl 2 rfl dX7_allOn_17 rfl ?_
        obtain ⟨h3, hw1⟩ := ar_some hw
        replace hw := hw1
        clear hw1
        obtain ⟨j2, ej2⟩ : ∃ j, (x2 : Int32).toNatClampNeg = j := ⟨_, rfl⟩
        rw [ej2] at hw
        refine rw_zald hX hR 813 (n := 24) (i := x2) (v := (gb σ 813 j2)) rfl (by decide) rfl rfl h3 (by rw [ej2]) dX7_allOn_18 ?_
        refine rw_ifeqZ (b := (gb σ 813 j2)) (tgt := 28) hX dX7_allOn_19 (by decide) (fun c4 => ?_) (fun c4 => ?_)
        · replace hw := if_f hw c4
          refine lv_iconst (v := 0) hX.1.1 hX.1.2.1 dX7_allOn_28 (by decide) ?_
          exact J29 x2 x1 0 _ _ (by omega) (by omega) _ _ _ hw hR (lh_sub hl [0, 2] rfl)
        · replace hw := if_t hw c4
          refine lv_iconst (v := 1) hX.1.1 hX.1.2.1 dX7_allOn_22 (by decide) ?_
          refine rw_iload_n hX hl 2 rfl dX7_allOn_23 rfl ?_
          refine lv_ishl (x := 1) (y := x2) hX.1.1 hX.1.2.1 dX7_allOn_24 ?_
          refine lv_goto (tgt := 29) hX.1.1 hX.1.2.1 dX7_allOn_25 (by decide) ?_
          exact J29 x2 x1 (1 <<< (x2 &&& 31)) _ _ (by omega) (by omega) _ _ _ hw hR (lh_sub hl [0, 2] rfl)
  refine rw_entry (ca1 rfl ca0) (Nat.le_of_ble_eq_true rfl) (fun ls hl1 => ?_)
  replace hl := hl1
  clear hl1
  refine lv_iconst (v := 0) hX.1.1 hX.1.2.1 dX7_allOn_0 (by decide) ?_
  refine rw_istore_n (lv' := [(1, .int 0), (0, .ref (gS γ 8 0))]) hX hl (by decide) rfl dX7_allOn_1 rfl (fun ls hl1 => ?_)
  replace hl := hl1
  clear hl1
  refine lv_iconst (v := 0) hX.1.1 hX.1.2.1 dX7_allOn_2 (by decide) ?_
  refine rw_istore_n (lv' := [(2, .int 0), (1, .int 0), (0, .ref (gS γ 8 0))]) hX hl (by decide) rfl dX7_allOn_3 rfl (fun ls hl1 => ?_)
  replace hl := hl1
  clear hl1
  exact L4 _ _ _ _ (by omega) (by omega) _ _ _ hw hR (lh_sub hl [2, 1, 0] rfl)
set_option maxHeartbeats 8000000 in
set_option maxRecDepth 100000 in
theorem C_f8_firstSlept (l : Launch) (γ : GT) (ad : Nat → Nat → Nat) {fu : Nat} (σ : St) (r : Int32) (hw : f8_firstSlept fu σ = some r) : Met l yX7_firstSlept (Cond.code yX7_firstSlept cX7_firstSlept 3 (Option.some Jvm.ClassFile.FieldType.int) :: GW) (rmo 1 0 0) (va_Pc [.ref (gS γ 8 0)] (RU γ ad σ)) (QI γ ad σ r) 0 0 (gA γ) := by
  refine Met.ofW (cc := cX7_firstSlept) (maxL := 3) (ret := (Option.some Jvm.ClassFile.FieldType.int)) (by decide +kernel) rfl ?_
  intro p e s m args below meth c s₁ B hml hv
  obtain ⟨rfl, hU⟩ := hv
  obtain ⟨hX, hR⟩ := cx_of (own := RX7) B hml rfl hU
  have hr := B.returns
  have hlocks := B.notSynchronized
  have hc0 : (0 : Nat) ≤ 0 := Nat.le_refl 0
  show W p l e (rmo 1 0 0) s m ([.ref (gS γ 8 0)] : List Value).toArray below meth c s.heap [] 0 0 (MQ below (QI γ ad σ r) ([.ref (gS γ 8 0)] : List Value).toArray s 0 0 (gA γ)) (entryFrame m ([.ref (gS γ 8 0)] : List Value).toArray 3)
  unfold f8_firstSlept at hw
  have L4 : ∀ (n : Nat) (s9 : (Int32 × Int32)) (cells slots : Nat), cells ≤ 0 → slots ≤ 0 → ∀ (H : Heap) (locs : List Loc) (ls : Array Slot), lp (fun s8 => f8_firstSlept_b4 fu s8.1 s8.2 σ) n s9 = some r → RS γ ad σ s H locs → lh ls 3 [(0, .ref (gS γ 8 0)), (1, .int s9.1), (2, .int s9.2)] → W p l e (rmo 1 0 0) s m ([.ref (gS γ 8 0)] : List Value).toArray below meth c H locs cells slots (MQ below (QI γ ad σ r) ([.ref (gS γ 8 0)] : List Value).toArray s 0 0 (gA γ)) (F0 m 4 ls []) := by
    intro n4
    induction n4 with
    | zero => intro s9 cells slots hc1 hc2 H locs ls hw hR hl; exact (lp_zero hw).elim
    | succ n4 ih4 =>
      intro s9 cells slots hc1 hc2 H locs ls hw hR hl
      obtain ⟨o4, hw1, hb4, ho4⟩ := lp_succ hw
      replace hw := hw1
      clear hw1
      obtain ⟨x1, x2⟩ := s9
      replace hw : f8_firstSlept_b4 fu x1 x2 σ = some o4 := hw
      replace hl : lh ls 3 [(0, .ref (gS γ 8 0)), (1, .int x1), (2, .int x2)] := hl
      unfold f8_firstSlept_b4 at hw
      have J46 : ∀ (x2 : Int32) (y0 : Int32) (cells slots : Nat), cells ≤ 0 → slots ≤ 0 → ∀ (H : Heap) (locs : List Loc) (ls : Array Slot), f8_firstSlept_j46 fu x2 y0 σ = some o4 → RS γ ad σ s H locs → lh ls 3 [(0, .ref (gS γ 8 0)), (2, .int x2)] → W p l e (rmo 1 0 0) s m ([.ref (gS γ 8 0)] : List Value).toArray below meth c H locs cells slots (MQ below (QI γ ad σ r) ([.ref (gS γ 8 0)] : List Value).toArray s 0 0 (gA γ)) (F0 m 46 ls [.int y0]) := by
        intro x2 y0 cells slots hc1 hc2 H locs ls hw hR hl
        unfold f8_firstSlept_j46 at hw
        refine rw_istore_n (lv' := [(1, .int y0), (0, .ref (gS γ 8 0)), (2, .int x2)]) hX hl (by decide) rfl dX7_firstSlept_46 rfl (fun ls hl1 => ?_)
        replace hl := hl1
        clear hl1
        refine rw_iinc (k := 2) (v := (x2 + 1)) (lv' := [(2, .int (x2 + 1)), (1, .int y0), (0, .ref (gS γ 8 0))]) hX hl rfl (congrArg (fun q => x2 + q) (show Int32.ofInt 1 = 1 by decide)) (by decide) rfl dX7_firstSlept_47 (fun ls hl1 => ?_)
        replace hl := hl1
        clear hl1
        refine lv_goto (tgt := 4) hX.1.1 hX.1.2.1 dX7_firstSlept_50 (by decide) ?_
        exact ih4 _ _ _ (by omega) (by omega) _ _ _ (lp_back hw hb4) hR (lh_sub hl [2, 1, 0] rfl)
      have J45 : ∀ (x1 : Int32) (x2 : Int32) (cells slots : Nat), cells ≤ 0 → slots ≤ 0 → ∀ (H : Heap) (locs : List Loc) (ls : Array Slot), f8_firstSlept_j45 fu x1 x2 σ = some o4 → RS γ ad σ s H locs → lh ls 3 [(0, .ref (gS γ 8 0)), (1, .int x1), (2, .int x2)] → W p l e (rmo 1 0 0) s m ([.ref (gS γ 8 0)] : List Value).toArray below meth c H locs cells slots (MQ below (QI γ ad σ r) ([.ref (gS γ 8 0)] : List Value).toArray s 0 0 (gA γ)) (F0 m 45 ls []) := by
        intro x1 x2 cells slots hc1 hc2 H locs ls hw hR hl
        unfold f8_firstSlept_j45 at hw
        refine rw_iload_n hX hl 1 rfl dX7_firstSlept_45 rfl ?_
        exact J46 x2 x1 _ _ (by omega) (by omega) _ _ _ hw hR (lh_sub hl [0, 2] rfl)
      have J41 : ∀ (x2 : Int32) (cells slots : Nat), cells ≤ 0 → slots ≤ 0 → ∀ (H : Heap) (locs : List Loc) (ls : Array Slot), f8_firstSlept_j41 fu x2 σ = some o4 → RS γ ad σ s H locs → lh ls 3 [(0, .ref (gS γ 8 0)), (2, .int x2)] → W p l e (rmo 1 0 0) s m ([.ref (gS γ 8 0)] : List Value).toArray below meth c H locs cells slots (MQ below (QI γ ad σ r) ([.ref (gS γ 8 0)] : List Value).toArray s 0 0 (gA γ)) (F0 m 41 ls []) := by
        intro x2 cells slots hc1 hc2 H locs ls hw hR hl
        unfold f8_firstSlept_j41 at hw
        refine rw_iload_n hX hl 1 rfl dX7_firstSlept_41 rfl ?_
        refine lv_goto (tgt := 46) hX.1.1 hX.1.2.1 dX7_firstSlept_42 (by decide) ?_
        exact J46 x2 x2 _ _ (by omega) (by omega) _ _ _ hw hR (lh_sub hl [0, 1] rfl)
      refine rw_iload_n hX hl 2 rfl dX7_firstSlept_4 rfl ?_
      refine rw_aload_n hX hl 0 rfl (Or.inr ⟨_, rfl⟩) dX7_firstSlept_5 rfl ?_
      refine rw_get hX hR 8 3 0 (C := RX7) (T := TX7) (N := 48) rfl (by decide) (Nat.le_of_ble_eq_true rfl) rfl (v := .int (gi σ 803 0)) rfl uw_X7 gw_931 rfl dX7_firstSlept_6 ?_
      refine lv_icmp_ge (x := x2) (y := (gi σ 803 0)) (tgt := 53) hX.1.1 hX.1.2.1 dX7_firstSlept_9 (by decide) (fun c1 => ?_) (fun c1 => ?_)
      · replace hw := if_t hw c1
        replace hw := lp_out hw ho4
        refine rw_iload_n hX hl 1 rfl dX7_firstSlept_53 rfl ?_
        refine W.widen (k := 0) (n := 0) (by omega) (by omega) ?_
        exact rq_i hX hR hr hw dX7_firstSlept_54 hlocks
      · replace hw := if_f hw c1
        refine rw_aload_n hX hl 0 rfl (Or.inr ⟨_, rfl⟩) dX7_firstSlept_12 rfl ?_
        refine rw_get hX hR 8 22 0 (C := RX7) (T := TX7) (N := 48) rfl (by decide) (Nat.le_of_ble_eq_true rfl) rfl (v := .ref (gS γ 1822 0)) rfl uw_X7 gw_950 rfl dX7_firstSlept_13 ?_
        refine rw_iload_n hX hl 2 rfl dX7_firstSlept_16 rfl ?_
        obtain ⟨h3, hw1⟩ := ar_some hw
        replace hw := hw1
        clear hw1
        obtain ⟨j2, ej2⟩ : ∃ j, (x2 : Int32).toNatClampNeg = j := ⟨_, rfl⟩
        rw [ej2] at hw
        refine rw_zald hX hR 822 (n := 24) (i := x2) (v := (gb σ 822 j2)) rfl (by decide) rfl rfl h3 (by rw [ej2]) dX7_firstSlept_17 ?_
        refine rw_ifeqZ (b := (gb σ 822 j2)) (tgt := 45) hX dX7_firstSlept_18 (by decide) (fun c4 => ?_) (fun c4 => ?_)
        · replace hw := if_f hw c4
          exact J45 x1 x2 _ _ (by omega) (by omega) _ _ _ hw hR (lh_sub hl [0, 1, 2] rfl)
        · replace hw := if_t hw c4
          refine rw_iload_n hX hl 1 rfl dX7_firstSlept_21 rfl ?_
          refine lv_iconst (v := (-1)) hX.1.1 hX.1.2.1 dX7_firstSlept_22 (by decide) ?_
          refine lv_icmp_eq (x := x1) (y := (-1)) (tgt := 41) hX.1.1 hX.1.2.1 dX7_firstSlept_23 (by decide) (fun c5 => ?_) (fun c5 => ?_)
          · replace hw := if_t hw c5
            exact J41 x2 _ _ (by omega) (by omega) _ _ _ hw hR (lh_sub hl [0, 2] rfl)
          · replace hw := if_f hw c5
            refine rw_aload_n hX hl 0 rfl (Or.inr ⟨_, rfl⟩) dX7_firstSlept_26 rfl ?_
            refine rw_get hX hR 8 20 0 (C := RX7) (T := TX7) (N := 48) rfl (by decide) (Nat.le_of_ble_eq_true rfl) rfl (v := .ref (gS γ 1820 0)) rfl uw_X7 gw_948 rfl dX7_firstSlept_27 ?_
            refine rw_iload_n hX hl 2 rfl dX7_firstSlept_30 rfl ?_
            obtain ⟨h7, hw1⟩ := ar_some hw
            replace hw := hw1
            clear hw1
            obtain ⟨j6, ej6⟩ : ∃ j, (x2 : Int32).toNatClampNeg = j := ⟨_, rfl⟩
            rw [ej6] at hw
            refine rw_iald hX hR 820 (n := 24) (i := x2) (v := (gi σ 820 j6)) rfl (by decide) rfl rfl h7 (by rw [ej6]) dX7_firstSlept_31 ?_
            refine rw_aload_n hX hl 0 rfl (Or.inr ⟨_, rfl⟩) dX7_firstSlept_32 rfl ?_
            refine rw_get hX hR 8 20 0 (C := RX7) (T := TX7) (N := 48) rfl (by decide) (Nat.le_of_ble_eq_true rfl) rfl (v := .ref (gS γ 1820 0)) rfl uw_X7 gw_948 rfl dX7_firstSlept_33 ?_
            refine rw_iload_n hX hl 1 rfl dX7_firstSlept_36 rfl ?_
            obtain ⟨h9, hw1⟩ := ar_some hw
            replace hw := hw1
            clear hw1
            obtain ⟨j8, ej8⟩ : ∃ j, (x1 : Int32).toNatClampNeg = j := ⟨_, rfl⟩
            rw [ej8] at hw
            refine rw_iald hX hR 820 (n := 24) (i := x1) (v := (gi σ 820 j8)) rfl (by decide) rfl rfl h9 (by rw [ej8]) dX7_firstSlept_37 ?_
            refine lv_icmp_ge (x := (gi σ 820 j6)) (y := (gi σ 820 j8)) (tgt := 45) hX.1.1 hX.1.2.1 dX7_firstSlept_38 (by decide) (fun c10 => ?_) (fun c10 => ?_)
            · replace hw := if_t hw c10
              exact J45 x1 x2 _ _ (by omega) (by omega) _ _ _ hw hR (lh_sub hl [0, 1, 2] rfl)
            · replace hw := if_f hw c10
              exact J41 x2 _ _ (by omega) (by omega) _ _ _ hw hR (lh_sub hl [0, 2] rfl)
  refine rw_entry (ca1 rfl ca0) (Nat.le_of_ble_eq_true rfl) (fun ls hl1 => ?_)
  replace hl := hl1
  clear hl1
  refine lv_iconst (v := (-1)) hX.1.1 hX.1.2.1 dX7_firstSlept_0 (by decide) ?_
  refine rw_istore_n (lv' := [(1, .int (-1)), (0, .ref (gS γ 8 0))]) hX hl (by decide) rfl dX7_firstSlept_1 rfl (fun ls hl1 => ?_)
  replace hl := hl1
  clear hl1
  refine lv_iconst (v := 0) hX.1.1 hX.1.2.1 dX7_firstSlept_2 (by decide) ?_
  refine rw_istore_n (lv' := [(2, .int 0), (1, .int (-1)), (0, .ref (gS γ 8 0))]) hX hl (by decide) rfl dX7_firstSlept_3 rfl (fun ls hl1 => ?_)
  replace hl := hl1
  clear hl1
  exact L4 _ _ _ _ (by omega) (by omega) _ _ _ hw hR (lh_sub hl [2, 1, 0] rfl)
set_option maxHeartbeats 8000000 in
set_option maxRecDepth 100000 in
theorem C_f8_suspend (l : Launch) (γ : GT) (ad : Nat → Nat → Nat) {fu : Nat} (σ : St) (r : Int32) (σ' : St) (hw : f8_suspend fu σ = some (r, σ')) : Met l yX7_suspend (Cond.code yX7_suspend cX7_suspend 4 (Option.some Jvm.ClassFile.FieldType.int) :: GW) (rmo 6 0 0) (va_Pc [.ref (gS γ 8 0)] (RU γ ad σ)) (QI γ ad σ' r) 0 0 (gA γ) := by
  refine Met.ofW (cc := cX7_suspend) (maxL := 4) (ret := (Option.some Jvm.ClassFile.FieldType.int)) (by decide +kernel) rfl ?_
  intro p e s m args below meth c s₁ B hml hv
  obtain ⟨rfl, hU⟩ := hv
  obtain ⟨hX, hR⟩ := cx_of (own := RX7) B hml rfl hU
  have hr := B.returns
  have hlocks := B.notSynchronized
  have hc0 : (0 : Nat) ≤ 0 := Nat.le_refl 0
  show W p l e (rmo 6 0 0) s m ([.ref (gS γ 8 0)] : List Value).toArray below meth c s.heap [] 0 0 (MQ below (QI γ ad σ' r) ([.ref (gS γ 8 0)] : List Value).toArray s 0 0 (gA γ)) (entryFrame m ([.ref (gS γ 8 0)] : List Value).toArray 4)
  unfold f8_suspend at hw
  have J140 : ∀ (x2 : Int32) (σ : St) (cells slots : Nat), cells ≤ 0 → slots ≤ 0 → ∀ (H : Heap) (locs : List Loc) (ls : Array Slot), f8_suspend_j140 fu x2 σ = some (r, σ') → RS γ ad σ s H locs → lh ls 4 [(0, .ref (gS γ 8 0)), (2, .int x2)] → W p l e (rmo 6 0 0) s m ([.ref (gS γ 8 0)] : List Value).toArray below meth c H locs cells slots (MQ below (QI γ ad σ' r) ([.ref (gS γ 8 0)] : List Value).toArray s 0 0 (gA γ)) (F0 m 140 ls []) := by
    intro x2 σ cells slots hc1 hc2 H locs ls hw hR hl
    unfold f8_suspend_j140 at hw
    refine rw_aload_n hX hl 0 rfl (Or.inr ⟨_, rfl⟩) dX7_suspend_140 rfl ?_
    obtain ⟨σ16, g17, hw1⟩ := ob1_some hw
    replace hw := hw1
    clear hw1
    refine rw_cVv hX hR pk_f8_settle (mc := 0) (ms := 0) ⟨rfl, rfl, (show 5 + 1 ≤ 6 by omega), (show 8 + (3 + 11) + 64 * 5 ≤ 64 * 6 by omega)⟩ (As := []) (rest := []) rfl (C_f8_settle l γ ad σ σ16 g17) gw_1093 gw_1095 gs_54 (rs_recv hX hR 8 0 (C := RX7) (T := TX7) (N := 48) rfl (by decide) (Nat.le_of_ble_eq_true rfl) rfl) rfl hl.1 ca0 (Nat.le_of_ble_eq_true rfl) dX7_suspend_141 ⟨(show cells + 0 ≤ 0 by omega), (show slots + 0 ≤ 0 by omega)⟩ (fun H locs hR1 => ?_)
    replace hR := hR1
    clear hR1
    refine rw_iload_n hX hl 1 rfl dX7_suspend_144 rfl ?_
    refine W.widen (k := 0) (n := 0) (by omega) (by omega) ?_
    exact rq_ie hX hR hr hw dX7_suspend_145 hlocks
  have L115 : ∀ (x2 : Int32) (n : Nat) (s9 : (Int32 × St)) (cells slots : Nat), cells ≤ 0 → slots ≤ 0 → ∀ (H : Heap) (locs : List Loc) (ls : Array Slot), lp (fun s8 => f8_suspend_b115 fu x2 s8.1 s8.2) n s9 = some (r, σ') → RS γ ad (s9.2) s H locs → lh ls 4 [(0, .ref (gS γ 8 0)), (2, .int x2), (3, .int s9.1)] → W p l e (rmo 6 0 0) s m ([.ref (gS γ 8 0)] : List Value).toArray below meth c H locs cells slots (MQ below (QI γ ad σ' r) ([.ref (gS γ 8 0)] : List Value).toArray s 0 0 (gA γ)) (F0 m 115 ls []) := by
    intro x2 n115
    induction n115 with
    | zero => intro s9 cells slots hc1 hc2 H locs ls hw hR hl; exact (lp_zero hw).elim
    | succ n115 ih115 =>
      intro s9 cells slots hc1 hc2 H locs ls hw hR hl
      obtain ⟨o115, hw1, hb115, ho115⟩ := lp_succ hw
      replace hw := hw1
      clear hw1
      obtain ⟨x3, σ⟩ := s9
      replace hw : f8_suspend_b115 fu x2 x3 σ = some o115 := hw
      replace hR : RS γ ad σ s H locs := hR
      replace hl : lh ls 4 [(0, .ref (gS γ 8 0)), (2, .int x2), (3, .int x3)] := hl
      unfold f8_suspend_b115 at hw
      refine rw_iload_n hX hl 2 rfl dX7_suspend_115 rfl ?_
      refine lv_iconst (v := (-1)) hX.1.1 hX.1.2.1 dX7_suspend_116 (by decide) ?_
      refine lv_icmp_eq (x := x3) (y := (-1)) (tgt := 140) hX.1.1 hX.1.2.1 dX7_suspend_117 (by decide) (fun c14 => ?_) (fun c14 => ?_)
      · replace hw := if_t hw c14
        replace hw := lp_out hw ho115
        exact J140 x2 σ _ _ (by omega) (by omega) _ _ _ hw hR (lh_sub hl [0, 1] rfl)
      · replace hw := if_f hw c14
        refine rw_aload_n hX hl 0 rfl (Or.inr ⟨_, rfl⟩) dX7_suspend_120 rfl ?_
        refine rw_get hX hR 8 2 0 (C := RX7) (T := TX7) (N := 48) rfl (by decide) (Nat.le_of_ble_eq_true rfl) rfl (v := .int (b2i (gb σ 802 0))) rfl uw_X7 gw_930 rfl dX7_suspend_121 ?_
        refine rw_ifneZ (b := (gb σ 802 0)) (tgt := 140) hX dX7_suspend_124 (by decide) (fun c18 => ?_) (fun c18 => ?_)
        · replace hw := if_t hw c18
          replace hw := lp_out hw ho115
          exact J140 x2 σ _ _ (by omega) (by omega) _ _ _ hw hR (lh_sub hl [0, 1] rfl)
        · replace hw := if_f hw c18
          refine rw_aload_n hX hl 0 rfl (Or.inr ⟨_, rfl⟩) dX7_suspend_127 rfl ?_
          refine rw_iload_n hX hl 2 rfl dX7_suspend_128 rfl ?_
          obtain ⟨σ20, g21, hw1⟩ := ob1_some hw
          replace hw := hw1
          clear hw1
          refine rw_cVv hX hR pk_f8_wake (mc := 0) (ms := 0) ⟨rfl, rfl, (show 2 + 1 ≤ 6 by omega), (show 8 + (5 + 11) + 64 * 2 ≤ 64 * 6 by omega)⟩ (As := [.int x3]) (rest := []) rfl (C_f8_wake l γ ad x3 σ σ20 g21) gw_1133 gw_1135 gs_64 (rs_recv hX hR 8 0 (C := RX7) (T := TX7) (N := 48) rfl (by decide) (Nat.le_of_ble_eq_true rfl) rfl) rfl hl.1 ca0 (Nat.le_of_ble_eq_true rfl) dX7_suspend_129 ⟨(show cells + 0 ≤ 0 by omega), (show slots + 0 ≤ 0 by omega)⟩ (fun H locs hR1 => ?_)
          replace hR := hR1
          clear hR1
          refine rw_aload_n hX hl 0 rfl (Or.inr ⟨_, rfl⟩) dX7_suspend_132 rfl ?_
          obtain ⟨v22, g24, hw1⟩ := ob1_some hw
          replace hw := hw1
          clear hw1
          refine rw_cVi hX hR pk_f8_firstSlept (mc := 0) (ms := 0) ⟨rfl, rfl, (show 1 + 1 ≤ 6 by omega), (show 8 + (3 + 11) + 64 * 1 ≤ 64 * 6 by omega)⟩ (As := []) (rest := []) rfl (C_f8_firstSlept l γ ad σ20 v22 g24) gw_1260 gw_1262 gs_79 (rs_recv hX hR 8 0 (C := RX7) (T := TX7) (N := 48) rfl (by decide) (Nat.le_of_ble_eq_true rfl) rfl) rfl hl.1 ca0 (Nat.le_of_ble_eq_true rfl) dX7_suspend_133 ⟨(show (cells + 0) + 0 ≤ 0 by omega), (show (slots + 0) + 0 ≤ 0 by omega)⟩ (fun H locs hR1 => ?_)
          replace hR := hR1
          clear hR1
          refine rw_istore_n (lv' := [(3, .int v22), (0, .ref (gS γ 8 0)), (2, .int x2)]) hX hl (by decide) rfl dX7_suspend_136 rfl (fun ls hl1 => ?_)
          replace hl := hl1
          clear hl1
          refine lv_goto (tgt := 115) hX.1.1 hX.1.2.1 dX7_suspend_137 (by decide) ?_
          exact ih115 _ _ _ (by omega) (by omega) _ _ _ (lp_back hw hb115) hR (lh_sub hl [1, 2, 0] rfl)
  have J107 : ∀ (x2 : Int32) (y1 : Bool) (σ : St) (cells slots : Nat), cells ≤ 0 → slots ≤ 0 → ∀ (H : Heap) (locs : List Loc) (ls : Array Slot), f8_suspend_j107 fu x2 y1 σ = some (r, σ') → RS γ ad σ s H locs → lh ls 4 [(0, .ref (gS γ 8 0)), (2, .int x2)] → W p l e (rmo 6 0 0) s m ([.ref (gS γ 8 0)] : List Value).toArray below meth c H locs cells slots (MQ below (QI γ ad σ' r) ([.ref (gS γ 8 0)] : List Value).toArray s 0 0 (gA γ)) (F0 m 107 ls [.int (b2i y1), .ref (gS γ 8 0)]) := by
    intro x2 y1 σ cells slots hc1 hc2 H locs ls hw hR hl
    unfold f8_suspend_j107 at hw
    refine rw_putb (x := y1) hX hR 8 2 0 802 (C := RX7) (T := TX7) (N := 48) rfl (by decide) rfl rfl (Nat.le_of_ble_eq_true rfl) rfl uw_X7 tyX7 tyX7_ok nmX7 gw_930 rfl rfl (by decide) dX7_suspend_107 (fun σ1 H locs e1 hR1 => ?_)
    replace hR := hR1
    clear hR1
    subst e1
    refine rw_aload_n hX hl 0 rfl (Or.inr ⟨_, rfl⟩) dX7_suspend_110 rfl ?_
    obtain ⟨v11, g13, hw1⟩ := ob1_some hw
    replace hw := hw1
    clear hw1
    refine rw_cVi hX hR pk_f8_firstSlept (mc := 0) (ms := 0) ⟨rfl, rfl, (show 1 + 1 ≤ 6 by omega), (show 8 + (3 + 11) + 64 * 1 ≤ 64 * 6 by omega)⟩ (As := []) (rest := []) rfl (C_f8_firstSlept l γ ad (zb σ 802 0 y1) v11 g13) gw_1260 gw_1262 gs_79 (rs_recv hX hR 8 0 (C := RX7) (T := TX7) (N := 48) rfl (by decide) (Nat.le_of_ble_eq_true rfl) rfl) rfl hl.1 ca0 (Nat.le_of_ble_eq_true rfl) dX7_suspend_111 ⟨(show cells + 0 ≤ 0 by omega), (show slots + 0 ≤ 0 by omega)⟩ (fun H locs hR1 => ?_)
    replace hR := hR1
    clear hR1
    refine rw_istore_n (lv' := [(3, .int v11), (0, .ref (gS γ 8 0)), (2, .int x2)]) hX hl (by decide) rfl dX7_suspend_114 rfl (fun ls hl1 => ?_)
    replace hl := hl1
    clear hl1
    exact L115 x2 _ _ _ _ (by omega) (by omega) _ _ _ hw hR (lh_sub hl [1, 2, 0] rfl)
  have J96 : ∀ (x2 : Int32) (σ : St) (cells slots : Nat), cells ≤ 0 → slots ≤ 0 → ∀ (H : Heap) (locs : List Loc) (ls : Array Slot), f8_suspend_j96 fu x2 σ = some (r, σ') → RS γ ad σ s H locs → lh ls 4 [(0, .ref (gS γ 8 0)), (2, .int x2)] → W p l e (rmo 6 0 0) s m ([.ref (gS γ 8 0)] : List Value).toArray below meth c H locs cells slots (MQ below (QI γ ad σ' r) ([.ref (gS γ 8 0)] : List Value).toArray s 0 0 (gA γ)) (F0 m 96 ls []) := by
    intro x2 σ cells slots hc1 hc2 H locs ls hw hR hl
    unfold f8_suspend_j96 at hw
    refine rw_aload_n hX hl 0 rfl (Or.inr ⟨_, rfl⟩) dX7_suspend_96 rfl ?_
    refine rw_iload_n hX hl 1 rfl dX7_suspend_97 rfl ?_
    refine lv_iconst (v := (-1)) hX.1.1 hX.1.2.1 dX7_suspend_98 (by decide) ?_
    refine lv_icmp_ne (x := x2) (y := (-1)) (tgt := 106) hX.1.1 hX.1.2.1 dX7_suspend_99 (by decide) (fun c10 => ?_) (fun c10 => ?_)
    · replace hw := if_f hw c10
      refine lv_iconst (v := 0) hX.1.1 hX.1.2.1 dX7_suspend_106 (by decide) ?_
      exact J107 x2 false σ _ _ (by omega) (by omega) _ _ _ hw hR (lh_sub hl [0, 1] rfl)
    · replace hw := if_t hw c10
      refine lv_iconst (v := 1) hX.1.1 hX.1.2.1 dX7_suspend_102 (by decide) ?_
      refine lv_goto (tgt := 107) hX.1.1 hX.1.2.1 dX7_suspend_103 (by decide) ?_
      exact J107 x2 true σ _ _ (by omega) (by omega) _ _ _ hw hR (lh_sub hl [0, 1] rfl)
  have L38 : ∀ (n : Nat) (s9 : (Int32 × Int32 × Int32 × St)) (cells slots : Nat), cells ≤ 0 → slots ≤ 0 → ∀ (H : Heap) (locs : List Loc) (ls : Array Slot), lp (fun s8 => f8_suspend_b38 fu s8.1 s8.2.1 s8.2.2.1 s8.2.2.2) n s9 = some (r, σ') → RS γ ad (s9.2.2.2) s H locs → lh ls 4 [(0, .ref (gS γ 8 0)), (1, .int s9.1), (2, .int s9.2.1), (3, .int s9.2.2.1)] → W p l e (rmo 6 0 0) s m ([.ref (gS γ 8 0)] : List Value).toArray below meth c H locs cells slots (MQ below (QI γ ad σ' r) ([.ref (gS γ 8 0)] : List Value).toArray s 0 0 (gA γ)) (F0 m 38 ls []) := by
    intro n38
    induction n38 with
    | zero => intro s9 cells slots hc1 hc2 H locs ls hw hR hl; exact (lp_zero hw).elim
    | succ n38 ih38 =>
      intro s9 cells slots hc1 hc2 H locs ls hw hR hl
      obtain ⟨o38, hw1, hb38, ho38⟩ := lp_succ hw
      replace hw := hw1
      clear hw1
      obtain ⟨x1, x2, x3, σ⟩ := s9
      replace hw : f8_suspend_b38 fu x1 x2 x3 σ = some o38 := hw
      replace hR : RS γ ad σ s H locs := hR
      replace hl : lh ls 4 [(0, .ref (gS γ 8 0)), (1, .int x1), (2, .int x2), (3, .int x3)] := hl
      unfold f8_suspend_b38 at hw
      have J87 : ∀ (x1 : Int32) (x2 : Int32) (σ : St) (cells slots : Nat), cells ≤ 0 → slots ≤ 0 → ∀ (H : Heap) (locs : List Loc) (ls : Array Slot), f8_suspend_j87 fu x1 x2 σ = some o38 → RS γ ad σ s H locs → lh ls 4 [(0, .ref (gS γ 8 0)), (1, .int x1), (2, .int x2)] → W p l e (rmo 6 0 0) s m ([.ref (gS γ 8 0)] : List Value).toArray below meth c H locs cells slots (MQ below (QI γ ad σ' r) ([.ref (gS γ 8 0)] : List Value).toArray s 0 0 (gA γ)) (F0 m 87 ls []) := by
        intro x1 x2 σ cells slots hc1 hc2 H locs ls hw hR hl
        unfold f8_suspend_j87 at hw
        refine rw_aload_n hX hl 0 rfl (Or.inr ⟨_, rfl⟩) dX7_suspend_87 rfl ?_
        refine rw_iload_n hX hl 1 rfl dX7_suspend_88 rfl ?_
        obtain ⟨v31, g33, hw1⟩ := ob1_some hw
        replace hw := hw1
        clear hw1
        refine rw_cVi hX hR pk_f8_lastOf (mc := 0) (ms := 0) ⟨rfl, rfl, (show 2 + 1 ≤ 6 by omega), (show 8 + (4 + 11) + 64 * 2 ≤ 64 * 6 by omega)⟩ (As := [.int x1]) (rest := []) rfl (C_f8_lastOf l γ ad x1 σ v31 g33) gw_1152 gw_1154 gs_67 (rs_recv hX hR 8 0 (C := RX7) (T := TX7) (N := 48) rfl (by decide) (Nat.le_of_ble_eq_true rfl) rfl) rfl hl.1 ca0 (Nat.le_of_ble_eq_true rfl) dX7_suspend_89 ⟨(show cells + 0 ≤ 0 by omega), (show slots + 0 ≤ 0 by omega)⟩ (fun H locs hR1 => ?_)
        replace hR := hR1
        clear hR1
        refine rw_istore_n (lv' := [(3, .int v31), (0, .ref (gS γ 8 0)), (1, .int x1), (2, .int x2)]) hX hl (by decide) rfl dX7_suspend_92 rfl (fun ls hl1 => ?_)
        replace hl := hl1
        clear hl1
        refine lv_goto (tgt := 38) hX.1.1 hX.1.2.1 dX7_suspend_93 (by decide) ?_
        exact ih38 _ _ _ (by omega) (by omega) _ _ _ (lp_back hw hb38) hR (lh_sub hl [1, 2, 3, 0] rfl)
      have J61 : ∀ (x1 : Int32) (x3 : Int32) (y0 : Int32) (σ : St) (cells slots : Nat), cells ≤ 0 → slots ≤ 0 → ∀ (H : Heap) (locs : List Loc) (ls : Array Slot), f8_suspend_j61 fu x1 x3 y0 σ = some o38 → RS γ ad σ s H locs → lh ls 4 [(0, .ref (gS γ 8 0)), (1, .int x1), (3, .int x3)] → W p l e (rmo 6 0 0) s m ([.ref (gS γ 8 0)] : List Value).toArray below meth c H locs cells slots (MQ below (QI γ ad σ' r) ([.ref (gS γ 8 0)] : List Value).toArray s 0 0 (gA γ)) (F0 m 61 ls [.int y0]) := by
        intro x1 x3 y0 σ cells slots hc1 hc2 H locs ls hw hR hl
        unfold f8_suspend_j61 at hw
        refine rw_istore_n (lv' := [(2, .int y0), (0, .ref (gS γ 8 0)), (1, .int x1), (3, .int x3)]) hX hl (by decide) rfl dX7_suspend_61 rfl (fun ls hl1 => ?_)
        replace hl := hl1
        clear hl1
        refine rw_iload_n hX hl 0 rfl dX7_suspend_62 rfl ?_
        refine lv_iconst (v := (-1)) hX.1.1 hX.1.2.1 dX7_suspend_63 (by decide) ?_
        refine lv_icmp_ne (x := y0) (y := (-1)) (tgt := 87) hX.1.1 hX.1.2.1 dX7_suspend_64 (by decide) (fun c30 => ?_) (fun c30 => ?_)
        · replace hw := if_f hw c30
          exact J87 x1 y0 σ _ _ (by omega) (by omega) _ _ _ hw hR (lh_sub hl [1, 2, 0] rfl)
        · replace hw := if_t hw c30
          refine rw_aload_n hX hl 1 rfl (Or.inr ⟨_, rfl⟩) dX7_suspend_67 rfl ?_
          refine rw_iload_n hX hl 3 rfl dX7_suspend_68 rfl ?_
          obtain ⟨σ35, g36, hw1⟩ := ob1_some hw
          replace hw := hw1
          clear hw1
          refine rw_cVv hX hR pk_f8_fallsAsleep (mc := 0) (ms := 0) ⟨rfl, rfl, (show 2 + 1 ≤ 6 by omega), (show 8 + (2 + 11) + 64 * 2 ≤ 64 * 6 by omega)⟩ (As := [.int x3]) (rest := []) rfl (C_f8_fallsAsleep l γ ad x3 σ σ35 g36) gw_1248 gw_1250 gs_77 (rs_recv hX hR 8 0 (C := RX7) (T := TX7) (N := 48) rfl (by decide) (Nat.le_of_ble_eq_true rfl) rfl) rfl hl.1 ca0 (Nat.le_of_ble_eq_true rfl) dX7_suspend_69 ⟨(show cells + 0 ≤ 0 by omega), (show slots + 0 ≤ 0 by omega)⟩ (fun H locs hR1 => ?_)
          replace hR := hR1
          clear hR1
          refine rw_aload_n hX hl 1 rfl (Or.inr ⟨_, rfl⟩) dX7_suspend_72 rfl ?_
          refine rw_get hX hR 8 22 0 (C := RX7) (T := TX7) (N := 48) rfl (by decide) (Nat.le_of_ble_eq_true rfl) rfl (v := .ref (gS γ 1822 0)) rfl uw_X7 gw_950 rfl dX7_suspend_73 ?_
          refine rw_iload_n hX hl 3 rfl dX7_suspend_76 rfl ?_
          refine lv_iconst (v := 1) hX.1.1 hX.1.2.1 dX7_suspend_77 (by decide) ?_
          obtain ⟨h38, hw1⟩ := ar_some hw
          replace hw := hw1
          clear hw1
          obtain ⟨j37, ej37⟩ : ∃ j, (x3 : Int32).toNatClampNeg = j := ⟨_, rfl⟩
          rw [ej37] at hw
          refine rw_zast hX hR 822 (n := 24) (i := x3) (x := true) rfl (by decide) rfl rfl h38 dX7_suspend_78 (fun σ1 H locs e1 hR1 => ?_)
          replace hR := hR1
          clear hR1
          rw [ej37] at e1
          subst e1
          refine rw_iload_n hX hl 2 rfl dX7_suspend_79 rfl ?_
          refine lv_iconst (v := 1) hX.1.1 hX.1.2.1 dX7_suspend_80 (by decide) ?_
          refine rw_iload_n hX hl 3 rfl dX7_suspend_81 rfl ?_
          refine lv_ishl (x := 1) (y := x3) hX.1.1 hX.1.2.1 dX7_suspend_82 ?_
          refine lv_iconst (v := (-1)) hX.1.1 hX.1.2.1 dX7_suspend_83 (by decide) ?_
          refine lv_ixor (x := (1 <<< (x3 &&& 31))) (y := (-1)) hX.1.1 hX.1.2.1 dX7_suspend_84 ?_
          refine lv_iand (x := x1) (y := ((1 <<< (x3 &&& 31)) ^^^ (-1))) hX.1.1 hX.1.2.1 dX7_suspend_85 ?_
          refine rw_istore_n (lv' := [(1, .int (x1 &&& ((1 <<< (x3 &&& 31)) ^^^ (-1)))), (2, .int y0), (0, .ref (gS γ 8 0)), (3, .int x3)]) hX hl (by decide) rfl dX7_suspend_86 rfl (fun ls hl1 => ?_)
          replace hl := hl1
          clear hl1
          exact J87 (x1 &&& ((1 <<< (x3 &&& 31)) ^^^ (-1))) y0 (zb σ35 822 j37 true) _ _ (by omega) (by omega) _ _ _ hw hR (lh_sub hl [2, 0, 1] rfl)
      refine rw_iload_n hX hl 3 rfl dX7_suspend_38 rfl ?_
      refine lv_iconst (v := (-1)) hX.1.1 hX.1.2.1 dX7_suspend_39 (by decide) ?_
      refine lv_icmp_eq (x := x3) (y := (-1)) (tgt := 96) hX.1.1 hX.1.2.1 dX7_suspend_40 (by decide) (fun c9 => ?_) (fun c9 => ?_)
      · replace hw := if_t hw c9
        replace hw := lp_out hw ho38
        exact J96 x2 σ _ _ (by omega) (by omega) _ _ _ hw hR (lh_sub hl [0, 2] rfl)
      · replace hw := if_f hw c9
        refine rw_iload_n hX hl 2 rfl dX7_suspend_43 rfl ?_
        refine lv_iconst (v := (-1)) hX.1.1 hX.1.2.1 dX7_suspend_44 (by decide) ?_
        refine lv_icmp_ne (x := x2) (y := (-1)) (tgt := 96) hX.1.1 hX.1.2.1 dX7_suspend_45 (by decide) (fun c25 => ?_) (fun c25 => ?_)
        · replace hw := if_f hw c25
          replace hw := lp_out hw ho38
          exact J96 x2 σ _ _ (by omega) (by omega) _ _ _ hw hR (lh_sub hl [0, 2] rfl)
        · replace hw := if_t hw c25
          refine rw_aload_n hX hl 0 rfl (Or.inr ⟨_, rfl⟩) dX7_suspend_48 rfl ?_
          refine rw_iload_n hX hl 3 rfl dX7_suspend_49 rfl ?_
          obtain ⟨v26, g28, hw1⟩ := ob1_some hw
          replace hw := hw1
          clear hw1
          refine rw_cVi hX hR pk_f8_hasCall (mc := 0) (ms := 0) ⟨rfl, rfl, (show 1 + 1 ≤ 6 by omega), (show 8 + (4 + 11) + 64 * 1 ≤ 64 * 6 by omega)⟩ (As := [.int x3]) (rest := []) rfl (C_f8_hasCall l γ ad x3 σ v26 g28) gw_1244 gw_1246 gs_76 (rs_recv hX hR 8 0 (C := RX7) (T := TX7) (N := 48) rfl (by decide) (Nat.le_of_ble_eq_true rfl) rfl) rfl hl.1 ca0 (Nat.le_of_ble_eq_true rfl) dX7_suspend_50 ⟨(show cells + 0 ≤ 0 by omega), (show slots + 0 ≤ 0 by omega)⟩ (fun H locs hR1 => ?_)
          replace hR := hR1
          clear hR1
          refine rw_ifeqZ (b := v26) (tgt := 60) hX dX7_suspend_53 (by decide) (fun c29 => ?_) (fun c29 => ?_)
          · replace hw := if_f hw c29
            refine lv_iconst (v := (-1)) hX.1.1 hX.1.2.1 dX7_suspend_60 (by decide) ?_
            exact J61 x1 x3 (-1) σ _ _ (by omega) (by omega) _ _ _ hw hR (lh_sub hl [0, 1, 3] rfl)
          · replace hw := if_t hw c29
            refine rw_iload_n hX hl 3 rfl dX7_suspend_56 rfl ?_
            refine lv_goto (tgt := 61) hX.1.1 hX.1.2.1 dX7_suspend_57 (by decide) ?_
            exact J61 x1 x3 x3 σ _ _ (by omega) (by omega) _ _ _ hw hR (lh_sub hl [0, 1, 3] rfl)
  have J13 : ∀ (y1 : Bool) (σ : St) (cells slots : Nat), cells ≤ 0 → slots ≤ 0 → ∀ (H : Heap) (locs : List Loc) (ls : Array Slot), f8_suspend_j13 fu y1 σ = some (r, σ') → RS γ ad σ s H locs → lh ls 4 [(0, .ref (gS γ 8 0))] → W p l e (rmo 6 0 0) s m ([.ref (gS γ 8 0)] : List Value).toArray below meth c H locs cells slots (MQ below (QI γ ad σ' r) ([.ref (gS γ 8 0)] : List Value).toArray s 0 0 (gA γ)) (F0 m 13 ls [.int (b2i y1), .ref (gS γ 8 0)]) := by
    intro y1 σ cells slots hc1 hc2 H locs ls hw hR hl
    unfold f8_suspend_j13 at hw
    refine rw_puti (x := (b2i y1)) hX hR 8 0 0 800 (C := RX7) (T := TX7) (N := 48) rfl (by decide) rfl rfl (Nat.le_of_ble_eq_true rfl) rfl uw_X7 tyX7 tyX7_ok nmX7 gw_928 rfl rfl (by decide) dX7_suspend_13 (fun σ1 H locs e1 hR1 => ?_)
    replace hR := hR1
    clear hR1
    subst e1
    refine rw_aload_n hX hl 0 rfl (Or.inr ⟨_, rfl⟩) dX7_suspend_16 rfl ?_
    refine rw_get hX hR 8 0 0 (C := RX7) (T := TX7) (N := 48) rfl (by decide) (Nat.le_of_ble_eq_true rfl) rfl (v := .int (gi (zi σ 800 0 (b2i y1)) 800 0)) rfl uw_X7 gw_928 rfl dX7_suspend_17 ?_
    refine lv_if_eq (x := (gi (zi σ 800 0 (b2i y1)) 800 0)) (tgt := 25) hX.1.1 hX.1.2.1 dX7_suspend_20 (by decide) (fun c2 => ?_) (fun c2 => ?_)
    · replace hw := if_t hw c2
      refine rw_aload_n hX hl 0 rfl (Or.inr ⟨_, rfl⟩) dX7_suspend_25 rfl ?_
      obtain ⟨v3, g5, hw1⟩ := ob1_some hw
      replace hw := hw1
      clear hw1
      refine rw_cVi hX hR pk_f8_allOn (mc := 0) (ms := 0) ⟨rfl, rfl, (show 1 + 1 ≤ 6 by omega), (show 8 + (3 + 11) + 64 * 1 ≤ 64 * 6 by omega)⟩ (As := []) (rest := []) rfl (C_f8_allOn l γ ad (zi σ 800 0 (b2i y1)) v3 g5) gw_1256 gw_1258 gs_78 (rs_recv hX hR 8 0 (C := RX7) (T := TX7) (N := 48) rfl (by decide) (Nat.le_of_ble_eq_true rfl) rfl) rfl hl.1 ca0 (Nat.le_of_ble_eq_true rfl) dX7_suspend_26 ⟨(show cells + 0 ≤ 0 by omega), (show slots + 0 ≤ 0 by omega)⟩ (fun H locs hR1 => ?_)
      replace hR := hR1
      clear hR1
      refine rw_istore_n (lv' := [(1, .int v3), (0, .ref (gS γ 8 0))]) hX hl (by decide) rfl dX7_suspend_29 rfl (fun ls hl1 => ?_)
      replace hl := hl1
      clear hl1
      refine lv_iconst (v := (-1)) hX.1.1 hX.1.2.1 dX7_suspend_30 (by decide) ?_
      refine rw_istore_n (lv' := [(2, .int (-1)), (1, .int v3), (0, .ref (gS γ 8 0))]) hX hl (by decide) rfl dX7_suspend_31 rfl (fun ls hl1 => ?_)
      replace hl := hl1
      clear hl1
      refine rw_aload_n hX hl 2 rfl (Or.inr ⟨_, rfl⟩) dX7_suspend_32 rfl ?_
      refine rw_iload_n hX hl 1 rfl dX7_suspend_33 rfl ?_
      obtain ⟨v6, g8, hw1⟩ := ob1_some hw
      replace hw := hw1
      clear hw1
      refine rw_cVi hX hR pk_f8_lastOf (mc := 0) (ms := 0) ⟨rfl, rfl, (show 2 + 1 ≤ 6 by omega), (show 8 + (4 + 11) + 64 * 2 ≤ 64 * 6 by omega)⟩ (As := [.int v3]) (rest := []) rfl (C_f8_lastOf l γ ad v3 (zi σ 800 0 (b2i y1)) v6 g8) gw_1152 gw_1154 gs_67 (rs_recv hX hR 8 0 (C := RX7) (T := TX7) (N := 48) rfl (by decide) (Nat.le_of_ble_eq_true rfl) rfl) rfl hl.1 ca0 (Nat.le_of_ble_eq_true rfl) dX7_suspend_34 ⟨(show (cells + 0) + 0 ≤ 0 by omega), (show (slots + 0) + 0 ≤ 0 by omega)⟩ (fun H locs hR1 => ?_)
      replace hR := hR1
      clear hR1
      refine rw_istore_n (lv' := [(3, .int v6), (2, .int (-1)), (1, .int v3), (0, .ref (gS γ 8 0))]) hX hl (by decide) rfl dX7_suspend_37 rfl (fun ls hl1 => ?_)
      replace hl := hl1
      clear hl1
      exact L38 _ _ _ _ (by omega) (by omega) _ _ _ hw hR (lh_sub hl [3, 2, 1, 0] rfl)
    · replace hw := if_f hw c2
      refine lv_iconst (v := 0) hX.1.1 hX.1.2.1 dX7_suspend_23 (by decide) ?_
      refine W.widen (k := 0) (n := 0) (by omega) (by omega) ?_
      exact rq_ie hX hR hr hw dX7_suspend_24 hlocks
  refine rw_entry (ca1 rfl ca0) (Nat.le_of_ble_eq_true rfl) (fun ls hl1 => ?_)
  replace hl := hl1
  clear hl1
  refine rw_aload_n hX hl 0 rfl (Or.inr ⟨_, rfl⟩) dX7_suspend_0 rfl ?_
  refine rw_aload_n hX hl 0 rfl (Or.inr ⟨_, rfl⟩) dX7_suspend_1 rfl ?_
  refine rw_get hX hR 8 2 0 (C := RX7) (T := TX7) (N := 48) rfl (by decide) (Nat.le_of_ble_eq_true rfl) rfl (v := .int (b2i (gb σ 802 0))) rfl uw_X7 gw_930 rfl dX7_suspend_2 ?_
  refine rw_ifeqZ (b := (gb σ 802 0)) (tgt := 12) hX dX7_suspend_5 (by decide) (fun c1 => ?_) (fun c1 => ?_)
  · replace hw := if_f hw c1
    refine lv_iconst (v := 0) hX.1.1 hX.1.2.1 dX7_suspend_12 (by decide) ?_
    exact J13 false σ _ _ (by omega) (by omega) _ _ _ hw hR (lh_sub hl [0] rfl)
  · replace hw := if_t hw c1
    refine lv_iconst (v := 1) hX.1.1 hX.1.2.1 dX7_suspend_8 (by decide) ?_
    refine lv_goto (tgt := 13) hX.1.1 hX.1.2.1 dX7_suspend_9 (by decide) ?_
    exact J13 true σ _ _ (by omega) (by omega) _ _ _ hw hR (lh_sub hl [0] rfl)
set_option maxHeartbeats 8000000 in
set_option maxRecDepth 100000 in
theorem C_f8_firstOf (l : Launch) (γ : GT) (ad : Nat → Nat → Nat) {fu : Nat} (a1 : Int32) (σ : St) (r : Int32) (hw : f8_firstOf fu a1 σ = some r) : Met l yX7_firstOf (Cond.code yX7_firstOf cX7_firstOf 4 (Option.some Jvm.ClassFile.FieldType.int) :: GW) (rmo 2 0 0) (va_Pc [.ref (gS γ 8 0), .int a1] (RU γ ad σ)) (QI γ ad σ r) 0 0 (gA γ) := by
  refine Met.ofW (cc := cX7_firstOf) (maxL := 4) (ret := (Option.some Jvm.ClassFile.FieldType.int)) (by decide +kernel) rfl ?_
  intro p e s m args below meth c s₁ B hml hv
  obtain ⟨rfl, hU⟩ := hv
  obtain ⟨hX, hR⟩ := cx_of (own := RX7) B hml rfl hU
  have hr := B.returns
  have hlocks := B.notSynchronized
  have hc0 : (0 : Nat) ≤ 0 := Nat.le_refl 0
  show W p l e (rmo 2 0 0) s m ([.ref (gS γ 8 0), .int a1] : List Value).toArray below meth c s.heap [] 0 0 (MQ below (QI γ ad σ r) ([.ref (gS γ 8 0), .int a1] : List Value).toArray s 0 0 (gA γ)) (entryFrame m ([.ref (gS γ 8 0), .int a1] : List Value).toArray 4)
  unfold f8_firstOf at hw
  have L4 : ∀ (x1 : Int32) (n : Nat) (s9 : (Int32 × Int32)) (cells slots : Nat), cells ≤ 0 → slots ≤ 0 → ∀ (H : Heap) (locs : List Loc) (ls : Array Slot), lp (fun s8 => f8_firstOf_b4 fu x1 s8.1 s8.2 σ) n s9 = some r → RS γ ad σ s H locs → lh ls 4 [(0, .ref (gS γ 8 0)), (1, .int x1), (2, .int s9.1), (3, .int s9.2)] → W p l e (rmo 2 0 0) s m ([.ref (gS γ 8 0), .int a1] : List Value).toArray below meth c H locs cells slots (MQ below (QI γ ad σ r) ([.ref (gS γ 8 0), .int a1] : List Value).toArray s 0 0 (gA γ)) (F0 m 4 ls []) := by
    intro x1 n4
    induction n4 with
    | zero => intro s9 cells slots hc1 hc2 H locs ls hw hR hl; exact (lp_zero hw).elim
    | succ n4 ih4 =>
      intro s9 cells slots hc1 hc2 H locs ls hw hR hl
      obtain ⟨o4, hw1, hb4, ho4⟩ := lp_succ hw
      replace hw := hw1
      clear hw1
      obtain ⟨x2, x3⟩ := s9
      replace hw : f8_firstOf_b4 fu x1 x2 x3 σ = some o4 := hw
      replace hl : lh ls 4 [(0, .ref (gS γ 8 0)), (1, .int x1), (2, .int x2), (3, .int x3)] := hl
      unfold f8_firstOf_b4 at hw
      have J53 : ∀ (x3 : Int32) (y0 : Int32) (cells slots : Nat), cells ≤ 0 → slots ≤ 0 → ∀ (H : Heap) (locs : List Loc) (ls : Array Slot), f8_firstOf_j53 fu x1 x3 y0 σ = some o4 → RS γ ad σ s H locs → lh ls 4 [(0, .ref (gS γ 8 0)), (1, .int x1), (3, .int x3)] → W p l e (rmo 2 0 0) s m ([.ref (gS γ 8 0), .int a1] : List Value).toArray below meth c H locs cells slots (MQ below (QI γ ad σ r) ([.ref (gS γ 8 0), .int a1] : List Value).toArray s 0 0 (gA γ)) (F0 m 53 ls [.int y0]) := by
        intro x3 y0 cells slots hc1 hc2 H locs ls hw hR hl
        unfold f8_firstOf_j53 at hw
        refine rw_istore_n (lv' := [(2, .int y0), (0, .ref (gS γ 8 0)), (1, .int x1), (3, .int x3)]) hX hl (by decide) rfl dX7_firstOf_53 rfl (fun ls hl1 => ?_)
        replace hl := hl1
        clear hl1
        refine rw_iinc (k := 3) (v := (x3 + 1)) (lv' := [(3, .int (x3 + 1)), (2, .int y0), (0, .ref (gS γ 8 0)), (1, .int x1)]) hX hl rfl (congrArg (fun q => x3 + q) (show Int32.ofInt 1 = 1 by decide)) (by decide) rfl dX7_firstOf_54 (fun ls hl1 => ?_)
        replace hl := hl1
        clear hl1
        refine lv_goto (tgt := 4) hX.1.1 hX.1.2.1 dX7_firstOf_57 (by decide) ?_
        exact ih4 _ _ _ (by omega) (by omega) _ _ _ (lp_back hw hb4) hR (lh_sub hl [2, 3, 1, 0] rfl)
      have J52 : ∀ (x2 : Int32) (x3 : Int32) (cells slots : Nat), cells ≤ 0 → slots ≤ 0 → ∀ (H : Heap) (locs : List Loc) (ls : Array Slot), f8_firstOf_j52 fu x1 x2 x3 σ = some o4 → RS γ ad σ s H locs → lh ls 4 [(0, .ref (gS γ 8 0)), (1, .int x1), (2, .int x2), (3, .int x3)] → W p l e (rmo 2 0 0) s m ([.ref (gS γ 8 0), .int a1] : List Value).toArray below meth c H locs cells slots (MQ below (QI γ ad σ r) ([.ref (gS γ 8 0), .int a1] : List Value).toArray s 0 0 (gA γ)) (F0 m 52 ls []) := by
        intro x2 x3 cells slots hc1 hc2 H locs ls hw hR hl
        unfold f8_firstOf_j52 at hw
        refine rw_iload_n hX hl 2 rfl dX7_firstOf_52 rfl ?_
        exact J53 x3 x2 _ _ (by omega) (by omega) _ _ _ hw hR (lh_sub hl [0, 1, 3] rfl)
      have J48 : ∀ (x3 : Int32) (cells slots : Nat), cells ≤ 0 → slots ≤ 0 → ∀ (H : Heap) (locs : List Loc) (ls : Array Slot), f8_firstOf_j48 fu x1 x3 σ = some o4 → RS γ ad σ s H locs → lh ls 4 [(0, .ref (gS γ 8 0)), (1, .int x1), (3, .int x3)] → W p l e (rmo 2 0 0) s m ([.ref (gS γ 8 0), .int a1] : List Value).toArray below meth c H locs cells slots (MQ below (QI γ ad σ r) ([.ref (gS γ 8 0), .int a1] : List Value).toArray s 0 0 (gA γ)) (F0 m 48 ls []) := by
        intro x3 cells slots hc1 hc2 H locs ls hw hR hl
        unfold f8_firstOf_j48 at hw
        refine rw_iload_n hX hl 2 rfl dX7_firstOf_48 rfl ?_
        refine lv_goto (tgt := 53) hX.1.1 hX.1.2.1 dX7_firstOf_49 (by decide) ?_
        exact J53 x3 x3 _ _ (by omega) (by omega) _ _ _ hw hR (lh_sub hl [0, 1, 2] rfl)
      refine rw_iload_n hX hl 3 rfl dX7_firstOf_4 rfl ?_
      refine rw_aload_n hX hl 0 rfl (Or.inr ⟨_, rfl⟩) dX7_firstOf_5 rfl ?_
      refine rw_get hX hR 8 3 0 (C := RX7) (T := TX7) (N := 48) rfl (by decide) (Nat.le_of_ble_eq_true rfl) rfl (v := .int (gi σ 803 0)) rfl uw_X7 gw_931 rfl dX7_firstOf_6 ?_
      refine lv_icmp_ge (x := x3) (y := (gi σ 803 0)) (tgt := 60) hX.1.1 hX.1.2.1 dX7_firstOf_9 (by decide) (fun c1 => ?_) (fun c1 => ?_)
      · replace hw := if_t hw c1
        replace hw := lp_out hw ho4
        refine rw_iload_n hX hl 2 rfl dX7_firstOf_60 rfl ?_
        refine W.widen (k := 0) (n := 0) (by omega) (by omega) ?_
        exact rq_i hX hR hr hw dX7_firstOf_61 hlocks
      · replace hw := if_f hw c1
        refine rw_iload_n hX hl 1 rfl dX7_firstOf_12 rfl ?_
        refine rw_iload_n hX hl 3 rfl dX7_firstOf_13 rfl ?_
        obtain ⟨v2, g4, hw1⟩ := ob1_some hw
        replace hw := hw1
        clear hw1
        refine rw_cSi hX hR pk_f8_has (mc := 0) (ms := 0) ⟨rfl, rfl, (show 1 + 1 ≤ 2 by omega), (show 8 + (2 + 11) + 64 * 1 ≤ 64 * 2 by omega)⟩ (As := [.int x1, .int x3]) (rest := []) rfl (C_f8_has l γ ad x1 x3 σ v2 g4) gw_1145 gw_1146 rfl hl.1 ca0 (Nat.le_of_ble_eq_true rfl) dX7_firstOf_14 ⟨(show cells + 0 ≤ 0 by omega), (show slots + 0 ≤ 0 by omega)⟩ (fun H locs hR1 => ?_)
        replace hR := hR1
        clear hR1
        refine rw_ifeqZ (b := v2) (tgt := 52) hX dX7_firstOf_17 (by decide) (fun c5 => ?_) (fun c5 => ?_)
        · replace hw := if_f hw c5
          exact J52 x2 x3 _ _ (by omega) (by omega) _ _ _ hw hR (lh_sub hl [0, 1, 2, 3] rfl)
        · replace hw := if_t hw c5
          refine rw_aload_n hX hl 0 rfl (Or.inr ⟨_, rfl⟩) dX7_firstOf_20 rfl ?_
          refine rw_iload_n hX hl 3 rfl dX7_firstOf_21 rfl ?_
          obtain ⟨v6, g8, hw1⟩ := ob1_some hw
          replace hw := hw1
          clear hw1
          refine rw_cVi hX hR pk_f8_isBound (mc := 0) (ms := 0) ⟨rfl, rfl, (show 1 + 1 ≤ 2 by omega), (show 8 + (2 + 11) + 64 * 1 ≤ 64 * 2 by omega)⟩ (As := [.int x3]) (rest := []) rfl (C_f8_isBound l γ ad x3 σ v6 g8) gw_1097 gw_1099 gs_55 (rs_recv hX hR 8 0 (C := RX7) (T := TX7) (N := 48) rfl (by decide) (Nat.le_of_ble_eq_true rfl) rfl) rfl hl.1 ca0 (Nat.le_of_ble_eq_true rfl) dX7_firstOf_22 ⟨(show (cells + 0) + 0 ≤ 0 by omega), (show (slots + 0) + 0 ≤ 0 by omega)⟩ (fun H locs hR1 => ?_)
          replace hR := hR1
          clear hR1
          refine rw_ifeqZ (b := v6) (tgt := 52) hX dX7_firstOf_25 (by decide) (fun c9 => ?_) (fun c9 => ?_)
          · replace hw := if_f hw c9
            exact J52 x2 x3 _ _ (by omega) (by omega) _ _ _ hw hR (lh_sub hl [0, 1, 2, 3] rfl)
          · replace hw := if_t hw c9
            refine rw_iload_n hX hl 2 rfl dX7_firstOf_28 rfl ?_
            refine lv_iconst (v := (-1)) hX.1.1 hX.1.2.1 dX7_firstOf_29 (by decide) ?_
            refine lv_icmp_eq (x := x2) (y := (-1)) (tgt := 48) hX.1.1 hX.1.2.1 dX7_firstOf_30 (by decide) (fun c10 => ?_) (fun c10 => ?_)
            · replace hw := if_t hw c10
              exact J48 x3 _ _ (by omega) (by omega) _ _ _ hw hR (lh_sub hl [0, 1, 3] rfl)
            · replace hw := if_f hw c10
              refine rw_aload_n hX hl 0 rfl (Or.inr ⟨_, rfl⟩) dX7_firstOf_33 rfl ?_
              refine rw_get hX hR 8 20 0 (C := RX7) (T := TX7) (N := 48) rfl (by decide) (Nat.le_of_ble_eq_true rfl) rfl (v := .ref (gS γ 1820 0)) rfl uw_X7 gw_948 rfl dX7_firstOf_34 ?_
              refine rw_iload_n hX hl 3 rfl dX7_firstOf_37 rfl ?_
              obtain ⟨h12, hw1⟩ := ar_some hw
              replace hw := hw1
              clear hw1
              obtain ⟨j11, ej11⟩ : ∃ j, (x3 : Int32).toNatClampNeg = j := ⟨_, rfl⟩
              rw [ej11] at hw
              refine rw_iald hX hR 820 (n := 24) (i := x3) (v := (gi σ 820 j11)) rfl (by decide) rfl rfl h12 (by rw [ej11]) dX7_firstOf_38 ?_
              refine rw_aload_n hX hl 0 rfl (Or.inr ⟨_, rfl⟩) dX7_firstOf_39 rfl ?_
              refine rw_get hX hR 8 20 0 (C := RX7) (T := TX7) (N := 48) rfl (by decide) (Nat.le_of_ble_eq_true rfl) rfl (v := .ref (gS γ 1820 0)) rfl uw_X7 gw_948 rfl dX7_firstOf_40 ?_
              refine rw_iload_n hX hl 2 rfl dX7_firstOf_43 rfl ?_
              obtain ⟨h14, hw1⟩ := ar_some hw
              replace hw := hw1
              clear hw1
              obtain ⟨j13, ej13⟩ : ∃ j, (x2 : Int32).toNatClampNeg = j := ⟨_, rfl⟩
              rw [ej13] at hw
              refine rw_iald hX hR 820 (n := 24) (i := x2) (v := (gi σ 820 j13)) rfl (by decide) rfl rfl h14 (by rw [ej13]) dX7_firstOf_44 ?_
              refine lv_icmp_ge (x := (gi σ 820 j11)) (y := (gi σ 820 j13)) (tgt := 52) hX.1.1 hX.1.2.1 dX7_firstOf_45 (by decide) (fun c15 => ?_) (fun c15 => ?_)
              · replace hw := if_t hw c15
                exact J52 x2 x3 _ _ (by omega) (by omega) _ _ _ hw hR (lh_sub hl [0, 1, 2, 3] rfl)
              · replace hw := if_f hw c15
                exact J48 x3 _ _ (by omega) (by omega) _ _ _ hw hR (lh_sub hl [0, 1, 3] rfl)
  refine rw_entry (ca1 rfl (ca1 rfl ca0)) (Nat.le_of_ble_eq_true rfl) (fun ls hl1 => ?_)
  replace hl := hl1
  clear hl1
  refine lv_iconst (v := (-1)) hX.1.1 hX.1.2.1 dX7_firstOf_0 (by decide) ?_
  refine rw_istore_n (lv' := [(2, .int (-1)), (0, .ref (gS γ 8 0)), (1, .int a1)]) hX hl (by decide) rfl dX7_firstOf_1 rfl (fun ls hl1 => ?_)
  replace hl := hl1
  clear hl1
  refine lv_iconst (v := 0) hX.1.1 hX.1.2.1 dX7_firstOf_2 (by decide) ?_
  refine rw_istore_n (lv' := [(3, .int 0), (2, .int (-1)), (0, .ref (gS γ 8 0)), (1, .int a1)]) hX hl (by decide) rfl dX7_firstOf_3 rfl (fun ls hl1 => ?_)
  replace hl := hl1
  clear hl1
  exact L4 a1 _ _ _ _ (by omega) (by omega) _ _ _ hw hR (lh_sub hl [2, 3, 1, 0] rfl)
set_option maxHeartbeats 8000000 in
set_option maxRecDepth 100000 in
theorem C_f8_ask (l : Launch) (γ : GT) (ad : Nat → Nat → Nat) {fu : Nat} (a1 : Int32) (σ : St) (r : Int32) (σ' : St) (hw : f8_ask fu a1 σ = some (r, σ')) : Met l yX7_ask (Cond.code yX7_ask cX7_ask 5 (Option.some Jvm.ClassFile.FieldType.int) :: GW) (rmo 3 0 0) (va_Pc [.ref (gS γ 8 0), .int a1] (RU γ ad σ)) (QI γ ad σ' r) 0 0 (gA γ) := by
  refine Met.ofW (cc := cX7_ask) (maxL := 5) (ret := (Option.some Jvm.ClassFile.FieldType.int)) (by decide +kernel) rfl ?_
  intro p e s m args below meth c s₁ B hml hv
  obtain ⟨rfl, hU⟩ := hv
  obtain ⟨hX, hR⟩ := cx_of (own := RX7) B hml rfl hU
  have hr := B.returns
  have hlocks := B.notSynchronized
  have hc0 : (0 : Nat) ≤ 0 := Nat.le_refl 0
  show W p l e (rmo 3 0 0) s m ([.ref (gS γ 8 0), .int a1] : List Value).toArray below meth c s.heap [] 0 0 (MQ below (QI γ ad σ' r) ([.ref (gS γ 8 0), .int a1] : List Value).toArray s 0 0 (gA γ)) (entryFrame m ([.ref (gS γ 8 0), .int a1] : List Value).toArray 5)
  unfold f8_ask at hw
  have L55 : ∀ (n : Nat) (s9 : (Int32 × Int32 × Int32 × St)) (cells slots : Nat), cells ≤ 0 → slots ≤ 0 → ∀ (H : Heap) (locs : List Loc) (ls : Array Slot), lp (fun s8 => f8_ask_b55 fu s8.1 s8.2.1 s8.2.2.1 s8.2.2.2) n s9 = some (r, σ') → RS γ ad (s9.2.2.2) s H locs → lh ls 5 [(0, .ref (gS γ 8 0)), (2, .int s9.1), (3, .int s9.2.1), (4, .int s9.2.2.1)] → W p l e (rmo 3 0 0) s m ([.ref (gS γ 8 0), .int a1] : List Value).toArray below meth c H locs cells slots (MQ below (QI γ ad σ' r) ([.ref (gS γ 8 0), .int a1] : List Value).toArray s 0 0 (gA γ)) (F0 m 55 ls []) := by
    intro n55
    induction n55 with
    | zero => intro s9 cells slots hc1 hc2 H locs ls hw hR hl; exact (lp_zero hw).elim
    | succ n55 ih55 =>
      intro s9 cells slots hc1 hc2 H locs ls hw hR hl
      obtain ⟨o55, hw1, hb55, ho55⟩ := lp_succ hw
      replace hw := hw1
      clear hw1
      obtain ⟨x2, x3, x4, σ⟩ := s9
      replace hw : f8_ask_b55 fu x2 x3 x4 σ = some o55 := hw
      replace hR : RS γ ad σ s H locs := hR
      replace hl : lh ls 5 [(0, .ref (gS γ 8 0)), (2, .int x2), (3, .int x3), (4, .int x4)] := hl
      unfold f8_ask_b55 at hw
      have J122 : ∀ (x2 : Int32) (x3 : Int32) (σ : St) (cells slots : Nat), cells ≤ 0 → slots ≤ 0 → ∀ (H : Heap) (locs : List Loc) (ls : Array Slot), f8_ask_j122 fu x2 x3 σ = some o55 → RS γ ad σ s H locs → lh ls 5 [(0, .ref (gS γ 8 0)), (2, .int x2), (3, .int x3)] → W p l e (rmo 3 0 0) s m ([.ref (gS γ 8 0), .int a1] : List Value).toArray below meth c H locs cells slots (MQ below (QI γ ad σ' r) ([.ref (gS γ 8 0), .int a1] : List Value).toArray s 0 0 (gA γ)) (F0 m 122 ls []) := by
        intro x2 x3 σ cells slots hc1 hc2 H locs ls hw hR hl
        unfold f8_ask_j122 at hw
        refine rw_aload_n hX hl 0 rfl (Or.inr ⟨_, rfl⟩) dX7_ask_122 rfl ?_
        refine rw_iload_n hX hl 1 rfl dX7_ask_123 rfl ?_
        obtain ⟨v9, g11, hw1⟩ := ob1_some hw
        replace hw := hw1
        clear hw1
        refine rw_cVi hX hR pk_f8_firstOf (mc := 0) (ms := 0) ⟨rfl, rfl, (show 2 + 1 ≤ 3 by omega), (show 8 + (4 + 11) + 64 * 2 ≤ 64 * 3 by omega)⟩ (As := [.int x2]) (rest := []) rfl (C_f8_firstOf l γ ad x2 σ v9 g11) gw_1272 gw_1274 gs_81 (rs_recv hX hR 8 0 (C := RX7) (T := TX7) (N := 48) rfl (by decide) (Nat.le_of_ble_eq_true rfl) rfl) rfl hl.1 ca0 (Nat.le_of_ble_eq_true rfl) dX7_ask_124 ⟨(show cells + 0 ≤ 0 by omega), (show slots + 0 ≤ 0 by omega)⟩ (fun H locs hR1 => ?_)
        replace hR := hR1
        clear hR1
        refine rw_istore (lv' := [(4, .int v9), (0, .ref (gS γ 8 0)), (2, .int x2), (3, .int x3)]) hX hl (by decide) rfl dX7_ask_127 (fun ls hl1 => ?_)
        replace hl := hl1
        clear hl1
        refine lv_goto (tgt := 55) hX.1.1 hX.1.2.1 dX7_ask_129 (by decide) ?_
        exact ih55 _ _ _ (by omega) (by omega) _ _ _ (lp_back hw hb55) hR (lh_sub hl [1, 2, 3, 0] rfl)
      have J105 : ∀ (x2 : Int32) (x3 : Int32) (x4 : Int32) (σ : St) (cells slots : Nat), cells ≤ 0 → slots ≤ 0 → ∀ (H : Heap) (locs : List Loc) (ls : Array Slot), f8_ask_j105 fu x2 x3 x4 σ = some o55 → RS γ ad σ s H locs → lh ls 5 [(0, .ref (gS γ 8 0)), (2, .int x2), (3, .int x3), (4, .int x4)] → W p l e (rmo 3 0 0) s m ([.ref (gS γ 8 0), .int a1] : List Value).toArray below meth c H locs cells slots (MQ below (QI γ ad σ' r) ([.ref (gS γ 8 0), .int a1] : List Value).toArray s 0 0 (gA γ)) (F0 m 105 ls []) := by
        intro x2 x3 x4 σ cells slots hc1 hc2 H locs ls hw hR hl
        unfold f8_ask_j105 at hw
        refine rw_aload_n hX hl 0 rfl (Or.inr ⟨_, rfl⟩) dX7_ask_105 rfl ?_
        refine rw_iload hX hl 3 rfl dX7_ask_106 ?_
        obtain ⟨σ16, g17, hw1⟩ := ob1_some hw
        replace hw := hw1
        clear hw1
        refine rw_cVv hX hR pk_f8_wake (mc := 0) (ms := 0) ⟨rfl, rfl, (show 2 + 1 ≤ 3 by omega), (show 8 + (5 + 11) + 64 * 2 ≤ 64 * 3 by omega)⟩ (As := [.int x4]) (rest := []) rfl (C_f8_wake l γ ad x4 σ σ16 g17) gw_1133 gw_1135 gs_64 (rs_recv hX hR 8 0 (C := RX7) (T := TX7) (N := 48) rfl (by decide) (Nat.le_of_ble_eq_true rfl) rfl) rfl hl.1 ca0 (Nat.le_of_ble_eq_true rfl) dX7_ask_108 ⟨(show cells + 0 ≤ 0 by omega), (show slots + 0 ≤ 0 by omega)⟩ (fun H locs hR1 => ?_)
        replace hR := hR1
        clear hR1
        refine rw_aload_n hX hl 0 rfl (Or.inr ⟨_, rfl⟩) dX7_ask_111 rfl ?_
        refine rw_get hX hR 8 17 0 (C := RX7) (T := TX7) (N := 48) rfl (by decide) (Nat.le_of_ble_eq_true rfl) rfl (v := .ref (gS γ 1817 0)) rfl uw_X7 gw_945 rfl dX7_ask_112 ?_
        refine rw_iload hX hl 3 rfl dX7_ask_115 ?_
        refine lv_iconst (v := 0) hX.1.1 hX.1.2.1 dX7_ask_117 (by decide) ?_
        obtain ⟨h19, hw1⟩ := ar_some hw
        replace hw := hw1
        clear hw1
        obtain ⟨j18, ej18⟩ : ∃ j, (x4 : Int32).toNatClampNeg = j := ⟨_, rfl⟩
        rw [ej18] at hw
        refine rw_zast hX hR 817 (n := 24) (i := x4) (x := false) rfl (by decide) rfl rfl h19 dX7_ask_118 (fun σ1 H locs e1 hR1 => ?_)
        replace hR := hR1
        clear hR1
        rw [ej18] at e1
        subst e1
        refine rw_iinc (k := 2) (v := (x3 + 1)) (lv' := [(3, .int (x3 + 1)), (0, .ref (gS γ 8 0)), (2, .int x2), (4, .int x4)]) hX hl rfl (congrArg (fun q => x3 + q) (show Int32.ofInt 1 = 1 by decide)) (by decide) rfl dX7_ask_119 (fun ls hl1 => ?_)
        replace hl := hl1
        clear hl1
        exact J122 x2 (x3 + 1) (zb σ16 817 j18 false) _ _ (by omega) (by omega) _ _ _ hw hR (lh_sub hl [1, 2, 0] rfl)
      refine rw_iload hX hl 3 rfl dX7_ask_55 ?_
      refine lv_iconst (v := (-1)) hX.1.1 hX.1.2.1 dX7_ask_57 (by decide) ?_
      refine lv_icmp_eq (x := x4) (y := (-1)) (tgt := 132) hX.1.1 hX.1.2.1 dX7_ask_58 (by decide) (fun c5 => ?_) (fun c5 => ?_)
      · replace hw := if_t hw c5
        replace hw := lp_out hw ho55
        refine rw_iload_n hX hl 2 rfl dX7_ask_132 rfl ?_
        refine W.widen (k := 0) (n := 0) (by omega) (by omega) ?_
        exact rq_ie hX hR hr hw dX7_ask_133 hlocks
      · replace hw := if_f hw c5
        refine rw_iload_n hX hl 1 rfl dX7_ask_61 rfl ?_
        refine lv_iconst (v := 1) hX.1.1 hX.1.2.1 dX7_ask_62 (by decide) ?_
        refine rw_iload hX hl 3 rfl dX7_ask_63 ?_
        refine lv_ishl (x := 1) (y := x4) hX.1.1 hX.1.2.1 dX7_ask_65 ?_
        refine lv_iconst (v := (-1)) hX.1.1 hX.1.2.1 dX7_ask_66 (by decide) ?_
        refine lv_ixor (x := (1 <<< (x4 &&& 31))) (y := (-1)) hX.1.1 hX.1.2.1 dX7_ask_67 ?_
        refine lv_iand (x := x2) (y := ((1 <<< (x4 &&& 31)) ^^^ (-1))) hX.1.1 hX.1.2.1 dX7_ask_68 ?_
        refine rw_istore_n (lv' := [(2, .int (x2 &&& ((1 <<< (x4 &&& 31)) ^^^ (-1)))), (0, .ref (gS γ 8 0)), (3, .int x3), (4, .int x4)]) hX hl (by decide) rfl dX7_ask_69 rfl (fun ls hl1 => ?_)
        replace hl := hl1
        clear hl1
        refine rw_aload_n hX hl 1 rfl (Or.inr ⟨_, rfl⟩) dX7_ask_70 rfl ?_
        refine rw_get hX hR 8 17 0 (C := RX7) (T := TX7) (N := 48) rfl (by decide) (Nat.le_of_ble_eq_true rfl) rfl (v := .ref (gS γ 1817 0)) rfl uw_X7 gw_945 rfl dX7_ask_71 ?_
        refine rw_iload hX hl 3 rfl dX7_ask_74 ?_
        obtain ⟨h7, hw1⟩ := ar_some hw
        replace hw := hw1
        clear hw1
        obtain ⟨j6, ej6⟩ : ∃ j, (x4 : Int32).toNatClampNeg = j := ⟨_, rfl⟩
        rw [ej6] at hw
        refine rw_zald hX hR 817 (n := 24) (i := x4) (v := (gb σ 817 j6)) rfl (by decide) rfl rfl h7 (by rw [ej6]) dX7_ask_76 ?_
        refine rw_ifeqZ (b := (gb σ 817 j6)) (tgt := 122) hX dX7_ask_77 (by decide) (fun c8 => ?_) (fun c8 => ?_)
        · replace hw := if_f hw c8
          exact J122 (x2 &&& ((1 <<< (x4 &&& 31)) ^^^ (-1))) x3 σ _ _ (by omega) (by omega) _ _ _ hw hR (lh_sub hl [1, 0, 2] rfl)
        · replace hw := if_t hw c8
          refine rw_aload_n hX hl 1 rfl (Or.inr ⟨_, rfl⟩) dX7_ask_80 rfl ?_
          refine rw_get hX hR 8 13 0 (C := RX7) (T := TX7) (N := 48) rfl (by decide) (Nat.le_of_ble_eq_true rfl) rfl (v := .ref (gS γ 1813 0)) rfl uw_X7 gw_941 rfl dX7_ask_81 ?_
          refine rw_iload hX hl 3 rfl dX7_ask_84 ?_
          obtain ⟨h13, hw1⟩ := ar_some hw
          replace hw := hw1
          clear hw1
          obtain ⟨j12, ej12⟩ : ∃ j, (x4 : Int32).toNatClampNeg = j := ⟨_, rfl⟩
          rw [ej12] at hw
          refine rw_zald hX hR 813 (n := 24) (i := x4) (v := (gb σ 813 j12)) rfl (by decide) rfl rfl h13 (by rw [ej12]) dX7_ask_86 ?_
          refine rw_ifneZ (b := (gb σ 813 j12)) (tgt := 105) hX dX7_ask_87 (by decide) (fun c14 => ?_) (fun c14 => ?_)
          · replace hw := if_t hw c14
            exact J105 (x2 &&& ((1 <<< (x4 &&& 31)) ^^^ (-1))) x3 x4 σ _ _ (by omega) (by omega) _ _ _ hw hR (lh_sub hl [1, 0, 2, 3] rfl)
          · replace hw := if_f hw c14
            refine rw_aload_n hX hl 1 rfl (Or.inr ⟨_, rfl⟩) dX7_ask_90 rfl ?_
            refine rw_get hX hR 8 28 0 (C := RX7) (T := TX7) (N := 48) rfl (by decide) (Nat.le_of_ble_eq_true rfl) rfl (v := .ref (gS γ 1828 0)) rfl uw_X7 gw_956 rfl dX7_ask_91 ?_
            refine rw_aload_n hX hl 1 rfl (Or.inr ⟨_, rfl⟩) dX7_ask_94 rfl ?_
            refine rw_get hX hR 8 12 0 (C := RX7) (T := TX7) (N := 48) rfl (by decide) (Nat.le_of_ble_eq_true rfl) rfl (v := .ref (gS γ 1812 0)) rfl uw_X7 gw_940 rfl dX7_ask_95 ?_
            refine rw_iload hX hl 3 rfl dX7_ask_98 ?_
            obtain ⟨h21, hw1⟩ := ar_some hw
            replace hw := hw1
            clear hw1
            obtain ⟨j20, ej20⟩ : ∃ j, (x4 : Int32).toNatClampNeg = j := ⟨_, rfl⟩
            rw [ej20] at hw
            refine rw_iald hX hR 812 (n := 24) (i := x4) (v := (gi σ 812 j20)) rfl (by decide) rfl rfl h21 (by rw [ej20]) dX7_ask_100 ?_
            obtain ⟨h23, hw1⟩ := ar_some hw
            replace hw := hw1
            clear hw1
            obtain ⟨j22, ej22⟩ : ∃ j, ((gi σ 812 j20) : Int32).toNatClampNeg = j := ⟨_, rfl⟩
            rw [ej22] at hw
            refine rw_zald hX hR 828 (n := 8) (i := (gi σ 812 j20)) (v := (gb σ 828 j22)) rfl (by decide) rfl rfl h23 (by rw [ej22]) dX7_ask_101 ?_
            refine rw_ifeqZ (b := (gb σ 828 j22)) (tgt := 122) hX dX7_ask_102 (by decide) (fun c24 => ?_) (fun c24 => ?_)
            · replace hw := if_f hw c24
              exact J122 (x2 &&& ((1 <<< (x4 &&& 31)) ^^^ (-1))) x3 σ _ _ (by omega) (by omega) _ _ _ hw hR (lh_sub hl [1, 0, 2] rfl)
            · replace hw := if_t hw c24
              exact J105 (x2 &&& ((1 <<< (x4 &&& 31)) ^^^ (-1))) x3 x4 σ _ _ (by omega) (by omega) _ _ _ hw hR (lh_sub hl [1, 0, 2, 3] rfl)
  have L4 : ∀ (x1 : Int32) (σ : St) (n : Nat) (s9 : (Int32 × Int32)) (cells slots : Nat), cells ≤ 0 → slots ≤ 0 → ∀ (H : Heap) (locs : List Loc) (ls : Array Slot), lp (fun s8 => f8_ask_b4 fu x1 s8.1 s8.2 σ) n s9 = some (r, σ') → RS γ ad σ s H locs → lh ls 5 [(0, .ref (gS γ 8 0)), (1, .int x1), (2, .int s9.1), (3, .int s9.2)] → W p l e (rmo 3 0 0) s m ([.ref (gS γ 8 0), .int a1] : List Value).toArray below meth c H locs cells slots (MQ below (QI γ ad σ' r) ([.ref (gS γ 8 0), .int a1] : List Value).toArray s 0 0 (gA γ)) (F0 m 4 ls []) := by
    intro x1 σ n4
    induction n4 with
    | zero => intro s9 cells slots hc1 hc2 H locs ls hw hR hl; exact (lp_zero hw).elim
    | succ n4 ih4 =>
      intro s9 cells slots hc1 hc2 H locs ls hw hR hl
      obtain ⟨o4, hw1, hb4, ho4⟩ := lp_succ hw
      replace hw := hw1
      clear hw1
      obtain ⟨x2, x3⟩ := s9
      replace hw : f8_ask_b4 fu x1 x2 x3 σ = some o4 := hw
      replace hl : lh ls 5 [(0, .ref (gS γ 8 0)), (1, .int x1), (2, .int x2), (3, .int x3)] := hl
      unfold f8_ask_b4 at hw
      have J38 : ∀ (x3 : Int32) (y0 : Int32) (y1 : Int32) (cells slots : Nat), cells ≤ 0 → slots ≤ 0 → ∀ (H : Heap) (locs : List Loc) (ls : Array Slot), f8_ask_j38 fu x1 x3 y0 y1 σ = some o4 → RS γ ad σ s H locs → lh ls 5 [(0, .ref (gS γ 8 0)), (1, .int x1), (3, .int x3)] → W p l e (rmo 3 0 0) s m ([.ref (gS γ 8 0), .int a1] : List Value).toArray below meth c H locs cells slots (MQ below (QI γ ad σ' r) ([.ref (gS γ 8 0), .int a1] : List Value).toArray s 0 0 (gA γ)) (F0 m 38 ls [.int y1, .int y0]) := by
        intro x3 y0 y1 cells slots hc1 hc2 H locs ls hw hR hl
        unfold f8_ask_j38 at hw
        refine lv_ior (x := y0) (y := y1) hX.1.1 hX.1.2.1 dX7_ask_38 ?_
        refine rw_istore_n (lv' := [(2, .int (y0 ||| y1)), (0, .ref (gS γ 8 0)), (1, .int x1), (3, .int x3)]) hX hl (by decide) rfl dX7_ask_39 rfl (fun ls hl1 => ?_)
        replace hl := hl1
        clear hl1
        refine rw_iinc (k := 3) (v := (x3 + 1)) (lv' := [(3, .int (x3 + 1)), (2, .int (y0 ||| y1)), (0, .ref (gS γ 8 0)), (1, .int x1)]) hX hl rfl (congrArg (fun q => x3 + q) (show Int32.ofInt 1 = 1 by decide)) (by decide) rfl dX7_ask_40 (fun ls hl1 => ?_)
        replace hl := hl1
        clear hl1
        refine lv_goto (tgt := 4) hX.1.1 hX.1.2.1 dX7_ask_43 (by decide) ?_
        exact ih4 _ _ _ (by omega) (by omega) _ _ _ (lp_back hw hb4) hR (lh_sub hl [2, 3, 1, 0] rfl)
      refine rw_iload_n hX hl 3 rfl dX7_ask_4 rfl ?_
      refine rw_aload_n hX hl 0 rfl (Or.inr ⟨_, rfl⟩) dX7_ask_5 rfl ?_
      refine rw_get hX hR 8 3 0 (C := RX7) (T := TX7) (N := 48) rfl (by decide) (Nat.le_of_ble_eq_true rfl) rfl (v := .int (gi σ 803 0)) rfl uw_X7 gw_931 rfl dX7_ask_6 ?_
      refine lv_icmp_ge (x := x3) (y := (gi σ 803 0)) (tgt := 46) hX.1.1 hX.1.2.1 dX7_ask_9 (by decide) (fun c1 => ?_) (fun c1 => ?_)
      · replace hw := if_t hw c1
        replace hw := lp_out hw ho4
        refine lv_iconst (v := 0) hX.1.1 hX.1.2.1 dX7_ask_46 (by decide) ?_
        refine rw_istore_n (lv' := [(3, .int 0), (0, .ref (gS γ 8 0)), (1, .int x1), (2, .int x2)]) hX hl (by decide) rfl dX7_ask_47 rfl (fun ls hl1 => ?_)
        replace hl := hl1
        clear hl1
        refine rw_aload_n hX hl 1 rfl (Or.inr ⟨_, rfl⟩) dX7_ask_48 rfl ?_
        refine rw_iload_n hX hl 3 rfl dX7_ask_49 rfl ?_
        obtain ⟨v2, g4, hw1⟩ := ob1_some hw
        replace hw := hw1
        clear hw1
        refine rw_cVi hX hR pk_f8_firstOf (mc := 0) (ms := 0) ⟨rfl, rfl, (show 2 + 1 ≤ 3 by omega), (show 8 + (4 + 11) + 64 * 2 ≤ 64 * 3 by omega)⟩ (As := [.int x2]) (rest := []) rfl (C_f8_firstOf l γ ad x2 σ v2 g4) gw_1272 gw_1274 gs_81 (rs_recv hX hR 8 0 (C := RX7) (T := TX7) (N := 48) rfl (by decide) (Nat.le_of_ble_eq_true rfl) rfl) rfl hl.1 ca0 (Nat.le_of_ble_eq_true rfl) dX7_ask_50 ⟨(show cells + 0 ≤ 0 by omega), (show slots + 0 ≤ 0 by omega)⟩ (fun H locs hR1 => ?_)
        replace hR := hR1
        clear hR1
        refine rw_istore (lv' := [(4, .int v2), (3, .int 0), (0, .ref (gS γ 8 0)), (1, .int x1), (2, .int x2)]) hX hl (by decide) rfl dX7_ask_53 (fun ls hl1 => ?_)
        replace hl := hl1
        clear hl1
        exact L55 _ _ _ _ (by omega) (by omega) _ _ _ hw hR (lh_sub hl [2, 4, 1, 0] rfl)
      · replace hw := if_f hw c1
        refine rw_iload_n hX hl 2 rfl dX7_ask_12 rfl ?_
        refine rw_aload_n hX hl 0 rfl (Or.inr ⟨_, rfl⟩) dX7_ask_13 rfl ?_
        refine rw_iload_n hX hl 3 rfl dX7_ask_14 rfl ?_
        obtain ⟨v25, g27, hw1⟩ := ob1_some hw
        replace hw := hw1
        clear hw1
        refine rw_cVi hX hR pk_f8_isBound (mc := 0) (ms := 0) ⟨rfl, rfl, (show 1 + 1 ≤ 3 by omega), (show 8 + (2 + 11) + 64 * 1 ≤ 64 * 3 by omega)⟩ (As := [.int x3]) (rest := [.int x2]) rfl (C_f8_isBound l γ ad x3 σ v25 g27) gw_1097 gw_1099 gs_55 (rs_recv hX hR 8 0 (C := RX7) (T := TX7) (N := 48) rfl (by decide) (Nat.le_of_ble_eq_true rfl) rfl) rfl hl.1 (ca1 rfl ca0) (Nat.le_of_ble_eq_true rfl) dX7_ask_15 ⟨(show cells + 0 ≤ 0 by omega), (show slots + 0 ≤ 0 by omega)⟩ (fun H locs hR1 => ?_)
        replace hR := hR1
        clear hR1
        refine rw_ifeqZ (b := v25) (tgt := 37) hX dX7_ask_18 (by decide) (fun c28 => ?_) (fun c28 => ?_)
        · replace hw := if_f hw c28
          refine lv_iconst (v := 0) hX.1.1 hX.1.2.1 dX7_ask_37 (by decide) ?_
          exact J38 x3 x2 0 _ _ (by omega) (by omega) _ _ _ hw hR (lh_sub hl [0, 1, 3] rfl)
        · replace hw := if_t hw c28
          refine rw_aload_n hX hl 0 rfl (Or.inr ⟨_, rfl⟩) dX7_ask_21 rfl ?_
          refine rw_get hX hR 8 7 0 (C := RX7) (T := TX7) (N := 48) rfl (by decide) (Nat.le_of_ble_eq_true rfl) rfl (v := .ref (gS γ 1807 0)) rfl uw_X7 gw_935 rfl dX7_ask_22 ?_
          refine rw_iload_n hX hl 3 rfl dX7_ask_25 rfl ?_
          obtain ⟨h30, hw1⟩ := ar_some hw
          replace hw := hw1
          clear hw1
          obtain ⟨j29, ej29⟩ : ∃ j, (x3 : Int32).toNatClampNeg = j := ⟨_, rfl⟩
          rw [ej29] at hw
          refine rw_iald hX hR 807 (n := 24) (i := x3) (v := (gi σ 807 j29)) rfl (by decide) rfl rfl h30 (by rw [ej29]) dX7_ask_26 ?_
          refine rw_iload_n hX hl 1 rfl dX7_ask_27 rfl ?_
          refine lv_icmp_ne (x := (gi σ 807 j29)) (y := x1) (tgt := 37) hX.1.1 hX.1.2.1 dX7_ask_28 (by decide) (fun c31 => ?_) (fun c31 => ?_)
          · replace hw := if_f hw c31
            refine lv_iconst (v := 0) hX.1.1 hX.1.2.1 dX7_ask_37 (by decide) ?_
            exact J38 x3 x2 0 _ _ (by omega) (by omega) _ _ _ hw hR (lh_sub hl [0, 1, 3] rfl)
          · replace hw := if_t hw c31
            refine lv_iconst (v := 1) hX.1.1 hX.1.2.1 dX7_ask_31 (by decide) ?_
            refine rw_iload_n hX hl 3 rfl dX7_ask_32 rfl ?_
            refine lv_ishl (x := 1) (y := x3) hX.1.1 hX.1.2.1 dX7_ask_33 ?_
            refine lv_goto (tgt := 38) hX.1.1 hX.1.2.1 dX7_ask_34 (by decide) ?_
            exact J38 x3 x2 (1 <<< (x3 &&& 31)) _ _ (by omega) (by omega) _ _ _ hw hR (lh_sub hl [0, 1, 3] rfl)
  refine rw_entry (ca1 rfl (ca1 rfl ca0)) (Nat.le_of_ble_eq_true rfl) (fun ls hl1 => ?_)
  replace hl := hl1
  clear hl1
  refine lv_iconst (v := 0) hX.1.1 hX.1.2.1 dX7_ask_0 (by decide) ?_
  refine rw_istore_n (lv' := [(2, .int 0), (0, .ref (gS γ 8 0)), (1, .int a1)]) hX hl (by decide) rfl dX7_ask_1 rfl (fun ls hl1 => ?_)
  replace hl := hl1
  clear hl1
  refine lv_iconst (v := 0) hX.1.1 hX.1.2.1 dX7_ask_2 (by decide) ?_
  refine rw_istore_n (lv' := [(3, .int 0), (2, .int 0), (0, .ref (gS γ 8 0)), (1, .int a1)]) hX hl (by decide) rfl dX7_ask_3 rfl (fun ls hl1 => ?_)
  replace hl := hl1
  clear hl1
  exact L4 a1 σ _ _ _ _ (by omega) (by omega) _ _ _ hw hR (lh_sub hl [2, 3, 1, 0] rfl)
set_option maxHeartbeats 8000000 in
set_option maxRecDepth 100000 in
theorem C_f8_resume (l : Launch) (γ : GT) (ad : Nat → Nat → Nat) {fu : Nat} (σ : St) (r : Int32) (σ' : St) (hw : f8_resume fu σ = some (r, σ')) : Met l yX7_resume (Cond.code yX7_resume cX7_resume 4 (Option.some Jvm.ClassFile.FieldType.int) :: GW) (rmo 6 0 0) (va_Pc [.ref (gS γ 8 0)] (RU γ ad σ)) (QI γ ad σ' r) 0 0 (gA γ) := by
  refine Met.ofW (cc := cX7_resume) (maxL := 4) (ret := (Option.some Jvm.ClassFile.FieldType.int)) (by decide +kernel) rfl ?_
  intro p e s m args below meth c s₁ B hml hv
  obtain ⟨rfl, hU⟩ := hv
  obtain ⟨hX, hR⟩ := cx_of (own := RX7) B hml rfl hU
  have hr := B.returns
  have hlocks := B.notSynchronized
  have hc0 : (0 : Nat) ≤ 0 := Nat.le_refl 0
  show W p l e (rmo 6 0 0) s m ([.ref (gS γ 8 0)] : List Value).toArray below meth c s.heap [] 0 0 (MQ below (QI γ ad σ' r) ([.ref (gS γ 8 0)] : List Value).toArray s 0 0 (gA γ)) (entryFrame m ([.ref (gS γ 8 0)] : List Value).toArray 4)
  unfold f8_resume at hw
  have L65 : ∀ (x1 : Int32) (n : Nat) (s9 : (Int32 × St)) (cells slots : Nat), cells ≤ 0 → slots ≤ 0 → ∀ (H : Heap) (locs : List Loc) (ls : Array Slot), lp (fun s8 => f8_resume_b65 fu x1 s8.1 s8.2) n s9 = some (r, σ') → RS γ ad (s9.2) s H locs → lh ls 4 [(0, .ref (gS γ 8 0)), (1, .int x1), (2, .int s9.1)] → W p l e (rmo 6 0 0) s m ([.ref (gS γ 8 0)] : List Value).toArray below meth c H locs cells slots (MQ below (QI γ ad σ' r) ([.ref (gS γ 8 0)] : List Value).toArray s 0 0 (gA γ)) (F0 m 65 ls []) := by
    intro x1 n65
    induction n65 with
    | zero => intro s9 cells slots hc1 hc2 H locs ls hw hR hl; exact (lp_zero hw).elim
    | succ n65 ih65 =>
      intro s9 cells slots hc1 hc2 H locs ls hw hR hl
      obtain ⟨o65, hw1, hb65, ho65⟩ := lp_succ hw
      replace hw := hw1
      clear hw1
      obtain ⟨x2, σ⟩ := s9
      replace hw : f8_resume_b65 fu x1 x2 σ = some o65 := hw
      replace hR : RS γ ad σ s H locs := hR
      replace hl : lh ls 4 [(0, .ref (gS γ 8 0)), (1, .int x1), (2, .int x2)] := hl
      unfold f8_resume_b65 at hw
      have J90 : ∀ (x2 : Int32) (y0 : Int32) (σ : St) (cells slots : Nat), cells ≤ 0 → slots ≤ 0 → ∀ (H : Heap) (locs : List Loc) (ls : Array Slot), f8_resume_j90 fu x1 x2 y0 σ = some o65 → RS γ ad σ s H locs → lh ls 4 [(0, .ref (gS γ 8 0)), (1, .int x1), (2, .int x2)] → W p l e (rmo 6 0 0) s m ([.ref (gS γ 8 0)] : List Value).toArray below meth c H locs cells slots (MQ below (QI γ ad σ' r) ([.ref (gS γ 8 0)] : List Value).toArray s 0 0 (gA γ)) (F0 m 90 ls [.int y0]) := by
        intro x2 y0 σ cells slots hc1 hc2 H locs ls hw hR hl
        unfold f8_resume_j90 at hw
        refine rw_istore_n (lv' := [(3, .int y0), (0, .ref (gS γ 8 0)), (1, .int x1), (2, .int x2)]) hX hl (by decide) rfl dX7_resume_90 rfl (fun ls hl1 => ?_)
        replace hl := hl1
        clear hl1
        refine rw_iinc (k := 3) (v := (x2 + 1)) (lv' := [(2, .int (x2 + 1)), (3, .int y0), (0, .ref (gS γ 8 0)), (1, .int x1)]) hX hl rfl (congrArg (fun q => x2 + q) (show Int32.ofInt 1 = 1 by decide)) (by decide) rfl dX7_resume_91 (fun ls hl1 => ?_)
        replace hl := hl1
        clear hl1
        refine lv_goto (tgt := 65) hX.1.1 hX.1.2.1 dX7_resume_94 (by decide) ?_
        exact ih65 _ _ _ (by omega) (by omega) _ _ _ (lp_back hw hb65) hR (lh_sub hl [2, 3, 0] rfl)
      refine rw_iload_n hX hl 2 rfl dX7_resume_65 rfl ?_
      refine lv_bipush (v := 8) hX.1.1 hX.1.2.1 dX7_resume_66 (by decide) ?_
      refine lv_icmp_ge (x := x2) (y := 8) (tgt := 97) hX.1.1 hX.1.2.1 dX7_resume_68 (by decide) (fun c7 => ?_) (fun c7 => ?_)
      · replace hw := if_t hw c7
        replace hw := lp_out hw ho65
        refine rw_aload_n hX hl 0 rfl (Or.inr ⟨_, rfl⟩) dX7_resume_97 rfl ?_
        obtain ⟨σ9, g10, hw1⟩ := ob1_some hw
        replace hw := hw1
        clear hw1
        refine rw_cVv hX hR pk_f8_settle (mc := 0) (ms := 0) ⟨rfl, rfl, (show 5 + 1 ≤ 6 by omega), (show 8 + (3 + 11) + 64 * 5 ≤ 64 * 6 by omega)⟩ (As := []) (rest := []) rfl (C_f8_settle l γ ad σ σ9 g10) gw_1093 gw_1095 gs_54 (rs_recv hX hR 8 0 (C := RX7) (T := TX7) (N := 48) rfl (by decide) (Nat.le_of_ble_eq_true rfl) rfl) rfl hl.1 ca0 (Nat.le_of_ble_eq_true rfl) dX7_resume_98 ⟨(show cells + 0 ≤ 0 by omega), (show slots + 0 ≤ 0 by omega)⟩ (fun H locs hR1 => ?_)
        replace hR := hR1
        clear hR1
        refine rw_iload_n hX hl 1 rfl dX7_resume_101 rfl ?_
        refine W.widen (k := 0) (n := 0) (by omega) (by omega) ?_
        exact rq_ie hX hR hr hw dX7_resume_102 hlocks
      · replace hw := if_f hw c7
        refine rw_aload_n hX hl 0 rfl (Or.inr ⟨_, rfl⟩) dX7_resume_71 rfl ?_
        refine rw_get hX hR 8 38 0 (C := RX7) (T := TX7) (N := 48) rfl (by decide) (Nat.le_of_ble_eq_true rfl) rfl (v := .ref (gS γ 1838 0)) rfl uw_X7 gw_966 rfl dX7_resume_72 ?_
        refine rw_iload_n hX hl 2 rfl dX7_resume_75 rfl ?_
        obtain ⟨h12, hw1⟩ := ar_some hw
        replace hw := hw1
        clear hw1
        obtain ⟨j11, ej11⟩ : ∃ j, (x2 : Int32).toNatClampNeg = j := ⟨_, rfl⟩
        rw [ej11] at hw
        refine rw_iald hX hR 838 (n := 8) (i := x2) (v := (gi σ 838 j11)) rfl (by decide) rfl rfl h12 (by rw [ej11]) dX7_resume_76 ?_
        refine lv_iconst (v := 3) hX.1.1 hX.1.2.1 dX7_resume_77 (by decide) ?_
        refine lv_icmp_ge (x := (gi σ 838 j11)) (y := 3) (tgt := 89) hX.1.1 hX.1.2.1 dX7_resume_78 (by decide) (fun c13 => ?_) (fun c13 => ?_)
        · replace hw := if_t hw c13
          refine lv_iconst (v := 0) hX.1.1 hX.1.2.1 dX7_resume_89 (by decide) ?_
          exact J90 x2 0 σ _ _ (by omega) (by omega) _ _ _ hw hR (lh_sub hl [0, 1, 2] rfl)
        · replace hw := if_f hw c13
          refine rw_aload_n hX hl 0 rfl (Or.inr ⟨_, rfl⟩) dX7_resume_81 rfl ?_
          refine rw_iload_n hX hl 2 rfl dX7_resume_82 rfl ?_
          obtain ⟨v14, σ15, g16, hw1⟩ := ob2_some hw
          replace hw := hw1
          clear hw1
          refine rw_cVi hX hR pk_f8_ask (mc := 0) (ms := 0) ⟨rfl, rfl, (show 3 + 1 ≤ 6 by omega), (show 8 + (5 + 11) + 64 * 3 ≤ 64 * 6 by omega)⟩ (As := [.int x2]) (rest := []) rfl (C_f8_ask l γ ad x2 σ v14 σ15 g16) gw_1268 gw_1270 gs_80 (rs_recv hX hR 8 0 (C := RX7) (T := TX7) (N := 48) rfl (by decide) (Nat.le_of_ble_eq_true rfl) rfl) rfl hl.1 ca0 (Nat.le_of_ble_eq_true rfl) dX7_resume_83 ⟨(show cells + 0 ≤ 0 by omega), (show slots + 0 ≤ 0 by omega)⟩ (fun H locs hR1 => ?_)
          replace hR := hR1
          clear hR1
          refine lv_goto (tgt := 90) hX.1.1 hX.1.2.1 dX7_resume_86 (by decide) ?_
          exact J90 x2 v14 σ15 _ _ (by omega) (by omega) _ _ _ hw hR (lh_sub hl [0, 1, 2] rfl)
  have L40 : ∀ (n : Nat) (s9 : (Int32 × St)) (cells slots : Nat), cells ≤ 0 → slots ≤ 0 → ∀ (H : Heap) (locs : List Loc) (ls : Array Slot), lp (fun s8 => f8_resume_b40 fu s8.1 s8.2) n s9 = some (r, σ') → RS γ ad (s9.2) s H locs → lh ls 4 [(0, .ref (gS γ 8 0)), (1, .int s9.1)] → W p l e (rmo 6 0 0) s m ([.ref (gS γ 8 0)] : List Value).toArray below meth c H locs cells slots (MQ below (QI γ ad σ' r) ([.ref (gS γ 8 0)] : List Value).toArray s 0 0 (gA γ)) (F0 m 40 ls []) := by
    intro n40
    induction n40 with
    | zero => intro s9 cells slots hc1 hc2 H locs ls hw hR hl; exact (lp_zero hw).elim
    | succ n40 ih40 =>
      intro s9 cells slots hc1 hc2 H locs ls hw hR hl
      obtain ⟨o40, hw1, hb40, ho40⟩ := lp_succ hw
      replace hw := hw1
      clear hw1
      obtain ⟨x1, σ⟩ := s9
      replace hw : f8_resume_b40 fu x1 σ = some o40 := hw
      replace hR : RS γ ad σ s H locs := hR
      replace hl : lh ls 4 [(0, .ref (gS γ 8 0)), (1, .int x1)] := hl
      unfold f8_resume_b40 at hw
      refine rw_iload_n hX hl 1 rfl dX7_resume_40 rfl ?_
      refine lv_iconst (v := (-1)) hX.1.1 hX.1.2.1 dX7_resume_41 (by decide) ?_
      refine lv_icmp_eq (x := x1) (y := (-1)) (tgt := 58) hX.1.1 hX.1.2.1 dX7_resume_42 (by decide) (fun c6 => ?_) (fun c6 => ?_)
      · replace hw := if_t hw c6
        replace hw := lp_out hw ho40
        refine rw_aload_n hX hl 0 rfl (Or.inr ⟨_, rfl⟩) dX7_resume_58 rfl ?_
        refine rw_get hX hR 8 47 0 (C := RX7) (T := TX7) (N := 48) rfl (by decide) (Nat.le_of_ble_eq_true rfl) rfl (v := .int (gi σ 847 0)) rfl uw_X7 gw_975 rfl dX7_resume_59 ?_
        refine rw_istore_n (lv' := [(1, .int (gi σ 847 0)), (0, .ref (gS γ 8 0))]) hX hl (by decide) rfl dX7_resume_62 rfl (fun ls hl1 => ?_)
        replace hl := hl1
        clear hl1
        refine lv_iconst (v := 0) hX.1.1 hX.1.2.1 dX7_resume_63 (by decide) ?_
        refine rw_istore_n (lv' := [(2, .int 0), (1, .int (gi σ 847 0)), (0, .ref (gS γ 8 0))]) hX hl (by decide) rfl dX7_resume_64 rfl (fun ls hl1 => ?_)
        replace hl := hl1
        clear hl1
        exact L65 (gi σ 847 0) _ _ _ _ (by omega) (by omega) _ _ _ hw hR (lh_sub hl [2, 1, 0] rfl)
      · replace hw := if_f hw c6
        refine rw_aload_n hX hl 0 rfl (Or.inr ⟨_, rfl⟩) dX7_resume_45 rfl ?_
        refine rw_iload_n hX hl 1 rfl dX7_resume_46 rfl ?_
        obtain ⟨σ18, g19, hw1⟩ := ob1_some hw
        replace hw := hw1
        clear hw1
        refine rw_cVv hX hR pk_f8_wake (mc := 0) (ms := 0) ⟨rfl, rfl, (show 2 + 1 ≤ 6 by omega), (show 8 + (5 + 11) + 64 * 2 ≤ 64 * 6 by omega)⟩ (As := [.int x1]) (rest := []) rfl (C_f8_wake l γ ad x1 σ σ18 g19) gw_1133 gw_1135 gs_64 (rs_recv hX hR 8 0 (C := RX7) (T := TX7) (N := 48) rfl (by decide) (Nat.le_of_ble_eq_true rfl) rfl) rfl hl.1 ca0 (Nat.le_of_ble_eq_true rfl) dX7_resume_47 ⟨(show cells + 0 ≤ 0 by omega), (show slots + 0 ≤ 0 by omega)⟩ (fun H locs hR1 => ?_)
        replace hR := hR1
        clear hR1
        refine rw_aload_n hX hl 0 rfl (Or.inr ⟨_, rfl⟩) dX7_resume_50 rfl ?_
        obtain ⟨v20, g22, hw1⟩ := ob1_some hw
        replace hw := hw1
        clear hw1
        refine rw_cVi hX hR pk_f8_firstSlept (mc := 0) (ms := 0) ⟨rfl, rfl, (show 1 + 1 ≤ 6 by omega), (show 8 + (3 + 11) + 64 * 1 ≤ 64 * 6 by omega)⟩ (As := []) (rest := []) rfl (C_f8_firstSlept l γ ad σ18 v20 g22) gw_1260 gw_1262 gs_79 (rs_recv hX hR 8 0 (C := RX7) (T := TX7) (N := 48) rfl (by decide) (Nat.le_of_ble_eq_true rfl) rfl) rfl hl.1 ca0 (Nat.le_of_ble_eq_true rfl) dX7_resume_51 ⟨(show (cells + 0) + 0 ≤ 0 by omega), (show (slots + 0) + 0 ≤ 0 by omega)⟩ (fun H locs hR1 => ?_)
        replace hR := hR1
        clear hR1
        refine rw_istore_n (lv' := [(1, .int v20), (0, .ref (gS γ 8 0))]) hX hl (by decide) rfl dX7_resume_54 rfl (fun ls hl1 => ?_)
        replace hl := hl1
        clear hl1
        refine lv_goto (tgt := 40) hX.1.1 hX.1.2.1 dX7_resume_55 (by decide) ?_
        exact ih40 _ _ _ (by omega) (by omega) _ _ _ (lp_back hw hb40) hR (lh_sub hl [1, 0] rfl)
  have J13 : ∀ (y1 : Bool) (σ : St) (cells slots : Nat), cells ≤ 0 → slots ≤ 0 → ∀ (H : Heap) (locs : List Loc) (ls : Array Slot), f8_resume_j13 fu y1 σ = some (r, σ') → RS γ ad σ s H locs → lh ls 4 [(0, .ref (gS γ 8 0))] → W p l e (rmo 6 0 0) s m ([.ref (gS γ 8 0)] : List Value).toArray below meth c H locs cells slots (MQ below (QI γ ad σ' r) ([.ref (gS γ 8 0)] : List Value).toArray s 0 0 (gA γ)) (F0 m 13 ls [.int (b2i y1), .ref (gS γ 8 0)]) := by
    intro y1 σ cells slots hc1 hc2 H locs ls hw hR hl
    unfold f8_resume_j13 at hw
    refine rw_puti (x := (b2i y1)) hX hR 8 0 0 800 (C := RX7) (T := TX7) (N := 48) rfl (by decide) rfl rfl (Nat.le_of_ble_eq_true rfl) rfl uw_X7 tyX7 tyX7_ok nmX7 gw_928 rfl rfl (by decide) dX7_resume_13 (fun σ1 H locs e1 hR1 => ?_)
    replace hR := hR1
    clear hR1
    subst e1
    refine rw_aload_n hX hl 0 rfl (Or.inr ⟨_, rfl⟩) dX7_resume_16 rfl ?_
    refine rw_get hX hR 8 0 0 (C := RX7) (T := TX7) (N := 48) rfl (by decide) (Nat.le_of_ble_eq_true rfl) rfl (v := .int (gi (zi σ 800 0 (b2i y1)) 800 0)) rfl uw_X7 gw_928 rfl dX7_resume_17 ?_
    refine lv_if_eq (x := (gi (zi σ 800 0 (b2i y1)) 800 0)) (tgt := 25) hX.1.1 hX.1.2.1 dX7_resume_20 (by decide) (fun c2 => ?_) (fun c2 => ?_)
    · replace hw := if_t hw c2
      refine rw_aload_n hX hl 0 rfl (Or.inr ⟨_, rfl⟩) dX7_resume_25 rfl ?_
      refine lv_iconst (v := 0) hX.1.1 hX.1.2.1 dX7_resume_26 (by decide) ?_
      refine rw_putb (x := false) hX hR 8 2 0 802 (C := RX7) (T := TX7) (N := 48) rfl (by decide) rfl rfl (Nat.le_of_ble_eq_true rfl) rfl uw_X7 tyX7 tyX7_ok nmX7 gw_930 rfl rfl (by decide) dX7_resume_27 (fun σ1 H locs e1 hR1 => ?_)
      replace hR := hR1
      clear hR1
      subst e1
      refine rw_aload_n hX hl 0 rfl (Or.inr ⟨_, rfl⟩) dX7_resume_30 rfl ?_
      refine lv_iconst (v := 0) hX.1.1 hX.1.2.1 dX7_resume_31 (by decide) ?_
      refine rw_puti (x := 0) hX hR 8 47 0 847 (C := RX7) (T := TX7) (N := 48) rfl (by decide) rfl rfl (Nat.le_of_ble_eq_true rfl) rfl uw_X7 tyX7 tyX7_ok nmX7 gw_975 rfl rfl (by decide) dX7_resume_32 (fun σ1 H locs e1 hR1 => ?_)
      replace hR := hR1
      clear hR1
      subst e1
      refine rw_aload_n hX hl 0 rfl (Or.inr ⟨_, rfl⟩) dX7_resume_35 rfl ?_
      obtain ⟨v3, g5, hw1⟩ := ob1_some hw
      replace hw := hw1
      clear hw1
      refine rw_cVi hX hR pk_f8_firstSlept (mc := 0) (ms := 0) ⟨rfl, rfl, (show 1 + 1 ≤ 6 by omega), (show 8 + (3 + 11) + 64 * 1 ≤ 64 * 6 by omega)⟩ (As := []) (rest := []) rfl (C_f8_firstSlept l γ ad (zi (zb (zi σ 800 0 (b2i y1)) 802 0 false) 847 0 0) v3 g5) gw_1260 gw_1262 gs_79 (rs_recv hX hR 8 0 (C := RX7) (T := TX7) (N := 48) rfl (by decide) (Nat.le_of_ble_eq_true rfl) rfl) rfl hl.1 ca0 (Nat.le_of_ble_eq_true rfl) dX7_resume_36 ⟨(show cells + 0 ≤ 0 by omega), (show slots + 0 ≤ 0 by omega)⟩ (fun H locs hR1 => ?_)
      replace hR := hR1
      clear hR1
      refine rw_istore_n (lv' := [(1, .int v3), (0, .ref (gS γ 8 0))]) hX hl (by decide) rfl dX7_resume_39 rfl (fun ls hl1 => ?_)
      replace hl := hl1
      clear hl1
      exact L40 _ _ _ _ (by omega) (by omega) _ _ _ hw hR (lh_sub hl [1, 0] rfl)
    · replace hw := if_f hw c2
      refine lv_iconst (v := 0) hX.1.1 hX.1.2.1 dX7_resume_23 (by decide) ?_
      refine W.widen (k := 0) (n := 0) (by omega) (by omega) ?_
      exact rq_ie hX hR hr hw dX7_resume_24 hlocks
  refine rw_entry (ca1 rfl ca0) (Nat.le_of_ble_eq_true rfl) (fun ls hl1 => ?_)
  replace hl := hl1
  clear hl1
  refine rw_aload_n hX hl 0 rfl (Or.inr ⟨_, rfl⟩) dX7_resume_0 rfl ?_
  refine rw_aload_n hX hl 0 rfl (Or.inr ⟨_, rfl⟩) dX7_resume_1 rfl ?_
  refine rw_get hX hR 8 2 0 (C := RX7) (T := TX7) (N := 48) rfl (by decide) (Nat.le_of_ble_eq_true rfl) rfl (v := .int (b2i (gb σ 802 0))) rfl uw_X7 gw_930 rfl dX7_resume_2 ?_
  refine rw_ifeqZ (b := (gb σ 802 0)) (tgt := 12) hX dX7_resume_5 (by decide) (fun c1 => ?_) (fun c1 => ?_)
  · replace hw := if_f hw c1
    refine lv_iconst (v := 1) hX.1.1 hX.1.2.1 dX7_resume_12 (by decide) ?_
    exact J13 true σ _ _ (by omega) (by omega) _ _ _ hw hR (lh_sub hl [0] rfl)
  · replace hw := if_t hw c1
    refine lv_iconst (v := 0) hX.1.1 hX.1.2.1 dX7_resume_8 (by decide) ?_
    refine lv_goto (tgt := 13) hX.1.1 hX.1.2.1 dX7_resume_9 (by decide) ?_
    exact J13 false σ _ _ (by omega) (by omega) _ _ _ hw hR (lh_sub hl [0] rfl)
set_option maxHeartbeats 8000000 in
set_option maxRecDepth 100000 in
theorem C_f8_raise (l : Launch) (γ : GT) (ad : Nat → Nat → Nat) {fu : Nat} (a1 : Int32) (σ : St) (r : Int32) (σ' : St) (hw : f8_raise fu a1 σ = some (r, σ')) : Met l yX7_raise (Cond.code yX7_raise cX7_raise 4 (Option.some Jvm.ClassFile.FieldType.int) :: GW) (rmo 6 0 0) (va_Pc [.ref (gS γ 8 0), .int a1] (RU γ ad σ)) (QI γ ad σ' r) 0 0 (gA γ) := by
  refine Met.ofW (cc := cX7_raise) (maxL := 4) (ret := (Option.some Jvm.ClassFile.FieldType.int)) (by decide +kernel) rfl ?_
  intro p e s m args below meth c s₁ B hml hv
  obtain ⟨rfl, hU⟩ := hv
  obtain ⟨hX, hR⟩ := cx_of (own := RX7) B hml rfl hU
  have hr := B.returns
  have hlocks := B.notSynchronized
  have hc0 : (0 : Nat) ≤ 0 := Nat.le_refl 0
  show W p l e (rmo 6 0 0) s m ([.ref (gS γ 8 0), .int a1] : List Value).toArray below meth c s.heap [] 0 0 (MQ below (QI γ ad σ' r) ([.ref (gS γ 8 0), .int a1] : List Value).toArray s 0 0 (gA γ)) (entryFrame m ([.ref (gS γ 8 0), .int a1] : List Value).toArray 4)
  unfold f8_raise at hw
  have J126 : ∀ (x3 : Int32) (σ : St) (cells slots : Nat), cells ≤ 0 → slots ≤ 0 → ∀ (H : Heap) (locs : List Loc) (ls : Array Slot), f8_raise_j126 fu x3 σ = some (r, σ') → RS γ ad σ s H locs → lh ls 4 [(0, .ref (gS γ 8 0)), (3, .int x3)] → W p l e (rmo 6 0 0) s m ([.ref (gS γ 8 0), .int a1] : List Value).toArray below meth c H locs cells slots (MQ below (QI γ ad σ' r) ([.ref (gS γ 8 0), .int a1] : List Value).toArray s 0 0 (gA γ)) (F0 m 126 ls []) := by
    intro x3 σ cells slots hc1 hc2 H locs ls hw hR hl
    unfold f8_raise_j126 at hw
    refine rw_aload_n hX hl 0 rfl (Or.inr ⟨_, rfl⟩) dX7_raise_126 rfl ?_
    obtain ⟨σ15, g16, hw1⟩ := ob1_some hw
    replace hw := hw1
    clear hw1
    refine rw_cVv hX hR pk_f8_settle (mc := 0) (ms := 0) ⟨rfl, rfl, (show 5 + 1 ≤ 6 by omega), (show 8 + (3 + 11) + 64 * 5 ≤ 64 * 6 by omega)⟩ (As := []) (rest := []) rfl (C_f8_settle l γ ad σ σ15 g16) gw_1093 gw_1095 gs_54 (rs_recv hX hR 8 0 (C := RX7) (T := TX7) (N := 48) rfl (by decide) (Nat.le_of_ble_eq_true rfl) rfl) rfl hl.1 ca0 (Nat.le_of_ble_eq_true rfl) dX7_raise_127 ⟨(show cells + 0 ≤ 0 by omega), (show slots + 0 ≤ 0 by omega)⟩ (fun H locs hR1 => ?_)
    replace hR := hR1
    clear hR1
    refine rw_iload_n hX hl 1 rfl dX7_raise_130 rfl ?_
    refine W.widen (k := 0) (n := 0) (by omega) (by omega) ?_
    exact rq_ie hX hR hr hw dX7_raise_131 hlocks
  have J109 : ∀ (x2 : Int32) (x3 : Int32) (y1 : Int32) (y2 : Int32) (σ : St) (cells slots : Nat), cells ≤ 0 → slots ≤ 0 → ∀ (H : Heap) (locs : List Loc) (ls : Array Slot), f8_raise_j109 fu x2 x3 y1 y2 σ = some (r, σ') → RS γ ad σ s H locs → lh ls 4 [(0, .ref (gS γ 8 0)), (2, .int x2), (3, .int x3)] → W p l e (rmo 6 0 0) s m ([.ref (gS γ 8 0), .int a1] : List Value).toArray below meth c H locs cells slots (MQ below (QI γ ad σ' r) ([.ref (gS γ 8 0), .int a1] : List Value).toArray s 0 0 (gA γ)) (F0 m 109 ls [.int y2, .int y1, .ref (gS γ 1838 0)]) := by
    intro x2 x3 y1 y2 σ cells slots hc1 hc2 H locs ls hw hR hl
    unfold f8_raise_j109 at hw
    obtain ⟨h27, hw1⟩ := ar_some hw
    replace hw := hw1
    clear hw1
    obtain ⟨j26, ej26⟩ : ∃ j, (y1 : Int32).toNatClampNeg = j := ⟨_, rfl⟩
    rw [ej26] at hw
    refine rw_iast hX hR 838 (n := 8) (i := y1) (x := y2) rfl (by decide) rfl rfl h27 dX7_raise_109 (fun σ1 H locs e1 hR1 => ?_)
    replace hR := hR1
    clear hR1
    rw [ej26] at e1
    subst e1
    refine rw_aload_n hX hl 0 rfl (Or.inr ⟨_, rfl⟩) dX7_raise_110 rfl ?_
    refine rw_get hX hR 8 38 0 (C := RX7) (T := TX7) (N := 48) rfl (by decide) (Nat.le_of_ble_eq_true rfl) rfl (v := .ref (gS γ 1838 0)) rfl uw_X7 gw_966 rfl dX7_raise_111 ?_
    refine rw_iload_n hX hl 1 rfl dX7_raise_114 rfl ?_
    obtain ⟨h29, hw1⟩ := ar_some hw
    replace hw := hw1
    clear hw1
    obtain ⟨j28, ej28⟩ : ∃ j, (x2 : Int32).toNatClampNeg = j := ⟨_, rfl⟩
    rw [ej28] at hw
    refine rw_iald hX hR 838 (n := 8) (i := x2) (v := (gi (zi σ 838 j26 y2) 838 j28)) rfl (by decide) rfl rfl h29 (by rw [ej28]) dX7_raise_115 ?_
    refine lv_iconst (v := 3) hX.1.1 hX.1.2.1 dX7_raise_116 (by decide) ?_
    refine lv_icmp_ne (x := (gi (zi σ 838 j26 y2) 838 j28)) (y := 3) (tgt := 126) hX.1.1 hX.1.2.1 dX7_raise_117 (by decide) (fun c30 => ?_) (fun c30 => ?_)
    · replace hw := if_f hw c30
      exact J126 x3 (zi σ 838 j26 y2) _ _ (by omega) (by omega) _ _ _ hw hR (lh_sub hl [0, 2] rfl)
    · replace hw := if_t hw c30
      refine rw_aload_n hX hl 0 rfl (Or.inr ⟨_, rfl⟩) dX7_raise_120 rfl ?_
      refine lv_iconst (v := 5) hX.1.1 hX.1.2.1 dX7_raise_121 (by decide) ?_
      refine rw_iload_n hX hl 1 rfl dX7_raise_122 rfl ?_
      obtain ⟨σ32, g33, hw1⟩ := ob1_some hw
      replace hw := hw1
      clear hw1
      refine rw_cVv hX hR pk_f8_event (mc := 0) (ms := 0) ⟨rfl, rfl, (show 1 + 1 ≤ 6 by omega), (show 8 + (3 + 11) + 64 * 1 ≤ 64 * 6 by omega)⟩ (As := [.int 5, .int x2]) (rest := []) rfl (C_f8_event l γ ad 5 x2 (zi σ 838 j26 y2) σ32 g33) gw_1137 gw_1139 gs_65 (rs_recv hX hR 8 0 (C := RX7) (T := TX7) (N := 48) rfl (by decide) (Nat.le_of_ble_eq_true rfl) rfl) rfl hl.1 ca0 (Nat.le_of_ble_eq_true rfl) dX7_raise_123 ⟨(show cells + 0 ≤ 0 by omega), (show slots + 0 ≤ 0 by omega)⟩ (fun H locs hR1 => ?_)
      replace hR := hR1
      clear hR1
      exact J126 x3 σ32 _ _ (by omega) (by omega) _ _ _ hw hR (lh_sub hl [0, 2] rfl)
  have J37 : ∀ (x1 : Int32) (y1 : Int32) (σ : St) (cells slots : Nat), cells ≤ 0 → slots ≤ 0 → ∀ (H : Heap) (locs : List Loc) (ls : Array Slot), f8_raise_j37 fu x1 y1 σ = some (r, σ') → RS γ ad σ s H locs → lh ls 4 [(0, .ref (gS γ 8 0)), (1, .int x1)] → W p l e (rmo 6 0 0) s m ([.ref (gS γ 8 0), .int a1] : List Value).toArray below meth c H locs cells slots (MQ below (QI γ ad σ' r) ([.ref (gS γ 8 0), .int a1] : List Value).toArray s 0 0 (gA γ)) (F0 m 37 ls [.int y1, .ref (gS γ 8 0)]) := by
    intro x1 y1 σ cells slots hc1 hc2 H locs ls hw hR hl
    unfold f8_raise_j37 at hw
    refine rw_puti (x := y1) hX hR 8 0 0 800 (C := RX7) (T := TX7) (N := 48) rfl (by decide) rfl rfl (Nat.le_of_ble_eq_true rfl) rfl uw_X7 tyX7 tyX7_ok nmX7 gw_928 rfl rfl (by decide) dX7_raise_37 (fun σ1 H locs e1 hR1 => ?_)
    replace hR := hR1
    clear hR1
    subst e1
    refine rw_aload_n hX hl 0 rfl (Or.inr ⟨_, rfl⟩) dX7_raise_40 rfl ?_
    refine rw_get hX hR 8 0 0 (C := RX7) (T := TX7) (N := 48) rfl (by decide) (Nat.le_of_ble_eq_true rfl) rfl (v := .int (gi (zi σ 800 0 y1) 800 0)) rfl uw_X7 gw_928 rfl dX7_raise_41 ?_
    refine lv_if_eq (x := (gi (zi σ 800 0 y1) 800 0)) (tgt := 49) hX.1.1 hX.1.2.1 dX7_raise_44 (by decide) (fun c8 => ?_) (fun c8 => ?_)
    · replace hw := if_t hw c8
      refine rw_aload_n hX hl 0 rfl (Or.inr ⟨_, rfl⟩) dX7_raise_49 rfl ?_
      refine rw_get hX hR 8 7 0 (C := RX7) (T := TX7) (N := 48) rfl (by decide) (Nat.le_of_ble_eq_true rfl) rfl (v := .ref (gS γ 1807 0)) rfl uw_X7 gw_935 rfl dX7_raise_50 ?_
      refine rw_iload_n hX hl 1 rfl dX7_raise_53 rfl ?_
      obtain ⟨h10, hw1⟩ := ar_some hw
      replace hw := hw1
      clear hw1
      obtain ⟨j9, ej9⟩ : ∃ j, (x1 : Int32).toNatClampNeg = j := ⟨_, rfl⟩
      rw [ej9] at hw
      refine rw_iald hX hR 807 (n := 24) (i := x1) (v := (gi (zi σ 800 0 y1) 807 j9)) rfl (by decide) rfl rfl h10 (by rw [ej9]) dX7_raise_54 ?_
      refine rw_istore_n (lv' := [(2, .int (gi (zi σ 800 0 y1) 807 j9)), (0, .ref (gS γ 8 0)), (1, .int x1)]) hX hl (by decide) rfl dX7_raise_55 rfl (fun ls hl1 => ?_)
      replace hl := hl1
      clear hl1
      refine rw_aload_n hX hl 1 rfl (Or.inr ⟨_, rfl⟩) dX7_raise_56 rfl ?_
      refine rw_get hX hR 8 17 0 (C := RX7) (T := TX7) (N := 48) rfl (by decide) (Nat.le_of_ble_eq_true rfl) rfl (v := .ref (gS γ 1817 0)) rfl uw_X7 gw_945 rfl dX7_raise_57 ?_
      refine rw_iload_n hX hl 2 rfl dX7_raise_60 rfl ?_
      refine lv_iconst (v := 1) hX.1.1 hX.1.2.1 dX7_raise_61 (by decide) ?_
      obtain ⟨h12, hw1⟩ := ar_some hw
      replace hw := hw1
      clear hw1
      obtain ⟨j11, ej11⟩ : ∃ j, (x1 : Int32).toNatClampNeg = j := ⟨_, rfl⟩
      rw [ej11] at hw
      refine rw_zast hX hR 817 (n := 24) (i := x1) (x := true) rfl (by decide) rfl rfl h12 dX7_raise_62 (fun σ1 H locs e1 hR1 => ?_)
      replace hR := hR1
      clear hR1
      rw [ej11] at e1
      subst e1
      refine lv_iconst (v := 0) hX.1.1 hX.1.2.1 dX7_raise_63 (by decide) ?_
      refine rw_istore_n (lv' := [(3, .int 0), (2, .int (gi (zi σ 800 0 y1) 807 j9)), (0, .ref (gS γ 8 0)), (1, .int x1)]) hX hl (by decide) rfl dX7_raise_64 rfl (fun ls hl1 => ?_)
      replace hl := hl1
      clear hl1
      refine rw_aload_n hX hl 2 rfl (Or.inr ⟨_, rfl⟩) dX7_raise_65 rfl ?_
      refine rw_get hX hR 8 2 0 (C := RX7) (T := TX7) (N := 48) rfl (by decide) (Nat.le_of_ble_eq_true rfl) rfl (v := .int (b2i (gb (zb (zi σ 800 0 y1) 817 j11 true) 802 0))) rfl uw_X7 gw_930 rfl dX7_raise_66 ?_
      refine rw_ifneZ (b := (gb (zb (zi σ 800 0 y1) 817 j11 true) 802 0)) (tgt := 126) hX dX7_raise_69 (by decide) (fun c13 => ?_) (fun c13 => ?_)
      · replace hw := if_t hw c13
        exact J126 0 (zb (zi σ 800 0 y1) 817 j11 true) _ _ (by omega) (by omega) _ _ _ hw hR (lh_sub hl [2, 0] rfl)
      · replace hw := if_f hw c13
        refine rw_aload_n hX hl 2 rfl (Or.inr ⟨_, rfl⟩) dX7_raise_72 rfl ?_
        refine rw_get hX hR 8 38 0 (C := RX7) (T := TX7) (N := 48) rfl (by decide) (Nat.le_of_ble_eq_true rfl) rfl (v := .ref (gS γ 1838 0)) rfl uw_X7 gw_966 rfl dX7_raise_73 ?_
        refine rw_iload_n hX hl 1 rfl dX7_raise_76 rfl ?_
        obtain ⟨h18, hw1⟩ := ar_some hw
        replace hw := hw1
        clear hw1
        obtain ⟨j17, ej17⟩ : ∃ j, ((gi (zi σ 800 0 y1) 807 j9) : Int32).toNatClampNeg = j := ⟨_, rfl⟩
        rw [ej17] at hw
        refine rw_iald hX hR 838 (n := 8) (i := (gi (zi σ 800 0 y1) 807 j9)) (v := (gi (zb (zi σ 800 0 y1) 817 j11 true) 838 j17)) rfl (by decide) rfl rfl h18 (by rw [ej17]) dX7_raise_77 ?_
        refine lv_iconst (v := 3) hX.1.1 hX.1.2.1 dX7_raise_78 (by decide) ?_
        refine lv_icmp_ge (x := (gi (zb (zi σ 800 0 y1) 817 j11 true) 838 j17)) (y := 3) (tgt := 126) hX.1.1 hX.1.2.1 dX7_raise_79 (by decide) (fun c19 => ?_) (fun c19 => ?_)
        · replace hw := if_t hw c19
          exact J126 0 (zb (zi σ 800 0 y1) 817 j11 true) _ _ (by omega) (by omega) _ _ _ hw hR (lh_sub hl [2, 0] rfl)
        · replace hw := if_f hw c19
          refine rw_aload_n hX hl 2 rfl (Or.inr ⟨_, rfl⟩) dX7_raise_82 rfl ?_
          refine rw_iload_n hX hl 1 rfl dX7_raise_83 rfl ?_
          obtain ⟨v20, σ21, g22, hw1⟩ := ob2_some hw
          replace hw := hw1
          clear hw1
          refine rw_cVi hX hR pk_f8_ask (mc := 0) (ms := 0) ⟨rfl, rfl, (show 3 + 1 ≤ 6 by omega), (show 8 + (5 + 11) + 64 * 3 ≤ 64 * 6 by omega)⟩ (As := [.int (gi (zi σ 800 0 y1) 807 j9)]) (rest := []) rfl (C_f8_ask l γ ad (gi (zi σ 800 0 y1) 807 j9) (zb (zi σ 800 0 y1) 817 j11 true) v20 σ21 g22) gw_1268 gw_1270 gs_80 (rs_recv hX hR 8 0 (C := RX7) (T := TX7) (N := 48) rfl (by decide) (Nat.le_of_ble_eq_true rfl) rfl) rfl hl.1 ca0 (Nat.le_of_ble_eq_true rfl) dX7_raise_84 ⟨(show cells + 0 ≤ 0 by omega), (show slots + 0 ≤ 0 by omega)⟩ (fun H locs hR1 => ?_)
          replace hR := hR1
          clear hR1
          refine rw_istore_n (lv' := [(3, .int v20), (2, .int (gi (zi σ 800 0 y1) 807 j9)), (0, .ref (gS γ 8 0)), (1, .int x1)]) hX hl (by decide) rfl dX7_raise_87 rfl (fun ls hl1 => ?_)
          replace hl := hl1
          clear hl1
          refine rw_aload_n hX hl 2 rfl (Or.inr ⟨_, rfl⟩) dX7_raise_88 rfl ?_
          refine rw_get hX hR 8 38 0 (C := RX7) (T := TX7) (N := 48) rfl (by decide) (Nat.le_of_ble_eq_true rfl) rfl (v := .ref (gS γ 1838 0)) rfl uw_X7 gw_966 rfl dX7_raise_89 ?_
          refine rw_iload_n hX hl 1 rfl dX7_raise_92 rfl ?_
          refine rw_iload_n hX hl 0 rfl dX7_raise_93 rfl ?_
          refine lv_if_le (x := v20) (tgt := 101) hX.1.1 hX.1.2.1 dX7_raise_94 (by decide) (fun c23 => ?_) (fun c23 => ?_)
          · replace hw := if_t hw c23
            refine rw_aload_n hX hl 2 rfl (Or.inr ⟨_, rfl⟩) dX7_raise_101 rfl ?_
            refine rw_get hX hR 8 38 0 (C := RX7) (T := TX7) (N := 48) rfl (by decide) (Nat.le_of_ble_eq_true rfl) rfl (v := .ref (gS γ 1838 0)) rfl uw_X7 gw_966 rfl dX7_raise_102 ?_
            refine rw_iload_n hX hl 1 rfl dX7_raise_105 rfl ?_
            obtain ⟨h25, hw1⟩ := ar_some hw
            replace hw := hw1
            clear hw1
            obtain ⟨j24, ej24⟩ : ∃ j, ((gi (zi σ 800 0 y1) 807 j9) : Int32).toNatClampNeg = j := ⟨_, rfl⟩
            rw [ej24] at hw
            refine rw_iald hX hR 838 (n := 8) (i := (gi (zi σ 800 0 y1) 807 j9)) (v := (gi σ21 838 j24)) rfl (by decide) rfl rfl h25 (by rw [ej24]) dX7_raise_106 ?_
            refine lv_iconst (v := 1) hX.1.1 hX.1.2.1 dX7_raise_107 (by decide) ?_
            refine lv_iadd (x := (gi σ21 838 j24)) (y := 1) hX.1.1 hX.1.2.1 dX7_raise_108 ?_
            exact J109 (gi (zi σ 800 0 y1) 807 j9) v20 (gi (zi σ 800 0 y1) 807 j9) ((gi σ21 838 j24) + 1) σ21 _ _ (by omega) (by omega) _ _ _ hw hR (lh_sub hl [2, 1, 0] rfl)
          · replace hw := if_f hw c23
            refine lv_iconst (v := 0) hX.1.1 hX.1.2.1 dX7_raise_97 (by decide) ?_
            refine lv_goto (tgt := 109) hX.1.1 hX.1.2.1 dX7_raise_98 (by decide) ?_
            exact J109 (gi (zi σ 800 0 y1) 807 j9) v20 (gi (zi σ 800 0 y1) 807 j9) 0 σ21 _ _ (by omega) (by omega) _ _ _ hw hR (lh_sub hl [2, 1, 0] rfl)
    · replace hw := if_f hw c8
      refine lv_iconst (v := 0) hX.1.1 hX.1.2.1 dX7_raise_47 (by decide) ?_
      refine W.widen (k := 0) (n := 0) (by omega) (by omega) ?_
      exact rq_ie hX hR hr hw dX7_raise_48 hlocks
  refine rw_entry (ca1 rfl (ca1 rfl ca0)) (Nat.le_of_ble_eq_true rfl) (fun ls hl1 => ?_)
  replace hl := hl1
  clear hl1
  refine rw_aload_n hX hl 0 rfl (Or.inr ⟨_, rfl⟩) dX7_raise_0 rfl ?_
  refine rw_aload_n hX hl 0 rfl (Or.inr ⟨_, rfl⟩) dX7_raise_1 rfl ?_
  refine rw_iload_n hX hl 1 rfl dX7_raise_2 rfl ?_
  obtain ⟨v1, g3, hw1⟩ := ob1_some hw
  replace hw := hw1
  clear hw1
  refine rw_cVi hX hR pk_f8_isDevice (mc := 0) (ms := 0) ⟨rfl, rfl, (show 2 + 1 ≤ 6 by omega), (show 8 + (2 + 11) + 64 * 2 ≤ 64 * 6 by omega)⟩ (As := [.int a1]) (rest := [.ref (gS γ 8 0)]) rfl (C_f8_isDevice l γ ad a1 σ v1 g3) gw_1089 gw_1091 gs_53 (rs_recv hX hR 8 0 (C := RX7) (T := TX7) (N := 48) rfl (by decide) (Nat.le_of_ble_eq_true rfl) rfl) rfl hl.1 (ca1 rfl ca0) (Nat.le_of_ble_eq_true rfl) dX7_raise_3 ⟨(show 0 + 0 ≤ 0 by omega), (show 0 + 0 ≤ 0 by omega)⟩ (fun H locs hR1 => ?_)
  replace hR := hR1
  clear hR1
  refine rw_ifneZ (b := v1) (tgt := 13) hX dX7_raise_6 (by decide) (fun c4 => ?_) (fun c4 => ?_)
  · replace hw := if_t hw c4
    refine rw_aload_n hX hl 0 rfl (Or.inr ⟨_, rfl⟩) dX7_raise_13 rfl ?_
    refine rw_get hX hR 8 11 0 (C := RX7) (T := TX7) (N := 48) rfl (by decide) (Nat.le_of_ble_eq_true rfl) rfl (v := .ref (gS γ 1811 0)) rfl uw_X7 gw_939 rfl dX7_raise_14 ?_
    refine rw_iload_n hX hl 1 rfl dX7_raise_17 rfl ?_
    obtain ⟨h6, hw1⟩ := ar_some hw
    replace hw := hw1
    clear hw1
    obtain ⟨j5, ej5⟩ : ∃ j, (a1 : Int32).toNatClampNeg = j := ⟨_, rfl⟩
    rw [ej5] at hw
    refine rw_zald hX hR 811 (n := 24) (i := a1) (v := (gb σ 811 j5)) rfl (by decide) rfl rfl h6 (by rw [ej5]) dX7_raise_18 ?_
    refine rw_ifeqZ (b := (gb σ 811 j5)) (tgt := 32) hX dX7_raise_19 (by decide) (fun c7 => ?_) (fun c7 => ?_)
    · replace hw := if_f hw c7
      refine lv_iconst (v := 2) hX.1.1 hX.1.2.1 dX7_raise_32 (by decide) ?_
      refine lv_goto (tgt := 37) hX.1.1 hX.1.2.1 dX7_raise_33 (by decide) ?_
      exact J37 a1 2 σ _ _ (by omega) (by omega) _ _ _ hw hR (lh_sub hl [0, 1] rfl)
    · replace hw := if_t hw c7
      refine rw_aload_n hX hl 0 rfl (Or.inr ⟨_, rfl⟩) dX7_raise_22 rfl ?_
      refine rw_get hX hR 8 7 0 (C := RX7) (T := TX7) (N := 48) rfl (by decide) (Nat.le_of_ble_eq_true rfl) rfl (v := .ref (gS γ 1807 0)) rfl uw_X7 gw_935 rfl dX7_raise_23 ?_
      refine rw_iload_n hX hl 1 rfl dX7_raise_26 rfl ?_
      obtain ⟨h35, hw1⟩ := ar_some hw
      replace hw := hw1
      clear hw1
      obtain ⟨j34, ej34⟩ : ∃ j, (a1 : Int32).toNatClampNeg = j := ⟨_, rfl⟩
      rw [ej34] at hw
      refine rw_iald hX hR 807 (n := 24) (i := a1) (v := (gi σ 807 j34)) rfl (by decide) rfl rfl h35 (by rw [ej34]) dX7_raise_27 ?_
      refine lv_iconst (v := (-1)) hX.1.1 hX.1.2.1 dX7_raise_28 (by decide) ?_
      refine lv_icmp_ne (x := (gi σ 807 j34)) (y := (-1)) (tgt := 36) hX.1.1 hX.1.2.1 dX7_raise_29 (by decide) (fun c36 => ?_) (fun c36 => ?_)
      · replace hw := if_f hw c36
        refine lv_iconst (v := 0) hX.1.1 hX.1.2.1 dX7_raise_36 (by decide) ?_
        exact J37 a1 0 σ _ _ (by omega) (by omega) _ _ _ hw hR (lh_sub hl [0, 1] rfl)
      · replace hw := if_t hw c36
        refine lv_iconst (v := 2) hX.1.1 hX.1.2.1 dX7_raise_32 (by decide) ?_
        refine lv_goto (tgt := 37) hX.1.1 hX.1.2.1 dX7_raise_33 (by decide) ?_
        exact J37 a1 2 σ _ _ (by omega) (by omega) _ _ _ hw hR (lh_sub hl [0, 1] rfl)
  · replace hw := if_f hw c4
    refine lv_iconst (v := 1) hX.1.1 hX.1.2.1 dX7_raise_9 (by decide) ?_
    refine lv_goto (tgt := 37) hX.1.1 hX.1.2.1 dX7_raise_10 (by decide) ?_
    exact J37 a1 1 σ _ _ (by omega) (by omega) _ _ _ hw hR (lh_sub hl [0, 1] rfl)
set_option maxHeartbeats 8000000 in
set_option maxRecDepth 100000 in
theorem C_f8_openLine (l : Launch) (γ : GT) (ad : Nat → Nat → Nat) {fu : Nat} (a1 : Int32) (σ : St) (r : Int32) (σ' : St) (hw : f8_openLine fu a1 σ = some (r, σ')) : Met l yX7_openLine (Cond.code yX7_openLine cX7_openLine 3 (Option.some Jvm.ClassFile.FieldType.int) :: GW) (rmo 6 0 0) (va_Pc [.ref (gS γ 8 0), .int a1] (RU γ ad σ)) (QI γ ad σ' r) 0 0 (gA γ) := by
  refine Met.ofW (cc := cX7_openLine) (maxL := 3) (ret := (Option.some Jvm.ClassFile.FieldType.int)) (by decide +kernel) rfl ?_
  intro p e s m args below meth c s₁ B hml hv
  obtain ⟨rfl, hU⟩ := hv
  obtain ⟨hX, hR⟩ := cx_of (own := RX7) B hml rfl hU
  have hr := B.returns
  have hlocks := B.notSynchronized
  have hc0 : (0 : Nat) ≤ 0 := Nat.le_refl 0
  show W p l e (rmo 6 0 0) s m ([.ref (gS γ 8 0), .int a1] : List Value).toArray below meth c s.heap [] 0 0 (MQ below (QI γ ad σ' r) ([.ref (gS γ 8 0), .int a1] : List Value).toArray s 0 0 (gA γ)) (entryFrame m ([.ref (gS γ 8 0), .int a1] : List Value).toArray 3)
  unfold f8_openLine at hw
  have J51 : ∀ (y0 : Int32) (σ : St) (cells slots : Nat), cells ≤ 0 → slots ≤ 0 → ∀ (H : Heap) (locs : List Loc) (ls : Array Slot), f8_openLine_j51 fu y0 σ = some (r, σ') → RS γ ad σ s H locs → lh ls 3 [(0, .ref (gS γ 8 0))] → W p l e (rmo 6 0 0) s m ([.ref (gS γ 8 0), .int a1] : List Value).toArray below meth c H locs cells slots (MQ below (QI γ ad σ' r) ([.ref (gS γ 8 0), .int a1] : List Value).toArray s 0 0 (gA γ)) (F0 m 51 ls [.int y0]) := by
    intro y0 σ cells slots hc1 hc2 H locs ls hw hR hl
    unfold f8_openLine_j51 at hw
    refine rw_istore_n (lv' := [(2, .int y0), (0, .ref (gS γ 8 0))]) hX hl (by decide) rfl dX7_openLine_51 rfl (fun ls hl1 => ?_)
    replace hl := hl1
    clear hl1
    refine rw_aload_n hX hl 1 rfl (Or.inr ⟨_, rfl⟩) dX7_openLine_52 rfl ?_
    obtain ⟨σ13, g14, hw1⟩ := ob1_some hw
    replace hw := hw1
    clear hw1
    refine rw_cVv hX hR pk_f8_settle (mc := 0) (ms := 0) ⟨rfl, rfl, (show 5 + 1 ≤ 6 by omega), (show 8 + (3 + 11) + 64 * 5 ≤ 64 * 6 by omega)⟩ (As := []) (rest := []) rfl (C_f8_settle l γ ad σ σ13 g14) gw_1093 gw_1095 gs_54 (rs_recv hX hR 8 0 (C := RX7) (T := TX7) (N := 48) rfl (by decide) (Nat.le_of_ble_eq_true rfl) rfl) rfl hl.1 ca0 (Nat.le_of_ble_eq_true rfl) dX7_openLine_53 ⟨(show cells + 0 ≤ 0 by omega), (show slots + 0 ≤ 0 by omega)⟩ (fun H locs hR1 => ?_)
    replace hR := hR1
    clear hR1
    refine rw_iload_n hX hl 0 rfl dX7_openLine_56 rfl ?_
    refine W.widen (k := 0) (n := 0) (by omega) (by omega) ?_
    exact rq_ie hX hR hr hw dX7_openLine_57 hlocks
  have J16 : ∀ (x1 : Int32) (y1 : Bool) (σ : St) (cells slots : Nat), cells ≤ 0 → slots ≤ 0 → ∀ (H : Heap) (locs : List Loc) (ls : Array Slot), f8_openLine_j16 fu x1 y1 σ = some (r, σ') → RS γ ad σ s H locs → lh ls 3 [(0, .ref (gS γ 8 0)), (1, .int x1)] → W p l e (rmo 6 0 0) s m ([.ref (gS γ 8 0), .int a1] : List Value).toArray below meth c H locs cells slots (MQ below (QI γ ad σ' r) ([.ref (gS γ 8 0), .int a1] : List Value).toArray s 0 0 (gA γ)) (F0 m 16 ls [.int (b2i y1), .ref (gS γ 8 0)]) := by
    intro x1 y1 σ cells slots hc1 hc2 H locs ls hw hR hl
    unfold f8_openLine_j16 at hw
    refine rw_puti (x := (b2i y1)) hX hR 8 0 0 800 (C := RX7) (T := TX7) (N := 48) rfl (by decide) rfl rfl (Nat.le_of_ble_eq_true rfl) rfl uw_X7 tyX7 tyX7_ok nmX7 gw_928 rfl rfl (by decide) dX7_openLine_16 (fun σ1 H locs e1 hR1 => ?_)
    replace hR := hR1
    clear hR1
    subst e1
    refine rw_aload_n hX hl 0 rfl (Or.inr ⟨_, rfl⟩) dX7_openLine_19 rfl ?_
    refine rw_get hX hR 8 0 0 (C := RX7) (T := TX7) (N := 48) rfl (by decide) (Nat.le_of_ble_eq_true rfl) rfl (v := .int (gi (zi σ 800 0 (b2i y1)) 800 0)) rfl uw_X7 gw_928 rfl dX7_openLine_20 ?_
    refine lv_if_eq (x := (gi (zi σ 800 0 (b2i y1)) 800 0)) (tgt := 28) hX.1.1 hX.1.2.1 dX7_openLine_23 (by decide) (fun c5 => ?_) (fun c5 => ?_)
    · replace hw := if_t hw c5
      refine rw_aload_n hX hl 0 rfl (Or.inr ⟨_, rfl⟩) dX7_openLine_28 rfl ?_
      refine rw_get hX hR 8 38 0 (C := RX7) (T := TX7) (N := 48) rfl (by decide) (Nat.le_of_ble_eq_true rfl) rfl (v := .ref (gS γ 1838 0)) rfl uw_X7 gw_966 rfl dX7_openLine_29 ?_
      refine rw_iload_n hX hl 1 rfl dX7_openLine_32 rfl ?_
      refine lv_iconst (v := 0) hX.1.1 hX.1.2.1 dX7_openLine_33 (by decide) ?_
      obtain ⟨h7, hw1⟩ := ar_some hw
      replace hw := hw1
      clear hw1
      obtain ⟨j6, ej6⟩ : ∃ j, (x1 : Int32).toNatClampNeg = j := ⟨_, rfl⟩
      rw [ej6] at hw
      refine rw_iast hX hR 838 (n := 8) (i := x1) (x := 0) rfl (by decide) rfl rfl h7 dX7_openLine_34 (fun σ1 H locs e1 hR1 => ?_)
      replace hR := hR1
      clear hR1
      rw [ej6] at e1
      subst e1
      refine rw_aload_n hX hl 0 rfl (Or.inr ⟨_, rfl⟩) dX7_openLine_35 rfl ?_
      refine rw_get hX hR 8 2 0 (C := RX7) (T := TX7) (N := 48) rfl (by decide) (Nat.le_of_ble_eq_true rfl) rfl (v := .int (b2i (gb (zi (zi σ 800 0 (b2i y1)) 838 j6 0) 802 0))) rfl uw_X7 gw_930 rfl dX7_openLine_36 ?_
      refine rw_ifeqZ (b := (gb (zi (zi σ 800 0 (b2i y1)) 838 j6 0) 802 0)) (tgt := 46) hX dX7_openLine_39 (by decide) (fun c8 => ?_) (fun c8 => ?_)
      · replace hw := if_f hw c8
        refine rw_aload_n hX hl 0 rfl (Or.inr ⟨_, rfl⟩) dX7_openLine_46 rfl ?_
        refine rw_iload_n hX hl 1 rfl dX7_openLine_47 rfl ?_
        obtain ⟨v9, σ10, g11, hw1⟩ := ob2_some hw
        replace hw := hw1
        clear hw1
        refine rw_cVi hX hR pk_f8_ask (mc := 0) (ms := 0) ⟨rfl, rfl, (show 3 + 1 ≤ 6 by omega), (show 8 + (5 + 11) + 64 * 3 ≤ 64 * 6 by omega)⟩ (As := [.int x1]) (rest := []) rfl (C_f8_ask l γ ad x1 (zi (zi σ 800 0 (b2i y1)) 838 j6 0) v9 σ10 g11) gw_1268 gw_1270 gs_80 (rs_recv hX hR 8 0 (C := RX7) (T := TX7) (N := 48) rfl (by decide) (Nat.le_of_ble_eq_true rfl) rfl) rfl hl.1 ca0 (Nat.le_of_ble_eq_true rfl) dX7_openLine_48 ⟨(show cells + 0 ≤ 0 by omega), (show slots + 0 ≤ 0 by omega)⟩ (fun H locs hR1 => ?_)
        replace hR := hR1
        clear hR1
        exact J51 v9 σ10 _ _ (by omega) (by omega) _ _ _ hw hR (lh_sub hl [0] rfl)
      · replace hw := if_t hw c8
        refine lv_iconst (v := 0) hX.1.1 hX.1.2.1 dX7_openLine_42 (by decide) ?_
        refine lv_goto (tgt := 51) hX.1.1 hX.1.2.1 dX7_openLine_43 (by decide) ?_
        exact J51 0 (zi (zi σ 800 0 (b2i y1)) 838 j6 0) _ _ (by omega) (by omega) _ _ _ hw hR (lh_sub hl [0] rfl)
    · replace hw := if_f hw c5
      refine lv_iconst (v := 0) hX.1.1 hX.1.2.1 dX7_openLine_26 (by decide) ?_
      refine W.widen (k := 0) (n := 0) (by omega) (by omega) ?_
      exact rq_ie hX hR hr hw dX7_openLine_27 hlocks
  refine rw_entry (ca1 rfl (ca1 rfl ca0)) (Nat.le_of_ble_eq_true rfl) (fun ls hl1 => ?_)
  replace hl := hl1
  clear hl1
  refine rw_aload_n hX hl 0 rfl (Or.inr ⟨_, rfl⟩) dX7_openLine_0 rfl ?_
  refine rw_iload_n hX hl 1 rfl dX7_openLine_1 rfl ?_
  refine lv_iconst (v := 0) hX.1.1 hX.1.2.1 dX7_openLine_2 (by decide) ?_
  refine lv_bipush (v := 7) hX.1.1 hX.1.2.1 dX7_openLine_3 (by decide) ?_
  obtain ⟨v1, g3, hw1⟩ := ob1_some hw
  replace hw := hw1
  clear hw1
  refine rw_cSi hX hR pk_f8_in (mc := 0) (ms := 0) ⟨rfl, rfl, (show 1 + 1 ≤ 6 by omega), (show 8 + (3 + 11) + 64 * 1 ≤ 64 * 6 by omega)⟩ (As := [.int a1, .int 0, .int 7]) (rest := [.ref (gS γ 8 0)]) rfl (C_f8_in l γ ad a1 0 7 σ v1 g3) gw_1082 gw_1083 rfl hl.1 (ca1 rfl ca0) (Nat.le_of_ble_eq_true rfl) dX7_openLine_5 ⟨(show 0 + 0 ≤ 0 by omega), (show 0 + 0 ≤ 0 by omega)⟩ (fun H locs hR1 => ?_)
  replace hR := hR1
  clear hR1
  refine rw_ifeqZ (b := v1) (tgt := 15) hX dX7_openLine_8 (by decide) (fun c4 => ?_) (fun c4 => ?_)
  · replace hw := if_f hw c4
    refine lv_iconst (v := 1) hX.1.1 hX.1.2.1 dX7_openLine_15 (by decide) ?_
    exact J16 a1 true σ _ _ (by omega) (by omega) _ _ _ hw hR (lh_sub hl [0, 1] rfl)
  · replace hw := if_t hw c4
    refine lv_iconst (v := 0) hX.1.1 hX.1.2.1 dX7_openLine_11 (by decide) ?_
    refine lv_goto (tgt := 16) hX.1.1 hX.1.2.1 dX7_openLine_12 (by decide) ?_
    exact J16 a1 false σ _ _ (by omega) (by omega) _ _ _ hw hR (lh_sub hl [0, 1] rfl)
set_option maxHeartbeats 8000000 in
set_option maxRecDepth 100000 in
theorem C_f8_isThere (l : Launch) (γ : GT) (ad : Nat → Nat → Nat) {fu : Nat} (a1 : Int32) (σ : St) (r : Bool) (σ' : St) (hw : f8_isThere fu a1 σ = some (r, σ')) : Met l yX7_isThere (Cond.code yX7_isThere cX7_isThere 2 (Option.some Jvm.ClassFile.FieldType.boolean) :: GW) (rmo 3 0 0) (va_Pc [.ref (gS γ 8 0), .int a1] (RU γ ad σ)) (QI γ ad σ' (b2i r)) 0 0 (gA γ) := by
  refine Met.ofW (cc := cX7_isThere) (maxL := 2) (ret := (Option.some Jvm.ClassFile.FieldType.boolean)) (by decide +kernel) rfl ?_
  intro p e s m args below meth c s₁ B hml hv
  obtain ⟨rfl, hU⟩ := hv
  obtain ⟨hX, hR⟩ := cx_of (own := RX7) B hml rfl hU
  have hr := B.returns
  have hlocks := B.notSynchronized
  have hc0 : (0 : Nat) ≤ 0 := Nat.le_refl 0
  show W p l e (rmo 3 0 0) s m ([.ref (gS γ 8 0), .int a1] : List Value).toArray below meth c s.heap [] 0 0 (MQ below (QI γ ad σ' (b2i r)) ([.ref (gS γ 8 0), .int a1] : List Value).toArray s 0 0 (gA γ)) (entryFrame m ([.ref (gS γ 8 0), .int a1] : List Value).toArray 2)
  unfold f8_isThere at hw
  have J14 : ∀ (x1 : Int32) (y1 : Bool) (σ : St) (cells slots : Nat), cells ≤ 0 → slots ≤ 0 → ∀ (H : Heap) (locs : List Loc) (ls : Array Slot), f8_isThere_j14 fu x1 y1 σ = some (r, σ') → RS γ ad σ s H locs → lh ls 2 [(0, .ref (gS γ 8 0)), (1, .int x1)] → W p l e (rmo 3 0 0) s m ([.ref (gS γ 8 0), .int a1] : List Value).toArray below meth c H locs cells slots (MQ below (QI γ ad σ' (b2i r)) ([.ref (gS γ 8 0), .int a1] : List Value).toArray s 0 0 (gA γ)) (F0 m 14 ls [.int (b2i y1), .ref (gS γ 8 0)]) := by
    intro x1 y1 σ cells slots hc1 hc2 H locs ls hw hR hl
    unfold f8_isThere_j14 at hw
    refine rw_puti (x := (b2i y1)) hX hR 8 0 0 800 (C := RX7) (T := TX7) (N := 48) rfl (by decide) rfl rfl (Nat.le_of_ble_eq_true rfl) rfl uw_X7 tyX7 tyX7_ok nmX7 gw_928 rfl rfl (by decide) dX7_isThere_14 (fun σ1 H locs e1 hR1 => ?_)
    replace hR := hR1
    clear hR1
    subst e1
    refine rw_aload_n hX hl 0 rfl (Or.inr ⟨_, rfl⟩) dX7_isThere_17 rfl ?_
    refine rw_get hX hR 8 0 0 (C := RX7) (T := TX7) (N := 48) rfl (by decide) (Nat.le_of_ble_eq_true rfl) rfl (v := .int (gi (zi σ 800 0 (b2i y1)) 800 0)) rfl uw_X7 gw_928 rfl dX7_isThere_18 ?_
    refine lv_if_ne (x := (gi (zi σ 800 0 (b2i y1)) 800 0)) (tgt := 37) hX.1.1 hX.1.2.1 dX7_isThere_21 (by decide) (fun c5 => ?_) (fun c5 => ?_)
    · replace hw := if_f hw c5
      refine lv_iconst (v := 0) hX.1.1 hX.1.2.1 dX7_isThere_37 (by decide) ?_
      refine W.widen (k := 0) (n := 0) (by omega) (by omega) ?_
      exact rq_ze hX hR hr (v := false) rfl hw dX7_isThere_38 hlocks
    · replace hw := if_t hw c5
      refine rw_aload_n hX hl 0 rfl (Or.inr ⟨_, rfl⟩) dX7_isThere_24 rfl ?_
      refine rw_get hX hR 8 11 0 (C := RX7) (T := TX7) (N := 48) rfl (by decide) (Nat.le_of_ble_eq_true rfl) rfl (v := .ref (gS γ 1811 0)) rfl uw_X7 gw_939 rfl dX7_isThere_25 ?_
      refine rw_iload_n hX hl 1 rfl dX7_isThere_28 rfl ?_
      obtain ⟨h7, hw1⟩ := ar_some hw
      replace hw := hw1
      clear hw1
      obtain ⟨j6, ej6⟩ : ∃ j, (x1 : Int32).toNatClampNeg = j := ⟨_, rfl⟩
      rw [ej6] at hw
      refine rw_zald hX hR 811 (n := 24) (i := x1) (v := (gb (zi σ 800 0 (b2i y1)) 811 j6)) rfl (by decide) rfl rfl h7 (by rw [ej6]) dX7_isThere_29 ?_
      refine rw_ifeqZ (b := (gb (zi σ 800 0 (b2i y1)) 811 j6)) (tgt := 37) hX dX7_isThere_30 (by decide) (fun c8 => ?_) (fun c8 => ?_)
      · replace hw := if_f hw c8
        refine lv_iconst (v := 0) hX.1.1 hX.1.2.1 dX7_isThere_37 (by decide) ?_
        refine W.widen (k := 0) (n := 0) (by omega) (by omega) ?_
        exact rq_ze hX hR hr (v := false) rfl hw dX7_isThere_38 hlocks
      · replace hw := if_t hw c8
        refine lv_iconst (v := 1) hX.1.1 hX.1.2.1 dX7_isThere_33 (by decide) ?_
        refine lv_goto (tgt := 38) hX.1.1 hX.1.2.1 dX7_isThere_34 (by decide) ?_
        refine W.widen (k := 0) (n := 0) (by omega) (by omega) ?_
        exact rq_ze hX hR hr (v := true) rfl hw dX7_isThere_38 hlocks
  refine rw_entry (ca1 rfl (ca1 rfl ca0)) (Nat.le_of_ble_eq_true rfl) (fun ls hl1 => ?_)
  replace hl := hl1
  clear hl1
  refine rw_aload_n hX hl 0 rfl (Or.inr ⟨_, rfl⟩) dX7_isThere_0 rfl ?_
  refine rw_aload_n hX hl 0 rfl (Or.inr ⟨_, rfl⟩) dX7_isThere_1 rfl ?_
  refine rw_iload_n hX hl 1 rfl dX7_isThere_2 rfl ?_
  obtain ⟨v1, g3, hw1⟩ := ob1_some hw
  replace hw := hw1
  clear hw1
  refine rw_cVi hX hR pk_f8_isDevice (mc := 0) (ms := 0) ⟨rfl, rfl, (show 2 + 1 ≤ 3 by omega), (show 8 + (2 + 11) + 64 * 2 ≤ 64 * 3 by omega)⟩ (As := [.int a1]) (rest := [.ref (gS γ 8 0)]) rfl (C_f8_isDevice l γ ad a1 σ v1 g3) gw_1089 gw_1091 gs_53 (rs_recv hX hR 8 0 (C := RX7) (T := TX7) (N := 48) rfl (by decide) (Nat.le_of_ble_eq_true rfl) rfl) rfl hl.1 (ca1 rfl ca0) (Nat.le_of_ble_eq_true rfl) dX7_isThere_3 ⟨(show 0 + 0 ≤ 0 by omega), (show 0 + 0 ≤ 0 by omega)⟩ (fun H locs hR1 => ?_)
  replace hR := hR1
  clear hR1
  refine rw_ifeqZ (b := v1) (tgt := 13) hX dX7_isThere_6 (by decide) (fun c4 => ?_) (fun c4 => ?_)
  · replace hw := if_f hw c4
    refine lv_iconst (v := 1) hX.1.1 hX.1.2.1 dX7_isThere_13 (by decide) ?_
    exact J14 a1 true σ _ _ (by omega) (by omega) _ _ _ hw hR (lh_sub hl [0, 1] rfl)
  · replace hw := if_t hw c4
    refine lv_iconst (v := 0) hX.1.1 hX.1.2.1 dX7_isThere_9 (by decide) ?_
    refine lv_goto (tgt := 14) hX.1.1 hX.1.2.1 dX7_isThere_10 (by decide) ?_
    exact J14 a1 false σ _ _ (by omega) (by omega) _ _ _ hw hR (lh_sub hl [0, 1] rfl)
set_option maxHeartbeats 8000000 in
set_option maxRecDepth 100000 in
theorem C_f8_reason (l : Launch) (γ : GT) (ad : Nat → Nat → Nat) {fu : Nat} (a1 : Int32) (σ : St) (r : Int32) (σ' : St) (hw : f8_reason fu a1 σ = some (r, σ')) : Met l yX7_reason (Cond.code yX7_reason cX7_reason 3 (Option.some Jvm.ClassFile.FieldType.int) :: GW) (rmo 5 0 0) (va_Pc [.ref (gS γ 8 0), .int a1] (RU γ ad σ)) (QI γ ad σ' r) 0 0 (gA γ) := by
  refine Met.ofW (cc := cX7_reason) (maxL := 3) (ret := (Option.some Jvm.ClassFile.FieldType.int)) (by decide +kernel) rfl ?_
  intro p e s m args below meth c s₁ B hml hv
  obtain ⟨rfl, hU⟩ := hv
  obtain ⟨hX, hR⟩ := cx_of (own := RX7) B hml rfl hU
  have hr := B.returns
  have hlocks := B.notSynchronized
  have hc0 : (0 : Nat) ≤ 0 := Nat.le_refl 0
  show W p l e (rmo 5 0 0) s m ([.ref (gS γ 8 0), .int a1] : List Value).toArray below meth c s.heap [] 0 0 (MQ below (QI γ ad σ' r) ([.ref (gS γ 8 0), .int a1] : List Value).toArray s 0 0 (gA γ)) (entryFrame m ([.ref (gS γ 8 0), .int a1] : List Value).toArray 3)
  unfold f8_reason at hw
  have J74 : ∀ (x2 : Int32) (σ : St) (cells slots : Nat), cells ≤ 0 → slots ≤ 0 → ∀ (H : Heap) (locs : List Loc) (ls : Array Slot), f8_reason_j74 fu x2 σ = some (r, σ') → RS γ ad σ s H locs → lh ls 3 [(2, .int x2)] → W p l e (rmo 5 0 0) s m ([.ref (gS γ 8 0), .int a1] : List Value).toArray below meth c H locs cells slots (MQ below (QI γ ad σ' r) ([.ref (gS γ 8 0), .int a1] : List Value).toArray s 0 0 (gA γ)) (F0 m 74 ls []) := by
    intro x2 σ cells slots hc1 hc2 H locs ls hw hR hl
    unfold f8_reason_j74 at hw
    refine rw_iload_n hX hl 0 rfl dX7_reason_74 rfl ?_
    refine W.widen (k := 0) (n := 0) (by omega) (by omega) ?_
    exact rq_ie hX hR hr hw dX7_reason_75 hlocks
  have J57 : ∀ (x1 : Int32) (y0 : Int32) (σ : St) (cells slots : Nat), cells ≤ 0 → slots ≤ 0 → ∀ (H : Heap) (locs : List Loc) (ls : Array Slot), f8_reason_j57 fu x1 y0 σ = some (r, σ') → RS γ ad σ s H locs → lh ls 3 [(0, .ref (gS γ 8 0)), (1, .int x1)] → W p l e (rmo 5 0 0) s m ([.ref (gS γ 8 0), .int a1] : List Value).toArray below meth c H locs cells slots (MQ below (QI γ ad σ' r) ([.ref (gS γ 8 0), .int a1] : List Value).toArray s 0 0 (gA γ)) (F0 m 57 ls [.int y0]) := by
    intro x1 y0 σ cells slots hc1 hc2 H locs ls hw hR hl
    unfold f8_reason_j57 at hw
    refine rw_istore_n (lv' := [(2, .int y0), (0, .ref (gS γ 8 0)), (1, .int x1)]) hX hl (by decide) rfl dX7_reason_57 rfl (fun ls hl1 => ?_)
    replace hl := hl1
    clear hl1
    refine rw_iload_n hX hl 0 rfl dX7_reason_58 rfl ?_
    refine lv_if_ne (x := y0) (tgt := 74) hX.1.1 hX.1.2.1 dX7_reason_59 (by decide) (fun c16 => ?_) (fun c16 => ?_)
    · replace hw := if_f hw c16
      exact J74 y0 σ _ _ (by omega) (by omega) _ _ _ hw hR (lh_sub hl [0] rfl)
    · replace hw := if_t hw c16
      refine rw_aload_n hX hl 1 rfl (Or.inr ⟨_, rfl⟩) dX7_reason_62 rfl ?_
      refine rw_iload_n hX hl 2 rfl dX7_reason_63 rfl ?_
      obtain ⟨v17, g19, hw1⟩ := ob1_some hw
      replace hw := hw1
      clear hw1
      refine rw_cVi hX hR pk_f8_isBound (mc := 0) (ms := 0) ⟨rfl, rfl, (show 1 + 1 ≤ 5 by omega), (show 8 + (2 + 11) + 64 * 1 ≤ 64 * 5 by omega)⟩ (As := [.int x1]) (rest := []) rfl (C_f8_isBound l γ ad x1 σ v17 g19) gw_1097 gw_1099 gs_55 (rs_recv hX hR 8 0 (C := RX7) (T := TX7) (N := 48) rfl (by decide) (Nat.le_of_ble_eq_true rfl) rfl) rfl hl.1 ca0 (Nat.le_of_ble_eq_true rfl) dX7_reason_64 ⟨(show cells + 0 ≤ 0 by omega), (show slots + 0 ≤ 0 by omega)⟩ (fun H locs hR1 => ?_)
      replace hR := hR1
      clear hR1
      refine rw_ifneZ (b := v17) (tgt := 74) hX dX7_reason_67 (by decide) (fun c20 => ?_) (fun c20 => ?_)
      · replace hw := if_t hw c20
        exact J74 y0 σ _ _ (by omega) (by omega) _ _ _ hw hR (lh_sub hl [0] rfl)
      · replace hw := if_f hw c20
        refine lv_iconst (v := (-1)) hX.1.1 hX.1.2.1 dX7_reason_70 (by decide) ?_
        refine lv_goto (tgt := 75) hX.1.1 hX.1.2.1 dX7_reason_71 (by decide) ?_
        refine W.widen (k := 0) (n := 0) (by omega) (by omega) ?_
        exact rq_ie hX hR hr hw dX7_reason_75 hlocks
  have J14 : ∀ (x1 : Int32) (y1 : Bool) (σ : St) (cells slots : Nat), cells ≤ 0 → slots ≤ 0 → ∀ (H : Heap) (locs : List Loc) (ls : Array Slot), f8_reason_j14 fu x1 y1 σ = some (r, σ') → RS γ ad σ s H locs → lh ls 3 [(0, .ref (gS γ 8 0)), (1, .int x1)] → W p l e (rmo 5 0 0) s m ([.ref (gS γ 8 0), .int a1] : List Value).toArray below meth c H locs cells slots (MQ below (QI γ ad σ' r) ([.ref (gS γ 8 0), .int a1] : List Value).toArray s 0 0 (gA γ)) (F0 m 14 ls [.int (b2i y1), .ref (gS γ 8 0)]) := by
    intro x1 y1 σ cells slots hc1 hc2 H locs ls hw hR hl
    unfold f8_reason_j14 at hw
    refine rw_puti (x := (b2i y1)) hX hR 8 0 0 800 (C := RX7) (T := TX7) (N := 48) rfl (by decide) rfl rfl (Nat.le_of_ble_eq_true rfl) rfl uw_X7 tyX7 tyX7_ok nmX7 gw_928 rfl rfl (by decide) dX7_reason_14 (fun σ1 H locs e1 hR1 => ?_)
    replace hR := hR1
    clear hR1
    subst e1
    refine rw_aload_n hX hl 0 rfl (Or.inr ⟨_, rfl⟩) dX7_reason_17 rfl ?_
    refine rw_get hX hR 8 0 0 (C := RX7) (T := TX7) (N := 48) rfl (by decide) (Nat.le_of_ble_eq_true rfl) rfl (v := .int (gi (zi σ 800 0 (b2i y1)) 800 0)) rfl uw_X7 gw_928 rfl dX7_reason_18 ?_
    refine lv_if_eq (x := (gi (zi σ 800 0 (b2i y1)) 800 0)) (tgt := 26) hX.1.1 hX.1.2.1 dX7_reason_21 (by decide) (fun c5 => ?_) (fun c5 => ?_)
    · replace hw := if_t hw c5
      refine rw_aload_n hX hl 0 rfl (Or.inr ⟨_, rfl⟩) dX7_reason_26 rfl ?_
      refine rw_get hX hR 8 11 0 (C := RX7) (T := TX7) (N := 48) rfl (by decide) (Nat.le_of_ble_eq_true rfl) rfl (v := .ref (gS γ 1811 0)) rfl uw_X7 gw_939 rfl dX7_reason_27 ?_
      refine rw_iload_n hX hl 1 rfl dX7_reason_30 rfl ?_
      obtain ⟨h7, hw1⟩ := ar_some hw
      replace hw := hw1
      clear hw1
      obtain ⟨j6, ej6⟩ : ∃ j, (x1 : Int32).toNatClampNeg = j := ⟨_, rfl⟩
      rw [ej6] at hw
      refine rw_zald hX hR 811 (n := 24) (i := x1) (v := (gb (zi σ 800 0 (b2i y1)) 811 j6)) rfl (by decide) rfl rfl h7 (by rw [ej6]) dX7_reason_31 ?_
      refine rw_ifneZ (b := (gb (zi σ 800 0 (b2i y1)) 811 j6)) (tgt := 40) hX dX7_reason_32 (by decide) (fun c8 => ?_) (fun c8 => ?_)
      · replace hw := if_t hw c8
        refine rw_aload_n hX hl 0 rfl (Or.inr ⟨_, rfl⟩) dX7_reason_40 rfl ?_
        refine rw_iload_n hX hl 1 rfl dX7_reason_41 rfl ?_
        obtain ⟨v9, g11, hw1⟩ := ob1_some hw
        replace hw := hw1
        clear hw1
        refine rw_cVi hX hR pk_f8_isBound (mc := 0) (ms := 0) ⟨rfl, rfl, (show 1 + 1 ≤ 5 by omega), (show 8 + (2 + 11) + 64 * 1 ≤ 64 * 5 by omega)⟩ (As := [.int x1]) (rest := []) rfl (C_f8_isBound l γ ad x1 (zi σ 800 0 (b2i y1)) v9 g11) gw_1097 gw_1099 gs_55 (rs_recv hX hR 8 0 (C := RX7) (T := TX7) (N := 48) rfl (by decide) (Nat.le_of_ble_eq_true rfl) rfl) rfl hl.1 ca0 (Nat.le_of_ble_eq_true rfl) dX7_reason_42 ⟨(show cells + 0 ≤ 0 by omega), (show slots + 0 ≤ 0 by omega)⟩ (fun H locs hR1 => ?_)
        replace hR := hR1
        clear hR1
        refine rw_ifeqZ (b := v9) (tgt := 52) hX dX7_reason_45 (by decide) (fun c12 => ?_) (fun c12 => ?_)
        · replace hw := if_f hw c12
          refine rw_aload_n hX hl 0 rfl (Or.inr ⟨_, rfl⟩) dX7_reason_52 rfl ?_
          refine rw_iload_n hX hl 1 rfl dX7_reason_53 rfl ?_
          obtain ⟨v13, g15, hw1⟩ := ob1_some hw
          replace hw := hw1
          clear hw1
          refine rw_cVi hX hR pk_f8_refused (mc := 0) (ms := 0) ⟨rfl, rfl, (show 4 + 1 ≤ 5 by omega), (show 8 + (3 + 11) + 64 * 4 ≤ 64 * 5 by omega)⟩ (As := [.int x1]) (rest := []) rfl (C_f8_refused l γ ad x1 (zi σ 800 0 (b2i y1)) v13 g15) gw_1101 gw_1103 gs_56 (rs_recv hX hR 8 0 (C := RX7) (T := TX7) (N := 48) rfl (by decide) (Nat.le_of_ble_eq_true rfl) rfl) rfl hl.1 ca0 (Nat.le_of_ble_eq_true rfl) dX7_reason_54 ⟨(show (cells + 0) + 0 ≤ 0 by omega), (show (slots + 0) + 0 ≤ 0 by omega)⟩ (fun H locs hR1 => ?_)
          replace hR := hR1
          clear hR1
          exact J57 x1 v13 (zi σ 800 0 (b2i y1)) _ _ (by omega) (by omega) _ _ _ hw hR (lh_sub hl [0, 1] rfl)
        · replace hw := if_t hw c12
          refine lv_iconst (v := 0) hX.1.1 hX.1.2.1 dX7_reason_48 (by decide) ?_
          refine lv_goto (tgt := 57) hX.1.1 hX.1.2.1 dX7_reason_49 (by decide) ?_
          exact J57 x1 0 (zi σ 800 0 (b2i y1)) _ _ (by omega) (by omega) _ _ _ hw hR (lh_sub hl [0, 1] rfl)
      · replace hw := if_f hw c8
        refine lv_bipush (v := 8) hX.1.1 hX.1.2.1 dX7_reason_35 (by decide) ?_
        refine lv_goto (tgt := 57) hX.1.1 hX.1.2.1 dX7_reason_37 (by decide) ?_
        exact J57 x1 8 (zi σ 800 0 (b2i y1)) _ _ (by omega) (by omega) _ _ _ hw hR (lh_sub hl [0, 1] rfl)
    · replace hw := if_f hw c5
      refine lv_iconst (v := 0) hX.1.1 hX.1.2.1 dX7_reason_24 (by decide) ?_
      refine W.widen (k := 0) (n := 0) (by omega) (by omega) ?_
      exact rq_ie hX hR hr hw dX7_reason_25 hlocks
  refine rw_entry (ca1 rfl (ca1 rfl ca0)) (Nat.le_of_ble_eq_true rfl) (fun ls hl1 => ?_)
  replace hl := hl1
  clear hl1
  refine rw_aload_n hX hl 0 rfl (Or.inr ⟨_, rfl⟩) dX7_reason_0 rfl ?_
  refine rw_aload_n hX hl 0 rfl (Or.inr ⟨_, rfl⟩) dX7_reason_1 rfl ?_
  refine rw_iload_n hX hl 1 rfl dX7_reason_2 rfl ?_
  obtain ⟨v1, g3, hw1⟩ := ob1_some hw
  replace hw := hw1
  clear hw1
  refine rw_cVi hX hR pk_f8_isDevice (mc := 0) (ms := 0) ⟨rfl, rfl, (show 2 + 1 ≤ 5 by omega), (show 8 + (2 + 11) + 64 * 2 ≤ 64 * 5 by omega)⟩ (As := [.int a1]) (rest := [.ref (gS γ 8 0)]) rfl (C_f8_isDevice l γ ad a1 σ v1 g3) gw_1089 gw_1091 gs_53 (rs_recv hX hR 8 0 (C := RX7) (T := TX7) (N := 48) rfl (by decide) (Nat.le_of_ble_eq_true rfl) rfl) rfl hl.1 (ca1 rfl ca0) (Nat.le_of_ble_eq_true rfl) dX7_reason_3 ⟨(show 0 + 0 ≤ 0 by omega), (show 0 + 0 ≤ 0 by omega)⟩ (fun H locs hR1 => ?_)
  replace hR := hR1
  clear hR1
  refine rw_ifeqZ (b := v1) (tgt := 13) hX dX7_reason_6 (by decide) (fun c4 => ?_) (fun c4 => ?_)
  · replace hw := if_f hw c4
    refine lv_iconst (v := 1) hX.1.1 hX.1.2.1 dX7_reason_13 (by decide) ?_
    exact J14 a1 true σ _ _ (by omega) (by omega) _ _ _ hw hR (lh_sub hl [0, 1] rfl)
  · replace hw := if_t hw c4
    refine lv_iconst (v := 0) hX.1.1 hX.1.2.1 dX7_reason_9 (by decide) ?_
    refine lv_goto (tgt := 14) hX.1.1 hX.1.2.1 dX7_reason_10 (by decide) ?_
    exact J14 a1 false σ _ _ (by omega) (by omega) _ _ _ hw hR (lh_sub hl [0, 1] rfl)
set_option maxHeartbeats 8000000 in
set_option maxRecDepth 100000 in
theorem C_f8_driverOf (l : Launch) (γ : GT) (ad : Nat → Nat → Nat) {fu : Nat} (a1 : Int32) (σ : St) (r : Int32) (σ' : St) (hw : f8_driverOf fu a1 σ = some (r, σ')) : Met l yX7_driverOf (Cond.code yX7_driverOf cX7_driverOf 2 (Option.some Jvm.ClassFile.FieldType.int) :: GW) (rmo 3 0 0) (va_Pc [.ref (gS γ 8 0), .int a1] (RU γ ad σ)) (QI γ ad σ' r) 0 0 (gA γ) := by
  refine Met.ofW (cc := cX7_driverOf) (maxL := 2) (ret := (Option.some Jvm.ClassFile.FieldType.int)) (by decide +kernel) rfl ?_
  intro p e s m args below meth c s₁ B hml hv
  obtain ⟨rfl, hU⟩ := hv
  obtain ⟨hX, hR⟩ := cx_of (own := RX7) B hml rfl hU
  have hr := B.returns
  have hlocks := B.notSynchronized
  have hc0 : (0 : Nat) ≤ 0 := Nat.le_refl 0
  show W p l e (rmo 3 0 0) s m ([.ref (gS γ 8 0), .int a1] : List Value).toArray below meth c s.heap [] 0 0 (MQ below (QI γ ad σ' r) ([.ref (gS γ 8 0), .int a1] : List Value).toArray s 0 0 (gA γ)) (entryFrame m ([.ref (gS γ 8 0), .int a1] : List Value).toArray 2)
  unfold f8_driverOf at hw
  have J14 : ∀ (x1 : Int32) (y1 : Bool) (σ : St) (cells slots : Nat), cells ≤ 0 → slots ≤ 0 → ∀ (H : Heap) (locs : List Loc) (ls : Array Slot), f8_driverOf_j14 fu x1 y1 σ = some (r, σ') → RS γ ad σ s H locs → lh ls 2 [(0, .ref (gS γ 8 0)), (1, .int x1)] → W p l e (rmo 3 0 0) s m ([.ref (gS γ 8 0), .int a1] : List Value).toArray below meth c H locs cells slots (MQ below (QI γ ad σ' r) ([.ref (gS γ 8 0), .int a1] : List Value).toArray s 0 0 (gA γ)) (F0 m 14 ls [.int (b2i y1), .ref (gS γ 8 0)]) := by
    intro x1 y1 σ cells slots hc1 hc2 H locs ls hw hR hl
    unfold f8_driverOf_j14 at hw
    refine rw_puti (x := (b2i y1)) hX hR 8 0 0 800 (C := RX7) (T := TX7) (N := 48) rfl (by decide) rfl rfl (Nat.le_of_ble_eq_true rfl) rfl uw_X7 tyX7 tyX7_ok nmX7 gw_928 rfl rfl (by decide) dX7_driverOf_14 (fun σ1 H locs e1 hR1 => ?_)
    replace hR := hR1
    clear hR1
    subst e1
    refine rw_aload_n hX hl 0 rfl (Or.inr ⟨_, rfl⟩) dX7_driverOf_17 rfl ?_
    refine rw_get hX hR 8 0 0 (C := RX7) (T := TX7) (N := 48) rfl (by decide) (Nat.le_of_ble_eq_true rfl) rfl (v := .int (gi (zi σ 800 0 (b2i y1)) 800 0)) rfl uw_X7 gw_928 rfl dX7_driverOf_18 ?_
    refine lv_if_eq (x := (gi (zi σ 800 0 (b2i y1)) 800 0)) (tgt := 28) hX.1.1 hX.1.2.1 dX7_driverOf_21 (by decide) (fun c5 => ?_) (fun c5 => ?_)
    · replace hw := if_t hw c5
      refine rw_aload_n hX hl 0 rfl (Or.inr ⟨_, rfl⟩) dX7_driverOf_28 rfl ?_
      refine rw_get hX hR 8 11 0 (C := RX7) (T := TX7) (N := 48) rfl (by decide) (Nat.le_of_ble_eq_true rfl) rfl (v := .ref (gS γ 1811 0)) rfl uw_X7 gw_939 rfl dX7_driverOf_29 ?_
      refine rw_iload_n hX hl 1 rfl dX7_driverOf_32 rfl ?_
      obtain ⟨h7, hw1⟩ := ar_some hw
      replace hw := hw1
      clear hw1
      obtain ⟨j6, ej6⟩ : ∃ j, (x1 : Int32).toNatClampNeg = j := ⟨_, rfl⟩
      rw [ej6] at hw
      refine rw_zald hX hR 811 (n := 24) (i := x1) (v := (gb (zi σ 800 0 (b2i y1)) 811 j6)) rfl (by decide) rfl rfl h7 (by rw [ej6]) dX7_driverOf_33 ?_
      refine rw_ifneZ (b := (gb (zi σ 800 0 (b2i y1)) 811 j6)) (tgt := 41) hX dX7_driverOf_34 (by decide) (fun c8 => ?_) (fun c8 => ?_)
      · replace hw := if_t hw c8
        refine rw_aload_n hX hl 0 rfl (Or.inr ⟨_, rfl⟩) dX7_driverOf_41 rfl ?_
        refine rw_iload_n hX hl 1 rfl dX7_driverOf_42 rfl ?_
        obtain ⟨v9, g11, hw1⟩ := ob1_some hw
        replace hw := hw1
        clear hw1
        refine rw_cVi hX hR pk_f8_isBound (mc := 0) (ms := 0) ⟨rfl, rfl, (show 1 + 1 ≤ 3 by omega), (show 8 + (2 + 11) + 64 * 1 ≤ 64 * 3 by omega)⟩ (As := [.int x1]) (rest := []) rfl (C_f8_isBound l γ ad x1 (zi σ 800 0 (b2i y1)) v9 g11) gw_1097 gw_1099 gs_55 (rs_recv hX hR 8 0 (C := RX7) (T := TX7) (N := 48) rfl (by decide) (Nat.le_of_ble_eq_true rfl) rfl) rfl hl.1 ca0 (Nat.le_of_ble_eq_true rfl) dX7_driverOf_43 ⟨(show cells + 0 ≤ 0 by omega), (show slots + 0 ≤ 0 by omega)⟩ (fun H locs hR1 => ?_)
        replace hR := hR1
        clear hR1
        refine rw_ifeqZ (b := v9) (tgt := 58) hX dX7_driverOf_46 (by decide) (fun c12 => ?_) (fun c12 => ?_)
        · replace hw := if_f hw c12
          refine rw_aload_n hX hl 0 rfl (Or.inr ⟨_, rfl⟩) dX7_driverOf_58 rfl ?_
          refine rw_aload_n hX hl 0 rfl (Or.inr ⟨_, rfl⟩) dX7_driverOf_59 rfl ?_
          refine rw_get hX hR 8 5 0 (C := RX7) (T := TX7) (N := 48) rfl (by decide) (Nat.le_of_ble_eq_true rfl) rfl (v := .ref (gS γ 1805 0)) rfl uw_X7 gw_933 rfl dX7_driverOf_60 ?_
          refine rw_iload_n hX hl 1 rfl dX7_driverOf_63 rfl ?_
          obtain ⟨h14, hw1⟩ := ar_some hw
          replace hw := hw1
          clear hw1
          obtain ⟨j13, ej13⟩ : ∃ j, (x1 : Int32).toNatClampNeg = j := ⟨_, rfl⟩
          rw [ej13] at hw
          refine rw_iald hX hR 805 (n := 24) (i := x1) (v := (gi (zi σ 800 0 (b2i y1)) 805 j13)) rfl (by decide) rfl rfl h14 (by rw [ej13]) dX7_driverOf_64 ?_
          obtain ⟨v15, g17, hw1⟩ := ob1_some hw
          replace hw := hw1
          clear hw1
          refine rw_cVi hX hR pk_f8_driverFor (mc := 0) (ms := 0) ⟨rfl, rfl, (show 1 + 1 ≤ 3 by omega), (show 8 + (5 + 11) + 64 * 1 ≤ 64 * 3 by omega)⟩ (As := [.int (gi (zi σ 800 0 (b2i y1)) 805 j13)]) (rest := []) rfl (C_f8_driverFor l γ ad (gi (zi σ 800 0 (b2i y1)) 805 j13) (zi σ 800 0 (b2i y1)) v15 g17) gw_1105 gw_1107 gs_57 (rs_recv hX hR 8 0 (C := RX7) (T := TX7) (N := 48) rfl (by decide) (Nat.le_of_ble_eq_true rfl) rfl) rfl hl.1 ca0 (Nat.le_of_ble_eq_true rfl) dX7_driverOf_65 ⟨(show (cells + 0) + 0 ≤ 0 by omega), (show (slots + 0) + 0 ≤ 0 by omega)⟩ (fun H locs hR1 => ?_)
          replace hR := hR1
          clear hR1
          refine W.widen (k := 0) (n := 0) (by omega) (by omega) ?_
          exact rq_ie hX hR hr hw dX7_driverOf_68 hlocks
        · replace hw := if_t hw c12
          refine rw_aload_n hX hl 0 rfl (Or.inr ⟨_, rfl⟩) dX7_driverOf_49 rfl ?_
          refine rw_get hX hR 8 12 0 (C := RX7) (T := TX7) (N := 48) rfl (by decide) (Nat.le_of_ble_eq_true rfl) rfl (v := .ref (gS γ 1812 0)) rfl uw_X7 gw_940 rfl dX7_driverOf_50 ?_
          refine rw_iload_n hX hl 1 rfl dX7_driverOf_53 rfl ?_
          obtain ⟨h19, hw1⟩ := ar_some hw
          replace hw := hw1
          clear hw1
          obtain ⟨j18, ej18⟩ : ∃ j, (x1 : Int32).toNatClampNeg = j := ⟨_, rfl⟩
          rw [ej18] at hw
          refine rw_iald hX hR 812 (n := 24) (i := x1) (v := (gi (zi σ 800 0 (b2i y1)) 812 j18)) rfl (by decide) rfl rfl h19 (by rw [ej18]) dX7_driverOf_54 ?_
          refine lv_goto (tgt := 68) hX.1.1 hX.1.2.1 dX7_driverOf_55 (by decide) ?_
          refine W.widen (k := 0) (n := 0) (by omega) (by omega) ?_
          exact rq_ie hX hR hr hw dX7_driverOf_68 hlocks
      · replace hw := if_f hw c8
        refine lv_iconst (v := (-1)) hX.1.1 hX.1.2.1 dX7_driverOf_37 (by decide) ?_
        refine lv_goto (tgt := 68) hX.1.1 hX.1.2.1 dX7_driverOf_38 (by decide) ?_
        refine W.widen (k := 0) (n := 0) (by omega) (by omega) ?_
        exact rq_ie hX hR hr hw dX7_driverOf_68 hlocks
    · replace hw := if_f hw c5
      refine lv_iconst (v := 0) hX.1.1 hX.1.2.1 dX7_driverOf_24 (by decide) ?_
      refine lv_goto (tgt := 68) hX.1.1 hX.1.2.1 dX7_driverOf_25 (by decide) ?_
      refine W.widen (k := 0) (n := 0) (by omega) (by omega) ?_
      exact rq_ie hX hR hr hw dX7_driverOf_68 hlocks
  refine rw_entry (ca1 rfl (ca1 rfl ca0)) (Nat.le_of_ble_eq_true rfl) (fun ls hl1 => ?_)
  replace hl := hl1
  clear hl1
  refine rw_aload_n hX hl 0 rfl (Or.inr ⟨_, rfl⟩) dX7_driverOf_0 rfl ?_
  refine rw_aload_n hX hl 0 rfl (Or.inr ⟨_, rfl⟩) dX7_driverOf_1 rfl ?_
  refine rw_iload_n hX hl 1 rfl dX7_driverOf_2 rfl ?_
  obtain ⟨v1, g3, hw1⟩ := ob1_some hw
  replace hw := hw1
  clear hw1
  refine rw_cVi hX hR pk_f8_isDevice (mc := 0) (ms := 0) ⟨rfl, rfl, (show 2 + 1 ≤ 3 by omega), (show 8 + (2 + 11) + 64 * 2 ≤ 64 * 3 by omega)⟩ (As := [.int a1]) (rest := [.ref (gS γ 8 0)]) rfl (C_f8_isDevice l γ ad a1 σ v1 g3) gw_1089 gw_1091 gs_53 (rs_recv hX hR 8 0 (C := RX7) (T := TX7) (N := 48) rfl (by decide) (Nat.le_of_ble_eq_true rfl) rfl) rfl hl.1 (ca1 rfl ca0) (Nat.le_of_ble_eq_true rfl) dX7_driverOf_3 ⟨(show 0 + 0 ≤ 0 by omega), (show 0 + 0 ≤ 0 by omega)⟩ (fun H locs hR1 => ?_)
  replace hR := hR1
  clear hR1
  refine rw_ifeqZ (b := v1) (tgt := 13) hX dX7_driverOf_6 (by decide) (fun c4 => ?_) (fun c4 => ?_)
  · replace hw := if_f hw c4
    refine lv_iconst (v := 1) hX.1.1 hX.1.2.1 dX7_driverOf_13 (by decide) ?_
    exact J14 a1 true σ _ _ (by omega) (by omega) _ _ _ hw hR (lh_sub hl [0, 1] rfl)
  · replace hw := if_t hw c4
    refine lv_iconst (v := 0) hX.1.1 hX.1.2.1 dX7_driverOf_9 (by decide) ?_
    refine lv_goto (tgt := 14) hX.1.1 hX.1.2.1 dX7_driverOf_10 (by decide) ?_
    exact J14 a1 false σ _ _ (by omega) (by omega) _ _ _ hw hR (lh_sub hl [0, 1] rfl)
set_option maxHeartbeats 8000000 in
set_option maxRecDepth 100000 in
theorem C_f8_window (l : Launch) (γ : GT) (ad : Nat → Nat → Nat) {fu : Nat} (a1 : Int32) (σ : St) (r : Int32) (σ' : St) (hw : f8_window fu a1 σ = some (r, σ')) : Met l yX7_window (Cond.code yX7_window cX7_window 2 (Option.some Jvm.ClassFile.FieldType.int) :: GW) (rmo 3 0 0) (va_Pc [.ref (gS γ 8 0), .int a1] (RU γ ad σ)) (QI γ ad σ' r) 0 0 (gA γ) := by
  refine Met.ofW (cc := cX7_window) (maxL := 2) (ret := (Option.some Jvm.ClassFile.FieldType.int)) (by decide +kernel) rfl ?_
  intro p e s m args below meth c s₁ B hml hv
  obtain ⟨rfl, hU⟩ := hv
  obtain ⟨hX, hR⟩ := cx_of (own := RX7) B hml rfl hU
  have hr := B.returns
  have hlocks := B.notSynchronized
  have hc0 : (0 : Nat) ≤ 0 := Nat.le_refl 0
  show W p l e (rmo 3 0 0) s m ([.ref (gS γ 8 0), .int a1] : List Value).toArray below meth c s.heap [] 0 0 (MQ below (QI γ ad σ' r) ([.ref (gS γ 8 0), .int a1] : List Value).toArray s 0 0 (gA γ)) (entryFrame m ([.ref (gS γ 8 0), .int a1] : List Value).toArray 2)
  unfold f8_window at hw
  have J14 : ∀ (x1 : Int32) (y1 : Bool) (σ : St) (cells slots : Nat), cells ≤ 0 → slots ≤ 0 → ∀ (H : Heap) (locs : List Loc) (ls : Array Slot), f8_window_j14 fu x1 y1 σ = some (r, σ') → RS γ ad σ s H locs → lh ls 2 [(0, .ref (gS γ 8 0)), (1, .int x1)] → W p l e (rmo 3 0 0) s m ([.ref (gS γ 8 0), .int a1] : List Value).toArray below meth c H locs cells slots (MQ below (QI γ ad σ' r) ([.ref (gS γ 8 0), .int a1] : List Value).toArray s 0 0 (gA γ)) (F0 m 14 ls [.int (b2i y1), .ref (gS γ 8 0)]) := by
    intro x1 y1 σ cells slots hc1 hc2 H locs ls hw hR hl
    unfold f8_window_j14 at hw
    refine rw_puti (x := (b2i y1)) hX hR 8 0 0 800 (C := RX7) (T := TX7) (N := 48) rfl (by decide) rfl rfl (Nat.le_of_ble_eq_true rfl) rfl uw_X7 tyX7 tyX7_ok nmX7 gw_928 rfl rfl (by decide) dX7_window_14 (fun σ1 H locs e1 hR1 => ?_)
    replace hR := hR1
    clear hR1
    subst e1
    refine rw_aload_n hX hl 0 rfl (Or.inr ⟨_, rfl⟩) dX7_window_17 rfl ?_
    refine rw_get hX hR 8 0 0 (C := RX7) (T := TX7) (N := 48) rfl (by decide) (Nat.le_of_ble_eq_true rfl) rfl (v := .int (gi (zi σ 800 0 (b2i y1)) 800 0)) rfl uw_X7 gw_928 rfl dX7_window_18 ?_
    refine lv_if_eq (x := (gi (zi σ 800 0 (b2i y1)) 800 0)) (tgt := 28) hX.1.1 hX.1.2.1 dX7_window_21 (by decide) (fun c5 => ?_) (fun c5 => ?_)
    · replace hw := if_t hw c5
      refine rw_aload_n hX hl 0 rfl (Or.inr ⟨_, rfl⟩) dX7_window_28 rfl ?_
      refine rw_get hX hR 8 14 0 (C := RX7) (T := TX7) (N := 48) rfl (by decide) (Nat.le_of_ble_eq_true rfl) rfl (v := .ref (gS γ 1814 0)) rfl uw_X7 gw_942 rfl dX7_window_29 ?_
      refine rw_iload_n hX hl 1 rfl dX7_window_32 rfl ?_
      obtain ⟨h7, hw1⟩ := ar_some hw
      replace hw := hw1
      clear hw1
      obtain ⟨j6, ej6⟩ : ∃ j, (x1 : Int32).toNatClampNeg = j := ⟨_, rfl⟩
      rw [ej6] at hw
      refine rw_iald hX hR 814 (n := 24) (i := x1) (v := (gi (zi σ 800 0 (b2i y1)) 814 j6)) rfl (by decide) rfl rfl h7 (by rw [ej6]) dX7_window_33 ?_
      refine W.widen (k := 0) (n := 0) (by omega) (by omega) ?_
      exact rq_ie hX hR hr hw dX7_window_34 hlocks
    · replace hw := if_f hw c5
      refine lv_iconst (v := 0) hX.1.1 hX.1.2.1 dX7_window_24 (by decide) ?_
      refine lv_goto (tgt := 34) hX.1.1 hX.1.2.1 dX7_window_25 (by decide) ?_
      refine W.widen (k := 0) (n := 0) (by omega) (by omega) ?_
      exact rq_ie hX hR hr hw dX7_window_34 hlocks
  refine rw_entry (ca1 rfl (ca1 rfl ca0)) (Nat.le_of_ble_eq_true rfl) (fun ls hl1 => ?_)
  replace hl := hl1
  clear hl1
  refine rw_aload_n hX hl 0 rfl (Or.inr ⟨_, rfl⟩) dX7_window_0 rfl ?_
  refine rw_aload_n hX hl 0 rfl (Or.inr ⟨_, rfl⟩) dX7_window_1 rfl ?_
  refine rw_iload_n hX hl 1 rfl dX7_window_2 rfl ?_
  obtain ⟨v1, g3, hw1⟩ := ob1_some hw
  replace hw := hw1
  clear hw1
  refine rw_cVi hX hR pk_f8_isDevice (mc := 0) (ms := 0) ⟨rfl, rfl, (show 2 + 1 ≤ 3 by omega), (show 8 + (2 + 11) + 64 * 2 ≤ 64 * 3 by omega)⟩ (As := [.int a1]) (rest := [.ref (gS γ 8 0)]) rfl (C_f8_isDevice l γ ad a1 σ v1 g3) gw_1089 gw_1091 gs_53 (rs_recv hX hR 8 0 (C := RX7) (T := TX7) (N := 48) rfl (by decide) (Nat.le_of_ble_eq_true rfl) rfl) rfl hl.1 (ca1 rfl ca0) (Nat.le_of_ble_eq_true rfl) dX7_window_3 ⟨(show 0 + 0 ≤ 0 by omega), (show 0 + 0 ≤ 0 by omega)⟩ (fun H locs hR1 => ?_)
  replace hR := hR1
  clear hR1
  refine rw_ifeqZ (b := v1) (tgt := 13) hX dX7_window_6 (by decide) (fun c4 => ?_) (fun c4 => ?_)
  · replace hw := if_f hw c4
    refine lv_iconst (v := 1) hX.1.1 hX.1.2.1 dX7_window_13 (by decide) ?_
    exact J14 a1 true σ _ _ (by omega) (by omega) _ _ _ hw hR (lh_sub hl [0, 1] rfl)
  · replace hw := if_t hw c4
    refine lv_iconst (v := 0) hX.1.1 hX.1.2.1 dX7_window_9 (by decide) ?_
    refine lv_goto (tgt := 14) hX.1.1 hX.1.2.1 dX7_window_10 (by decide) ?_
    exact J14 a1 false σ _ _ (by omega) (by omega) _ _ _ hw hR (lh_sub hl [0, 1] rfl)
set_option maxHeartbeats 8000000 in
set_option maxRecDepth 100000 in
theorem C_f8_isOn (l : Launch) (γ : GT) (ad : Nat → Nat → Nat) {fu : Nat} (a1 : Int32) (σ : St) (r : Bool) (σ' : St) (hw : f8_isOn fu a1 σ = some (r, σ')) : Met l yX7_isOn (Cond.code yX7_isOn cX7_isOn 2 (Option.some Jvm.ClassFile.FieldType.boolean) :: GW) (rmo 3 0 0) (va_Pc [.ref (gS γ 8 0), .int a1] (RU γ ad σ)) (QI γ ad σ' (b2i r)) 0 0 (gA γ) := by
  refine Met.ofW (cc := cX7_isOn) (maxL := 2) (ret := (Option.some Jvm.ClassFile.FieldType.boolean)) (by decide +kernel) rfl ?_
  intro p e s m args below meth c s₁ B hml hv
  obtain ⟨rfl, hU⟩ := hv
  obtain ⟨hX, hR⟩ := cx_of (own := RX7) B hml rfl hU
  have hr := B.returns
  have hlocks := B.notSynchronized
  have hc0 : (0 : Nat) ≤ 0 := Nat.le_refl 0
  show W p l e (rmo 3 0 0) s m ([.ref (gS γ 8 0), .int a1] : List Value).toArray below meth c s.heap [] 0 0 (MQ below (QI γ ad σ' (b2i r)) ([.ref (gS γ 8 0), .int a1] : List Value).toArray s 0 0 (gA γ)) (entryFrame m ([.ref (gS γ 8 0), .int a1] : List Value).toArray 2)
  unfold f8_isOn at hw
  have J14 : ∀ (x1 : Int32) (y1 : Bool) (σ : St) (cells slots : Nat), cells ≤ 0 → slots ≤ 0 → ∀ (H : Heap) (locs : List Loc) (ls : Array Slot), f8_isOn_j14 fu x1 y1 σ = some (r, σ') → RS γ ad σ s H locs → lh ls 2 [(0, .ref (gS γ 8 0)), (1, .int x1)] → W p l e (rmo 3 0 0) s m ([.ref (gS γ 8 0), .int a1] : List Value).toArray below meth c H locs cells slots (MQ below (QI γ ad σ' (b2i r)) ([.ref (gS γ 8 0), .int a1] : List Value).toArray s 0 0 (gA γ)) (F0 m 14 ls [.int (b2i y1), .ref (gS γ 8 0)]) := by
    intro x1 y1 σ cells slots hc1 hc2 H locs ls hw hR hl
    unfold f8_isOn_j14 at hw
    refine rw_puti (x := (b2i y1)) hX hR 8 0 0 800 (C := RX7) (T := TX7) (N := 48) rfl (by decide) rfl rfl (Nat.le_of_ble_eq_true rfl) rfl uw_X7 tyX7 tyX7_ok nmX7 gw_928 rfl rfl (by decide) dX7_isOn_14 (fun σ1 H locs e1 hR1 => ?_)
    replace hR := hR1
    clear hR1
    subst e1
    refine rw_aload_n hX hl 0 rfl (Or.inr ⟨_, rfl⟩) dX7_isOn_17 rfl ?_
    refine rw_get hX hR 8 0 0 (C := RX7) (T := TX7) (N := 48) rfl (by decide) (Nat.le_of_ble_eq_true rfl) rfl (v := .int (gi (zi σ 800 0 (b2i y1)) 800 0)) rfl uw_X7 gw_928 rfl dX7_isOn_18 ?_
    refine lv_if_ne (x := (gi (zi σ 800 0 (b2i y1)) 800 0)) (tgt := 37) hX.1.1 hX.1.2.1 dX7_isOn_21 (by decide) (fun c5 => ?_) (fun c5 => ?_)
    · replace hw := if_f hw c5
      refine lv_iconst (v := 0) hX.1.1 hX.1.2.1 dX7_isOn_37 (by decide) ?_
      refine W.widen (k := 0) (n := 0) (by omega) (by omega) ?_
      exact rq_ze hX hR hr (v := false) rfl hw dX7_isOn_38 hlocks
    · replace hw := if_t hw c5
      refine rw_aload_n hX hl 0 rfl (Or.inr ⟨_, rfl⟩) dX7_isOn_24 rfl ?_
      refine rw_get hX hR 8 13 0 (C := RX7) (T := TX7) (N := 48) rfl (by decide) (Nat.le_of_ble_eq_true rfl) rfl (v := .ref (gS γ 1813 0)) rfl uw_X7 gw_941 rfl dX7_isOn_25 ?_
      refine rw_iload_n hX hl 1 rfl dX7_isOn_28 rfl ?_
      obtain ⟨h7, hw1⟩ := ar_some hw
      replace hw := hw1
      clear hw1
      obtain ⟨j6, ej6⟩ : ∃ j, (x1 : Int32).toNatClampNeg = j := ⟨_, rfl⟩
      rw [ej6] at hw
      refine rw_zald hX hR 813 (n := 24) (i := x1) (v := (gb (zi σ 800 0 (b2i y1)) 813 j6)) rfl (by decide) rfl rfl h7 (by rw [ej6]) dX7_isOn_29 ?_
      refine rw_ifeqZ (b := (gb (zi σ 800 0 (b2i y1)) 813 j6)) (tgt := 37) hX dX7_isOn_30 (by decide) (fun c8 => ?_) (fun c8 => ?_)
      · replace hw := if_f hw c8
        refine lv_iconst (v := 0) hX.1.1 hX.1.2.1 dX7_isOn_37 (by decide) ?_
        refine W.widen (k := 0) (n := 0) (by omega) (by omega) ?_
        exact rq_ze hX hR hr (v := false) rfl hw dX7_isOn_38 hlocks
      · replace hw := if_t hw c8
        refine lv_iconst (v := 1) hX.1.1 hX.1.2.1 dX7_isOn_33 (by decide) ?_
        refine lv_goto (tgt := 38) hX.1.1 hX.1.2.1 dX7_isOn_34 (by decide) ?_
        refine W.widen (k := 0) (n := 0) (by omega) (by omega) ?_
        exact rq_ze hX hR hr (v := true) rfl hw dX7_isOn_38 hlocks
  refine rw_entry (ca1 rfl (ca1 rfl ca0)) (Nat.le_of_ble_eq_true rfl) (fun ls hl1 => ?_)
  replace hl := hl1
  clear hl1
  refine rw_aload_n hX hl 0 rfl (Or.inr ⟨_, rfl⟩) dX7_isOn_0 rfl ?_
  refine rw_aload_n hX hl 0 rfl (Or.inr ⟨_, rfl⟩) dX7_isOn_1 rfl ?_
  refine rw_iload_n hX hl 1 rfl dX7_isOn_2 rfl ?_
  obtain ⟨v1, g3, hw1⟩ := ob1_some hw
  replace hw := hw1
  clear hw1
  refine rw_cVi hX hR pk_f8_isDevice (mc := 0) (ms := 0) ⟨rfl, rfl, (show 2 + 1 ≤ 3 by omega), (show 8 + (2 + 11) + 64 * 2 ≤ 64 * 3 by omega)⟩ (As := [.int a1]) (rest := [.ref (gS γ 8 0)]) rfl (C_f8_isDevice l γ ad a1 σ v1 g3) gw_1089 gw_1091 gs_53 (rs_recv hX hR 8 0 (C := RX7) (T := TX7) (N := 48) rfl (by decide) (Nat.le_of_ble_eq_true rfl) rfl) rfl hl.1 (ca1 rfl ca0) (Nat.le_of_ble_eq_true rfl) dX7_isOn_3 ⟨(show 0 + 0 ≤ 0 by omega), (show 0 + 0 ≤ 0 by omega)⟩ (fun H locs hR1 => ?_)
  replace hR := hR1
  clear hR1
  refine rw_ifeqZ (b := v1) (tgt := 13) hX dX7_isOn_6 (by decide) (fun c4 => ?_) (fun c4 => ?_)
  · replace hw := if_f hw c4
    refine lv_iconst (v := 1) hX.1.1 hX.1.2.1 dX7_isOn_13 (by decide) ?_
    exact J14 a1 true σ _ _ (by omega) (by omega) _ _ _ hw hR (lh_sub hl [0, 1] rfl)
  · replace hw := if_t hw c4
    refine lv_iconst (v := 0) hX.1.1 hX.1.2.1 dX7_isOn_9 (by decide) ?_
    refine lv_goto (tgt := 14) hX.1.1 hX.1.2.1 dX7_isOn_10 (by decide) ?_
    exact J14 a1 false σ _ _ (by omega) (by omega) _ _ _ hw hR (lh_sub hl [0, 1] rfl)
set_option maxHeartbeats 8000000 in
set_option maxRecDepth 100000 in
theorem C_f8_isPending (l : Launch) (γ : GT) (ad : Nat → Nat → Nat) {fu : Nat} (a1 : Int32) (σ : St) (r : Bool) (σ' : St) (hw : f8_isPending fu a1 σ = some (r, σ')) : Met l yX7_isPending (Cond.code yX7_isPending cX7_isPending 2 (Option.some Jvm.ClassFile.FieldType.boolean) :: GW) (rmo 3 0 0) (va_Pc [.ref (gS γ 8 0), .int a1] (RU γ ad σ)) (QI γ ad σ' (b2i r)) 0 0 (gA γ) := by
  refine Met.ofW (cc := cX7_isPending) (maxL := 2) (ret := (Option.some Jvm.ClassFile.FieldType.boolean)) (by decide +kernel) rfl ?_
  intro p e s m args below meth c s₁ B hml hv
  obtain ⟨rfl, hU⟩ := hv
  obtain ⟨hX, hR⟩ := cx_of (own := RX7) B hml rfl hU
  have hr := B.returns
  have hlocks := B.notSynchronized
  have hc0 : (0 : Nat) ≤ 0 := Nat.le_refl 0
  show W p l e (rmo 3 0 0) s m ([.ref (gS γ 8 0), .int a1] : List Value).toArray below meth c s.heap [] 0 0 (MQ below (QI γ ad σ' (b2i r)) ([.ref (gS γ 8 0), .int a1] : List Value).toArray s 0 0 (gA γ)) (entryFrame m ([.ref (gS γ 8 0), .int a1] : List Value).toArray 2)
  unfold f8_isPending at hw
  have J14 : ∀ (x1 : Int32) (y1 : Bool) (σ : St) (cells slots : Nat), cells ≤ 0 → slots ≤ 0 → ∀ (H : Heap) (locs : List Loc) (ls : Array Slot), f8_isPending_j14 fu x1 y1 σ = some (r, σ') → RS γ ad σ s H locs → lh ls 2 [(0, .ref (gS γ 8 0)), (1, .int x1)] → W p l e (rmo 3 0 0) s m ([.ref (gS γ 8 0), .int a1] : List Value).toArray below meth c H locs cells slots (MQ below (QI γ ad σ' (b2i r)) ([.ref (gS γ 8 0), .int a1] : List Value).toArray s 0 0 (gA γ)) (F0 m 14 ls [.int (b2i y1), .ref (gS γ 8 0)]) := by
    intro x1 y1 σ cells slots hc1 hc2 H locs ls hw hR hl
    unfold f8_isPending_j14 at hw
    refine rw_puti (x := (b2i y1)) hX hR 8 0 0 800 (C := RX7) (T := TX7) (N := 48) rfl (by decide) rfl rfl (Nat.le_of_ble_eq_true rfl) rfl uw_X7 tyX7 tyX7_ok nmX7 gw_928 rfl rfl (by decide) dX7_isPending_14 (fun σ1 H locs e1 hR1 => ?_)
    replace hR := hR1
    clear hR1
    subst e1
    refine rw_aload_n hX hl 0 rfl (Or.inr ⟨_, rfl⟩) dX7_isPending_17 rfl ?_
    refine rw_get hX hR 8 0 0 (C := RX7) (T := TX7) (N := 48) rfl (by decide) (Nat.le_of_ble_eq_true rfl) rfl (v := .int (gi (zi σ 800 0 (b2i y1)) 800 0)) rfl uw_X7 gw_928 rfl dX7_isPending_18 ?_
    refine lv_if_ne (x := (gi (zi σ 800 0 (b2i y1)) 800 0)) (tgt := 37) hX.1.1 hX.1.2.1 dX7_isPending_21 (by decide) (fun c5 => ?_) (fun c5 => ?_)
    · replace hw := if_f hw c5
      refine lv_iconst (v := 0) hX.1.1 hX.1.2.1 dX7_isPending_37 (by decide) ?_
      refine W.widen (k := 0) (n := 0) (by omega) (by omega) ?_
      exact rq_ze hX hR hr (v := false) rfl hw dX7_isPending_38 hlocks
    · replace hw := if_t hw c5
      refine rw_aload_n hX hl 0 rfl (Or.inr ⟨_, rfl⟩) dX7_isPending_24 rfl ?_
      refine rw_get hX hR 8 17 0 (C := RX7) (T := TX7) (N := 48) rfl (by decide) (Nat.le_of_ble_eq_true rfl) rfl (v := .ref (gS γ 1817 0)) rfl uw_X7 gw_945 rfl dX7_isPending_25 ?_
      refine rw_iload_n hX hl 1 rfl dX7_isPending_28 rfl ?_
      obtain ⟨h7, hw1⟩ := ar_some hw
      replace hw := hw1
      clear hw1
      obtain ⟨j6, ej6⟩ : ∃ j, (x1 : Int32).toNatClampNeg = j := ⟨_, rfl⟩
      rw [ej6] at hw
      refine rw_zald hX hR 817 (n := 24) (i := x1) (v := (gb (zi σ 800 0 (b2i y1)) 817 j6)) rfl (by decide) rfl rfl h7 (by rw [ej6]) dX7_isPending_29 ?_
      refine rw_ifeqZ (b := (gb (zi σ 800 0 (b2i y1)) 817 j6)) (tgt := 37) hX dX7_isPending_30 (by decide) (fun c8 => ?_) (fun c8 => ?_)
      · replace hw := if_f hw c8
        refine lv_iconst (v := 0) hX.1.1 hX.1.2.1 dX7_isPending_37 (by decide) ?_
        refine W.widen (k := 0) (n := 0) (by omega) (by omega) ?_
        exact rq_ze hX hR hr (v := false) rfl hw dX7_isPending_38 hlocks
      · replace hw := if_t hw c8
        refine lv_iconst (v := 1) hX.1.1 hX.1.2.1 dX7_isPending_33 (by decide) ?_
        refine lv_goto (tgt := 38) hX.1.1 hX.1.2.1 dX7_isPending_34 (by decide) ?_
        refine W.widen (k := 0) (n := 0) (by omega) (by omega) ?_
        exact rq_ze hX hR hr (v := true) rfl hw dX7_isPending_38 hlocks
  refine rw_entry (ca1 rfl (ca1 rfl ca0)) (Nat.le_of_ble_eq_true rfl) (fun ls hl1 => ?_)
  replace hl := hl1
  clear hl1
  refine rw_aload_n hX hl 0 rfl (Or.inr ⟨_, rfl⟩) dX7_isPending_0 rfl ?_
  refine rw_aload_n hX hl 0 rfl (Or.inr ⟨_, rfl⟩) dX7_isPending_1 rfl ?_
  refine rw_iload_n hX hl 1 rfl dX7_isPending_2 rfl ?_
  obtain ⟨v1, g3, hw1⟩ := ob1_some hw
  replace hw := hw1
  clear hw1
  refine rw_cVi hX hR pk_f8_isDevice (mc := 0) (ms := 0) ⟨rfl, rfl, (show 2 + 1 ≤ 3 by omega), (show 8 + (2 + 11) + 64 * 2 ≤ 64 * 3 by omega)⟩ (As := [.int a1]) (rest := [.ref (gS γ 8 0)]) rfl (C_f8_isDevice l γ ad a1 σ v1 g3) gw_1089 gw_1091 gs_53 (rs_recv hX hR 8 0 (C := RX7) (T := TX7) (N := 48) rfl (by decide) (Nat.le_of_ble_eq_true rfl) rfl) rfl hl.1 (ca1 rfl ca0) (Nat.le_of_ble_eq_true rfl) dX7_isPending_3 ⟨(show 0 + 0 ≤ 0 by omega), (show 0 + 0 ≤ 0 by omega)⟩ (fun H locs hR1 => ?_)
  replace hR := hR1
  clear hR1
  refine rw_ifeqZ (b := v1) (tgt := 13) hX dX7_isPending_6 (by decide) (fun c4 => ?_) (fun c4 => ?_)
  · replace hw := if_f hw c4
    refine lv_iconst (v := 1) hX.1.1 hX.1.2.1 dX7_isPending_13 (by decide) ?_
    exact J14 a1 true σ _ _ (by omega) (by omega) _ _ _ hw hR (lh_sub hl [0, 1] rfl)
  · replace hw := if_t hw c4
    refine lv_iconst (v := 0) hX.1.1 hX.1.2.1 dX7_isPending_9 (by decide) ?_
    refine lv_goto (tgt := 14) hX.1.1 hX.1.2.1 dX7_isPending_10 (by decide) ?_
    exact J14 a1 false σ _ _ (by omega) (by omega) _ _ _ hw hR (lh_sub hl [0, 1] rfl)
set_option maxHeartbeats 8000000 in
set_option maxRecDepth 100000 in
theorem C_f8_strikes (l : Launch) (γ : GT) (ad : Nat → Nat → Nat) {fu : Nat} (a1 : Int32) (σ : St) (r : Int32) (σ' : St) (hw : f8_strikes fu a1 σ = some (r, σ')) : Met l yX7_strikes (Cond.code yX7_strikes cX7_strikes 2 (Option.some Jvm.ClassFile.FieldType.int) :: GW) (rmo 2 0 0) (va_Pc [.ref (gS γ 8 0), .int a1] (RU γ ad σ)) (QI γ ad σ' r) 0 0 (gA γ) := by
  refine Met.ofW (cc := cX7_strikes) (maxL := 2) (ret := (Option.some Jvm.ClassFile.FieldType.int)) (by decide +kernel) rfl ?_
  intro p e s m args below meth c s₁ B hml hv
  obtain ⟨rfl, hU⟩ := hv
  obtain ⟨hX, hR⟩ := cx_of (own := RX7) B hml rfl hU
  have hr := B.returns
  have hlocks := B.notSynchronized
  have hc0 : (0 : Nat) ≤ 0 := Nat.le_refl 0
  show W p l e (rmo 2 0 0) s m ([.ref (gS γ 8 0), .int a1] : List Value).toArray below meth c s.heap [] 0 0 (MQ below (QI γ ad σ' r) ([.ref (gS γ 8 0), .int a1] : List Value).toArray s 0 0 (gA γ)) (entryFrame m ([.ref (gS γ 8 0), .int a1] : List Value).toArray 2)
  unfold f8_strikes at hw
  have J16 : ∀ (x1 : Int32) (y1 : Bool) (σ : St) (cells slots : Nat), cells ≤ 0 → slots ≤ 0 → ∀ (H : Heap) (locs : List Loc) (ls : Array Slot), f8_strikes_j16 fu x1 y1 σ = some (r, σ') → RS γ ad σ s H locs → lh ls 2 [(0, .ref (gS γ 8 0)), (1, .int x1)] → W p l e (rmo 2 0 0) s m ([.ref (gS γ 8 0), .int a1] : List Value).toArray below meth c H locs cells slots (MQ below (QI γ ad σ' r) ([.ref (gS γ 8 0), .int a1] : List Value).toArray s 0 0 (gA γ)) (F0 m 16 ls [.int (b2i y1), .ref (gS γ 8 0)]) := by
    intro x1 y1 σ cells slots hc1 hc2 H locs ls hw hR hl
    unfold f8_strikes_j16 at hw
    refine rw_puti (x := (b2i y1)) hX hR 8 0 0 800 (C := RX7) (T := TX7) (N := 48) rfl (by decide) rfl rfl (Nat.le_of_ble_eq_true rfl) rfl uw_X7 tyX7 tyX7_ok nmX7 gw_928 rfl rfl (by decide) dX7_strikes_16 (fun σ1 H locs e1 hR1 => ?_)
    replace hR := hR1
    clear hR1
    subst e1
    refine rw_aload_n hX hl 0 rfl (Or.inr ⟨_, rfl⟩) dX7_strikes_19 rfl ?_
    refine rw_get hX hR 8 0 0 (C := RX7) (T := TX7) (N := 48) rfl (by decide) (Nat.le_of_ble_eq_true rfl) rfl (v := .int (gi (zi σ 800 0 (b2i y1)) 800 0)) rfl uw_X7 gw_928 rfl dX7_strikes_20 ?_
    refine lv_if_eq (x := (gi (zi σ 800 0 (b2i y1)) 800 0)) (tgt := 30) hX.1.1 hX.1.2.1 dX7_strikes_23 (by decide) (fun c5 => ?_) (fun c5 => ?_)
    · replace hw := if_t hw c5
      refine rw_aload_n hX hl 0 rfl (Or.inr ⟨_, rfl⟩) dX7_strikes_30 rfl ?_
      refine rw_get hX hR 8 38 0 (C := RX7) (T := TX7) (N := 48) rfl (by decide) (Nat.le_of_ble_eq_true rfl) rfl (v := .ref (gS γ 1838 0)) rfl uw_X7 gw_966 rfl dX7_strikes_31 ?_
      refine rw_iload_n hX hl 1 rfl dX7_strikes_34 rfl ?_
      obtain ⟨h7, hw1⟩ := ar_some hw
      replace hw := hw1
      clear hw1
      obtain ⟨j6, ej6⟩ : ∃ j, (x1 : Int32).toNatClampNeg = j := ⟨_, rfl⟩
      rw [ej6] at hw
      refine rw_iald hX hR 838 (n := 8) (i := x1) (v := (gi (zi σ 800 0 (b2i y1)) 838 j6)) rfl (by decide) rfl rfl h7 (by rw [ej6]) dX7_strikes_35 ?_
      refine W.widen (k := 0) (n := 0) (by omega) (by omega) ?_
      exact rq_ie hX hR hr hw dX7_strikes_36 hlocks
    · replace hw := if_f hw c5
      refine lv_iconst (v := 0) hX.1.1 hX.1.2.1 dX7_strikes_26 (by decide) ?_
      refine lv_goto (tgt := 36) hX.1.1 hX.1.2.1 dX7_strikes_27 (by decide) ?_
      refine W.widen (k := 0) (n := 0) (by omega) (by omega) ?_
      exact rq_ie hX hR hr hw dX7_strikes_36 hlocks
  refine rw_entry (ca1 rfl (ca1 rfl ca0)) (Nat.le_of_ble_eq_true rfl) (fun ls hl1 => ?_)
  replace hl := hl1
  clear hl1
  refine rw_aload_n hX hl 0 rfl (Or.inr ⟨_, rfl⟩) dX7_strikes_0 rfl ?_
  refine rw_iload_n hX hl 1 rfl dX7_strikes_1 rfl ?_
  refine lv_iconst (v := 0) hX.1.1 hX.1.2.1 dX7_strikes_2 (by decide) ?_
  refine lv_bipush (v := 7) hX.1.1 hX.1.2.1 dX7_strikes_3 (by decide) ?_
  obtain ⟨v1, g3, hw1⟩ := ob1_some hw
  replace hw := hw1
  clear hw1
  refine rw_cSi hX hR pk_f8_in (mc := 0) (ms := 0) ⟨rfl, rfl, (show 1 + 1 ≤ 2 by omega), (show 8 + (3 + 11) + 64 * 1 ≤ 64 * 2 by omega)⟩ (As := [.int a1, .int 0, .int 7]) (rest := [.ref (gS γ 8 0)]) rfl (C_f8_in l γ ad a1 0 7 σ v1 g3) gw_1082 gw_1083 rfl hl.1 (ca1 rfl ca0) (Nat.le_of_ble_eq_true rfl) dX7_strikes_5 ⟨(show 0 + 0 ≤ 0 by omega), (show 0 + 0 ≤ 0 by omega)⟩ (fun H locs hR1 => ?_)
  replace hR := hR1
  clear hR1
  refine rw_ifeqZ (b := v1) (tgt := 15) hX dX7_strikes_8 (by decide) (fun c4 => ?_) (fun c4 => ?_)
  · replace hw := if_f hw c4
    refine lv_iconst (v := 1) hX.1.1 hX.1.2.1 dX7_strikes_15 (by decide) ?_
    exact J16 a1 true σ _ _ (by omega) (by omega) _ _ _ hw hR (lh_sub hl [0, 1] rfl)
  · replace hw := if_t hw c4
    refine lv_iconst (v := 0) hX.1.1 hX.1.2.1 dX7_strikes_11 (by decide) ?_
    refine lv_goto (tgt := 16) hX.1.1 hX.1.2.1 dX7_strikes_12 (by decide) ?_
    exact J16 a1 false σ _ _ (by omega) (by omega) _ _ _ hw hR (lh_sub hl [0, 1] rfl)
set_option maxHeartbeats 8000000 in
set_option maxRecDepth 100000 in
theorem C_f8_handles (l : Launch) (γ : GT) (ad : Nat → Nat → Nat) {fu : Nat} (a1 : Int32) (σ : St) (r : Int32) (σ' : St) (hw : f8_handles fu a1 σ = some (r, σ')) : Met l yX7_handles (Cond.code yX7_handles cX7_handles 4 (Option.some Jvm.ClassFile.FieldType.int) :: GW) (rmo 3 0 0) (va_Pc [.ref (gS γ 8 0), .int a1] (RU γ ad σ)) (QI γ ad σ' r) 0 0 (gA γ) := by
  refine Met.ofW (cc := cX7_handles) (maxL := 4) (ret := (Option.some Jvm.ClassFile.FieldType.int)) (by decide +kernel) rfl ?_
  intro p e s m args below meth c s₁ B hml hv
  obtain ⟨rfl, hU⟩ := hv
  obtain ⟨hX, hR⟩ := cx_of (own := RX7) B hml rfl hU
  have hr := B.returns
  have hlocks := B.notSynchronized
  have hc0 : (0 : Nat) ≤ 0 := Nat.le_refl 0
  show W p l e (rmo 3 0 0) s m ([.ref (gS γ 8 0), .int a1] : List Value).toArray below meth c s.heap [] 0 0 (MQ below (QI γ ad σ' r) ([.ref (gS γ 8 0), .int a1] : List Value).toArray s 0 0 (gA γ)) (entryFrame m ([.ref (gS γ 8 0), .int a1] : List Value).toArray 4)
  unfold f8_handles at hw
  have J69 : ∀ (x2 : Int32) (σ : St) (cells slots : Nat), cells ≤ 0 → slots ≤ 0 → ∀ (H : Heap) (locs : List Loc) (ls : Array Slot), f8_handles_j69 fu x2 σ = some (r, σ') → RS γ ad σ s H locs → lh ls 4 [(2, .int x2)] → W p l e (rmo 3 0 0) s m ([.ref (gS γ 8 0), .int a1] : List Value).toArray below meth c H locs cells slots (MQ below (QI γ ad σ' r) ([.ref (gS γ 8 0), .int a1] : List Value).toArray s 0 0 (gA γ)) (F0 m 69 ls []) := by
    intro x2 σ cells slots hc1 hc2 H locs ls hw hR hl
    unfold f8_handles_j69 at hw
    refine rw_iload_n hX hl 0 rfl dX7_handles_69 rfl ?_
    refine W.widen (k := 0) (n := 0) (by omega) (by omega) ?_
    exact rq_ie hX hR hr hw dX7_handles_70 hlocks
  have L21 : ∀ (x1 : Int32) (σ : St) (n : Nat) (s9 : (Int32 × Int32)) (cells slots : Nat), cells ≤ 0 → slots ≤ 0 → ∀ (H : Heap) (locs : List Loc) (ls : Array Slot), lp (fun s8 => f8_handles_b21 fu x1 s8.1 s8.2 σ) n s9 = some (r, σ') → RS γ ad σ s H locs → lh ls 4 [(0, .ref (gS γ 8 0)), (1, .int x1), (2, .int s9.1), (3, .int s9.2)] → W p l e (rmo 3 0 0) s m ([.ref (gS γ 8 0), .int a1] : List Value).toArray below meth c H locs cells slots (MQ below (QI γ ad σ' r) ([.ref (gS γ 8 0), .int a1] : List Value).toArray s 0 0 (gA γ)) (F0 m 21 ls []) := by
    intro x1 σ n21
    induction n21 with
    | zero => intro s9 cells slots hc1 hc2 H locs ls hw hR hl; exact (lp_zero hw).elim
    | succ n21 ih21 =>
      intro s9 cells slots hc1 hc2 H locs ls hw hR hl
      obtain ⟨o21, hw1, hb21, ho21⟩ := lp_succ hw
      replace hw := hw1
      clear hw1
      obtain ⟨x2, x3⟩ := s9
      replace hw : f8_handles_b21 fu x1 x2 x3 σ = some o21 := hw
      replace hl : lh ls 4 [(0, .ref (gS γ 8 0)), (1, .int x1), (2, .int x2), (3, .int x3)] := hl
      unfold f8_handles_b21 at hw
      have J61 : ∀ (x3 : Int32) (y0 : Int32) (y1 : Bool) (cells slots : Nat), cells ≤ 0 → slots ≤ 0 → ∀ (H : Heap) (locs : List Loc) (ls : Array Slot), f8_handles_j61 fu x1 x3 y0 y1 σ = some o21 → RS γ ad σ s H locs → lh ls 4 [(0, .ref (gS γ 8 0)), (1, .int x1), (3, .int x3)] → W p l e (rmo 3 0 0) s m ([.ref (gS γ 8 0), .int a1] : List Value).toArray below meth c H locs cells slots (MQ below (QI γ ad σ' r) ([.ref (gS γ 8 0), .int a1] : List Value).toArray s 0 0 (gA γ)) (F0 m 61 ls [.int (b2i y1), .int y0]) := by
        intro x3 y0 y1 cells slots hc1 hc2 H locs ls hw hR hl
        unfold f8_handles_j61 at hw
        refine lv_iadd (x := y0) (y := (b2i y1)) hX.1.1 hX.1.2.1 dX7_handles_61 ?_
        refine rw_istore_n (lv' := [(2, .int (y0 + (b2i y1))), (0, .ref (gS γ 8 0)), (1, .int x1), (3, .int x3)]) hX hl (by decide) rfl dX7_handles_62 rfl (fun ls hl1 => ?_)
        replace hl := hl1
        clear hl1
        refine rw_iinc (k := 3) (v := (x3 + 1)) (lv' := [(3, .int (x3 + 1)), (2, .int (y0 + (b2i y1))), (0, .ref (gS γ 8 0)), (1, .int x1)]) hX hl rfl (congrArg (fun q => x3 + q) (show Int32.ofInt 1 = 1 by decide)) (by decide) rfl dX7_handles_63 (fun ls hl1 => ?_)
        replace hl := hl1
        clear hl1
        refine lv_goto (tgt := 21) hX.1.1 hX.1.2.1 dX7_handles_66 (by decide) ?_
        exact ih21 _ _ _ (by omega) (by omega) _ _ _ (lp_back hw hb21) hR (lh_sub hl [2, 3, 1, 0] rfl)
      refine rw_iload_n hX hl 3 rfl dX7_handles_21 rfl ?_
      refine rw_aload_n hX hl 0 rfl (Or.inr ⟨_, rfl⟩) dX7_handles_22 rfl ?_
      refine rw_get hX hR 8 30 0 (C := RX7) (T := TX7) (N := 48) rfl (by decide) (Nat.le_of_ble_eq_true rfl) rfl (v := .int (gi σ 830 0)) rfl uw_X7 gw_958 rfl dX7_handles_23 ?_
      refine lv_icmp_ge (x := x3) (y := (gi σ 830 0)) (tgt := 69) hX.1.1 hX.1.2.1 dX7_handles_26 (by decide) (fun c5 => ?_) (fun c5 => ?_)
      · replace hw := if_t hw c5
        replace hw := lp_out hw ho21
        exact J69 x2 σ _ _ (by omega) (by omega) _ _ _ hw hR (lh_sub hl [2] rfl)
      · replace hw := if_f hw c5
        refine rw_aload_n hX hl 0 rfl (Or.inr ⟨_, rfl⟩) dX7_handles_29 rfl ?_
        refine rw_get hX hR 8 0 0 (C := RX7) (T := TX7) (N := 48) rfl (by decide) (Nat.le_of_ble_eq_true rfl) rfl (v := .int (gi σ 800 0)) rfl uw_X7 gw_928 rfl dX7_handles_30 ?_
        refine lv_if_ne (x := (gi σ 800 0)) (tgt := 69) hX.1.1 hX.1.2.1 dX7_handles_33 (by decide) (fun c6 => ?_) (fun c6 => ?_)
        · replace hw := if_f hw c6
          replace hw := lp_out hw ho21
          exact J69 x2 σ _ _ (by omega) (by omega) _ _ _ hw hR (lh_sub hl [2] rfl)
        · replace hw := if_t hw c6
          refine rw_iload_n hX hl 2 rfl dX7_handles_36 rfl ?_
          refine rw_aload_n hX hl 0 rfl (Or.inr ⟨_, rfl⟩) dX7_handles_37 rfl ?_
          refine rw_get hX hR 8 31 0 (C := RX7) (T := TX7) (N := 48) rfl (by decide) (Nat.le_of_ble_eq_true rfl) rfl (v := .ref (gS γ 1831 0)) rfl uw_X7 gw_959 rfl dX7_handles_38 ?_
          refine rw_iload_n hX hl 3 rfl dX7_handles_41 rfl ?_
          obtain ⟨h8, hw1⟩ := ar_some hw
          replace hw := hw1
          clear hw1
          obtain ⟨j7, ej7⟩ : ∃ j, (x3 : Int32).toNatClampNeg = j := ⟨_, rfl⟩
          rw [ej7] at hw
          refine rw_iald hX hR 831 (n := 40) (i := x3) (v := (gi σ 831 j7)) rfl (by decide) rfl rfl h8 (by rw [ej7]) dX7_handles_42 ?_
          refine rw_iload_n hX hl 1 rfl dX7_handles_43 rfl ?_
          refine lv_icmp_ne (x := (gi σ 831 j7)) (y := x1) (tgt := 60) hX.1.1 hX.1.2.1 dX7_handles_44 (by decide) (fun c9 => ?_) (fun c9 => ?_)
          · replace hw := if_f hw c9
            refine lv_iconst (v := 0) hX.1.1 hX.1.2.1 dX7_handles_60 (by decide) ?_
            exact J61 x3 x2 false _ _ (by omega) (by omega) _ _ _ hw hR (lh_sub hl [0, 1, 3] rfl)
          · replace hw := if_t hw c9
            refine rw_aload_n hX hl 0 rfl (Or.inr ⟨_, rfl⟩) dX7_handles_47 rfl ?_
            refine rw_get hX hR 8 33 0 (C := RX7) (T := TX7) (N := 48) rfl (by decide) (Nat.le_of_ble_eq_true rfl) rfl (v := .ref (gS γ 1833 0)) rfl uw_X7 gw_961 rfl dX7_handles_48 ?_
            refine rw_iload_n hX hl 3 rfl dX7_handles_51 rfl ?_
            obtain ⟨h11, hw1⟩ := ar_some hw
            replace hw := hw1
            clear hw1
            obtain ⟨j10, ej10⟩ : ∃ j, (x3 : Int32).toNatClampNeg = j := ⟨_, rfl⟩
            rw [ej10] at hw
            refine rw_zald hX hR 833 (n := 40) (i := x3) (v := (gb σ 833 j10)) rfl (by decide) rfl rfl h11 (by rw [ej10]) dX7_handles_52 ?_
            refine rw_ifneZ (b := (gb σ 833 j10)) (tgt := 60) hX dX7_handles_53 (by decide) (fun c12 => ?_) (fun c12 => ?_)
            · replace hw := if_t hw c12
              refine lv_iconst (v := 0) hX.1.1 hX.1.2.1 dX7_handles_60 (by decide) ?_
              exact J61 x3 x2 false _ _ (by omega) (by omega) _ _ _ hw hR (lh_sub hl [0, 1, 3] rfl)
            · replace hw := if_f hw c12
              refine lv_iconst (v := 1) hX.1.1 hX.1.2.1 dX7_handles_56 (by decide) ?_
              refine lv_goto (tgt := 61) hX.1.1 hX.1.2.1 dX7_handles_57 (by decide) ?_
              exact J61 x3 x2 true _ _ (by omega) (by omega) _ _ _ hw hR (lh_sub hl [0, 1, 3] rfl)
  have J14 : ∀ (x1 : Int32) (y1 : Bool) (σ : St) (cells slots : Nat), cells ≤ 0 → slots ≤ 0 → ∀ (H : Heap) (locs : List Loc) (ls : Array Slot), f8_handles_j14 fu x1 y1 σ = some (r, σ') → RS γ ad σ s H locs → lh ls 4 [(0, .ref (gS γ 8 0)), (1, .int x1)] → W p l e (rmo 3 0 0) s m ([.ref (gS γ 8 0), .int a1] : List Value).toArray below meth c H locs cells slots (MQ below (QI γ ad σ' r) ([.ref (gS γ 8 0), .int a1] : List Value).toArray s 0 0 (gA γ)) (F0 m 14 ls [.int (b2i y1), .ref (gS γ 8 0)]) := by
    intro x1 y1 σ cells slots hc1 hc2 H locs ls hw hR hl
    unfold f8_handles_j14 at hw
    refine rw_puti (x := (b2i y1)) hX hR 8 0 0 800 (C := RX7) (T := TX7) (N := 48) rfl (by decide) rfl rfl (Nat.le_of_ble_eq_true rfl) rfl uw_X7 tyX7 tyX7_ok nmX7 gw_928 rfl rfl (by decide) dX7_handles_14 (fun σ1 H locs e1 hR1 => ?_)
    replace hR := hR1
    clear hR1
    subst e1
    refine lv_iconst (v := 0) hX.1.1 hX.1.2.1 dX7_handles_17 (by decide) ?_
    refine rw_istore_n (lv' := [(2, .int 0), (0, .ref (gS γ 8 0)), (1, .int x1)]) hX hl (by decide) rfl dX7_handles_18 rfl (fun ls hl1 => ?_)
    replace hl := hl1
    clear hl1
    refine lv_iconst (v := 0) hX.1.1 hX.1.2.1 dX7_handles_19 (by decide) ?_
    refine rw_istore_n (lv' := [(3, .int 0), (2, .int 0), (0, .ref (gS γ 8 0)), (1, .int x1)]) hX hl (by decide) rfl dX7_handles_20 rfl (fun ls hl1 => ?_)
    replace hl := hl1
    clear hl1
    exact L21 x1 (zi σ 800 0 (b2i y1)) _ _ _ _ (by omega) (by omega) _ _ _ hw hR (lh_sub hl [2, 3, 1, 0] rfl)
  refine rw_entry (ca1 rfl (ca1 rfl ca0)) (Nat.le_of_ble_eq_true rfl) (fun ls hl1 => ?_)
  replace hl := hl1
  clear hl1
  refine rw_aload_n hX hl 0 rfl (Or.inr ⟨_, rfl⟩) dX7_handles_0 rfl ?_
  refine rw_aload_n hX hl 0 rfl (Or.inr ⟨_, rfl⟩) dX7_handles_1 rfl ?_
  refine rw_iload_n hX hl 1 rfl dX7_handles_2 rfl ?_
  obtain ⟨v1, g3, hw1⟩ := ob1_some hw
  replace hw := hw1
  clear hw1
  refine rw_cVi hX hR pk_f8_isDevice (mc := 0) (ms := 0) ⟨rfl, rfl, (show 2 + 1 ≤ 3 by omega), (show 8 + (2 + 11) + 64 * 2 ≤ 64 * 3 by omega)⟩ (As := [.int a1]) (rest := [.ref (gS γ 8 0)]) rfl (C_f8_isDevice l γ ad a1 σ v1 g3) gw_1089 gw_1091 gs_53 (rs_recv hX hR 8 0 (C := RX7) (T := TX7) (N := 48) rfl (by decide) (Nat.le_of_ble_eq_true rfl) rfl) rfl hl.1 (ca1 rfl ca0) (Nat.le_of_ble_eq_true rfl) dX7_handles_3 ⟨(show 0 + 0 ≤ 0 by omega), (show 0 + 0 ≤ 0 by omega)⟩ (fun H locs hR1 => ?_)
  replace hR := hR1
  clear hR1
  refine rw_ifeqZ (b := v1) (tgt := 13) hX dX7_handles_6 (by decide) (fun c4 => ?_) (fun c4 => ?_)
  · replace hw := if_f hw c4
    refine lv_iconst (v := 1) hX.1.1 hX.1.2.1 dX7_handles_13 (by decide) ?_
    exact J14 a1 true σ _ _ (by omega) (by omega) _ _ _ hw hR (lh_sub hl [0, 1] rfl)
  · replace hw := if_t hw c4
    refine lv_iconst (v := 0) hX.1.1 hX.1.2.1 dX7_handles_9 (by decide) ?_
    refine lv_goto (tgt := 14) hX.1.1 hX.1.2.1 dX7_handles_10 (by decide) ?_
    exact J14 a1 false σ _ _ (by omega) (by omega) _ _ _ hw hR (lh_sub hl [0, 1] rfl)
set_option maxHeartbeats 8000000 in
set_option maxRecDepth 100000 in
theorem C_f8_callState (l : Launch) (γ : GT) (ad : Nat → Nat → Nat) {fu : Nat} (a1 : Int32) (σ : St) (r : Int32) (σ' : St) (hw : f8_callState fu a1 σ = some (r, σ')) : Met l yX7_callState (Cond.code yX7_callState cX7_callState 2 (Option.some Jvm.ClassFile.FieldType.int) :: GW) (rmo 2 0 0) (va_Pc [.ref (gS γ 8 0), .int a1] (RU γ ad σ)) (QI γ ad σ' r) 0 0 (gA γ) := by
  refine Met.ofW (cc := cX7_callState) (maxL := 2) (ret := (Option.some Jvm.ClassFile.FieldType.int)) (by decide +kernel) rfl ?_
  intro p e s m args below meth c s₁ B hml hv
  obtain ⟨rfl, hU⟩ := hv
  obtain ⟨hX, hR⟩ := cx_of (own := RX7) B hml rfl hU
  have hr := B.returns
  have hlocks := B.notSynchronized
  have hc0 : (0 : Nat) ≤ 0 := Nat.le_refl 0
  show W p l e (rmo 2 0 0) s m ([.ref (gS γ 8 0), .int a1] : List Value).toArray below meth c s.heap [] 0 0 (MQ below (QI γ ad σ' r) ([.ref (gS γ 8 0), .int a1] : List Value).toArray s 0 0 (gA γ)) (entryFrame m ([.ref (gS γ 8 0), .int a1] : List Value).toArray 2)
  unfold f8_callState at hw
  have J20 : ∀ (x1 : Int32) (y1 : Bool) (σ : St) (cells slots : Nat), cells ≤ 0 → slots ≤ 0 → ∀ (H : Heap) (locs : List Loc) (ls : Array Slot), f8_callState_j20 fu x1 y1 σ = some (r, σ') → RS γ ad σ s H locs → lh ls 2 [(0, .ref (gS γ 8 0)), (1, .int x1)] → W p l e (rmo 2 0 0) s m ([.ref (gS γ 8 0), .int a1] : List Value).toArray below meth c H locs cells slots (MQ below (QI γ ad σ' r) ([.ref (gS γ 8 0), .int a1] : List Value).toArray s 0 0 (gA γ)) (F0 m 20 ls [.int (b2i y1), .ref (gS γ 8 0)]) := by
    intro x1 y1 σ cells slots hc1 hc2 H locs ls hw hR hl
    unfold f8_callState_j20 at hw
    refine rw_puti (x := (b2i y1)) hX hR 8 0 0 800 (C := RX7) (T := TX7) (N := 48) rfl (by decide) rfl rfl (Nat.le_of_ble_eq_true rfl) rfl uw_X7 tyX7 tyX7_ok nmX7 gw_928 rfl rfl (by decide) dX7_callState_20 (fun σ1 H locs e1 hR1 => ?_)
    replace hR := hR1
    clear hR1
    subst e1
    refine rw_aload_n hX hl 0 rfl (Or.inr ⟨_, rfl⟩) dX7_callState_23 rfl ?_
    refine rw_get hX hR 8 0 0 (C := RX7) (T := TX7) (N := 48) rfl (by decide) (Nat.le_of_ble_eq_true rfl) rfl (v := .int (gi (zi σ 800 0 (b2i y1)) 800 0)) rfl uw_X7 gw_928 rfl dX7_callState_24 ?_
    refine lv_if_eq (x := (gi (zi σ 800 0 (b2i y1)) 800 0)) (tgt := 34) hX.1.1 hX.1.2.1 dX7_callState_27 (by decide) (fun c5 => ?_) (fun c5 => ?_)
    · replace hw := if_t hw c5
      refine rw_aload_n hX hl 0 rfl (Or.inr ⟨_, rfl⟩) dX7_callState_34 rfl ?_
      refine rw_get hX hR 8 37 0 (C := RX7) (T := TX7) (N := 48) rfl (by decide) (Nat.le_of_ble_eq_true rfl) rfl (v := .ref (gS γ 1837 0)) rfl uw_X7 gw_965 rfl dX7_callState_35 ?_
      refine rw_iload_n hX hl 1 rfl dX7_callState_38 rfl ?_
      obtain ⟨h7, hw1⟩ := ar_some hw
      replace hw := hw1
      clear hw1
      obtain ⟨j6, ej6⟩ : ∃ j, (x1 : Int32).toNatClampNeg = j := ⟨_, rfl⟩
      rw [ej6] at hw
      refine rw_iald hX hR 837 (n := 100) (i := x1) (v := (gi (zi σ 800 0 (b2i y1)) 837 j6)) rfl (by decide) rfl rfl h7 (by rw [ej6]) dX7_callState_39 ?_
      refine W.widen (k := 0) (n := 0) (by omega) (by omega) ?_
      exact rq_ie hX hR hr hw dX7_callState_40 hlocks
    · replace hw := if_f hw c5
      refine lv_iconst (v := 0) hX.1.1 hX.1.2.1 dX7_callState_30 (by decide) ?_
      refine lv_goto (tgt := 40) hX.1.1 hX.1.2.1 dX7_callState_31 (by decide) ?_
      refine W.widen (k := 0) (n := 0) (by omega) (by omega) ?_
      exact rq_ie hX hR hr hw dX7_callState_40 hlocks
  refine rw_entry (ca1 rfl (ca1 rfl ca0)) (Nat.le_of_ble_eq_true rfl) (fun ls hl1 => ?_)
  replace hl := hl1
  clear hl1
  refine rw_aload_n hX hl 0 rfl (Or.inr ⟨_, rfl⟩) dX7_callState_0 rfl ?_
  refine rw_iload_n hX hl 1 rfl dX7_callState_1 rfl ?_
  refine lv_iconst (v := 0) hX.1.1 hX.1.2.1 dX7_callState_2 (by decide) ?_
  refine rw_aload_n hX hl 0 rfl (Or.inr ⟨_, rfl⟩) dX7_callState_3 rfl ?_
  refine rw_get hX hR 8 34 0 (C := RX7) (T := TX7) (N := 48) rfl (by decide) (Nat.le_of_ble_eq_true rfl) rfl (v := .int (gi σ 834 0)) rfl uw_X7 gw_962 rfl dX7_callState_4 ?_
  refine lv_iconst (v := 1) hX.1.1 hX.1.2.1 dX7_callState_7 (by decide) ?_
  refine lv_isub (x := (gi σ 834 0)) (y := 1) hX.1.1 hX.1.2.1 dX7_callState_8 ?_
  obtain ⟨v1, g3, hw1⟩ := ob1_some hw
  replace hw := hw1
  clear hw1
  refine rw_cSi hX hR pk_f8_in (mc := 0) (ms := 0) ⟨rfl, rfl, (show 1 + 1 ≤ 2 by omega), (show 8 + (3 + 11) + 64 * 1 ≤ 64 * 2 by omega)⟩ (As := [.int a1, .int 0, .int ((gi σ 834 0) - 1)]) (rest := [.ref (gS γ 8 0)]) rfl (C_f8_in l γ ad a1 0 ((gi σ 834 0) - 1) σ v1 g3) gw_1082 gw_1083 rfl hl.1 (ca1 rfl ca0) (Nat.le_of_ble_eq_true rfl) dX7_callState_9 ⟨(show 0 + 0 ≤ 0 by omega), (show 0 + 0 ≤ 0 by omega)⟩ (fun H locs hR1 => ?_)
  replace hR := hR1
  clear hR1
  refine rw_ifeqZ (b := v1) (tgt := 19) hX dX7_callState_12 (by decide) (fun c4 => ?_) (fun c4 => ?_)
  · replace hw := if_f hw c4
    refine lv_iconst (v := 1) hX.1.1 hX.1.2.1 dX7_callState_19 (by decide) ?_
    exact J20 a1 true σ _ _ (by omega) (by omega) _ _ _ hw hR (lh_sub hl [0, 1] rfl)
  · replace hw := if_t hw c4
    refine lv_iconst (v := 0) hX.1.1 hX.1.2.1 dX7_callState_15 (by decide) ?_
    refine lv_goto (tgt := 20) hX.1.1 hX.1.2.1 dX7_callState_16 (by decide) ?_
    exact J20 a1 false σ _ _ (by omega) (by omega) _ _ _ hw hR (lh_sub hl [0, 1] rfl)
set_option maxHeartbeats 8000000 in
set_option maxRecDepth 100000 in
theorem C_f8_faults (l : Launch) (γ : GT) (ad : Nat → Nat → Nat) {fu : Nat} (σ : St) (r : Int32) (hw : f8_faults fu σ = some r) : Met l yX7_faults (Cond.code yX7_faults cX7_faults 1 (Option.some Jvm.ClassFile.FieldType.int) :: GW) (rmo 1 0 0) (va_Pc [.ref (gS γ 8 0)] (RU γ ad σ)) (QI γ ad σ r) 0 0 (gA γ) := by
  refine Met.ofW (cc := cX7_faults) (maxL := 1) (ret := (Option.some Jvm.ClassFile.FieldType.int)) (by decide +kernel) rfl ?_
  intro p e s m args below meth c s₁ B hml hv
  obtain ⟨rfl, hU⟩ := hv
  obtain ⟨hX, hR⟩ := cx_of (own := RX7) B hml rfl hU
  have hr := B.returns
  have hlocks := B.notSynchronized
  have hc0 : (0 : Nat) ≤ 0 := Nat.le_refl 0
  show W p l e (rmo 1 0 0) s m ([.ref (gS γ 8 0)] : List Value).toArray below meth c s.heap [] 0 0 (MQ below (QI γ ad σ r) ([.ref (gS γ 8 0)] : List Value).toArray s 0 0 (gA γ)) (entryFrame m ([.ref (gS γ 8 0)] : List Value).toArray 1)
  unfold f8_faults at hw
  refine rw_entry (ca1 rfl ca0) (Nat.le_of_ble_eq_true rfl) (fun ls hl1 => ?_)
  replace hl := hl1
  clear hl1
  refine rw_aload_n hX hl 0 rfl (Or.inr ⟨_, rfl⟩) dX7_faults_0 rfl ?_
  refine rw_get hX hR 8 41 0 (C := RX7) (T := TX7) (N := 48) rfl (by decide) (Nat.le_of_ble_eq_true rfl) rfl (v := .int (gi σ 841 0)) rfl uw_X7 gw_969 rfl dX7_faults_1 ?_
  exact rq_i hX hR hr hw dX7_faults_4 hlocks
set_option maxHeartbeats 8000000 in
set_option maxRecDepth 100000 in
theorem C_f8_given (l : Launch) (γ : GT) (ad : Nat → Nat → Nat) {fu : Nat} (a1 : Int32) (σ : St) (r : Int32) (σ' : St) (hw : f8_given fu a1 σ = some (r, σ')) : Met l yX7_given (Cond.code yX7_given cX7_given 5 (Option.some Jvm.ClassFile.FieldType.int) :: GW) (rmo 2 0 0) (va_Pc [.ref (gS γ 8 0), .int a1] (RU γ ad σ)) (QI γ ad σ' r) 0 0 (gA γ) := by
  refine Met.ofW (cc := cX7_given) (maxL := 5) (ret := (Option.some Jvm.ClassFile.FieldType.int)) (by decide +kernel) rfl ?_
  intro p e s m args below meth c s₁ B hml hv
  obtain ⟨rfl, hU⟩ := hv
  obtain ⟨hX, hR⟩ := cx_of (own := RX7) B hml rfl hU
  have hr := B.returns
  have hlocks := B.notSynchronized
  have hc0 : (0 : Nat) ≤ 0 := Nat.le_refl 0
  show W p l e (rmo 2 0 0) s m ([.ref (gS γ 8 0), .int a1] : List Value).toArray below meth c s.heap [] 0 0 (MQ below (QI γ ad σ' r) ([.ref (gS γ 8 0), .int a1] : List Value).toArray s 0 0 (gA γ)) (entryFrame m ([.ref (gS γ 8 0), .int a1] : List Value).toArray 5)
  unfold f8_given at hw
  have L125 : ∀ (x1 : Int32) (x3 : Int32) (σ : St) (n : Nat) (s9 : (Int32 × Int32)) (cells slots : Nat), cells ≤ 0 → slots ≤ 0 → ∀ (H : Heap) (locs : List Loc) (ls : Array Slot), lp (fun s8 => f8_given_b125 fu x1 x3 s8.1 s8.2 σ) n s9 = some (r, σ') → RS γ ad σ s H locs → lh ls 5 [(0, .ref (gS γ 8 0)), (1, .int x1), (2, .int s9.1), (3, .int x3), (4, .int s9.2)] → W p l e (rmo 2 0 0) s m ([.ref (gS γ 8 0), .int a1] : List Value).toArray below meth c H locs cells slots (MQ below (QI γ ad σ' r) ([.ref (gS γ 8 0), .int a1] : List Value).toArray s 0 0 (gA γ)) (F0 m 125 ls []) := by
    intro x1 x3 σ n125
    induction n125 with
    | zero => intro s9 cells slots hc1 hc2 H locs ls hw hR hl; exact (lp_zero hw).elim
    | succ n125 ih125 =>
      intro s9 cells slots hc1 hc2 H locs ls hw hR hl
      obtain ⟨o125, hw1, hb125, ho125⟩ := lp_succ hw
      replace hw := hw1
      clear hw1
      obtain ⟨x2, x4⟩ := s9
      replace hw : f8_given_b125 fu x1 x3 x2 x4 σ = some o125 := hw
      replace hl : lh ls 5 [(0, .ref (gS γ 8 0)), (1, .int x1), (2, .int x2), (3, .int x3), (4, .int x4)] := hl
      unfold f8_given_b125 at hw
      have J172 : ∀ (x4 : Int32) (y0 : Int32) (y1 : Int32) (cells slots : Nat), cells ≤ 0 → slots ≤ 0 → ∀ (H : Heap) (locs : List Loc) (ls : Array Slot), f8_given_j172 fu x1 x3 x4 y0 y1 σ = some o125 → RS γ ad σ s H locs → lh ls 5 [(0, .ref (gS γ 8 0)), (1, .int x1), (3, .int x3), (4, .int x4)] → W p l e (rmo 2 0 0) s m ([.ref (gS γ 8 0), .int a1] : List Value).toArray below meth c H locs cells slots (MQ below (QI γ ad σ' r) ([.ref (gS γ 8 0), .int a1] : List Value).toArray s 0 0 (gA γ)) (F0 m 172 ls [.int y1, .int y0]) := by
        intro x4 y0 y1 cells slots hc1 hc2 H locs ls hw hR hl
        unfold f8_given_j172 at hw
        refine lv_iadd (x := y0) (y := y1) hX.1.1 hX.1.2.1 dX7_given_172 ?_
        refine rw_istore_n (lv' := [(2, .int (y0 + y1)), (0, .ref (gS γ 8 0)), (1, .int x1), (3, .int x3), (4, .int x4)]) hX hl (by decide) rfl dX7_given_173 rfl (fun ls hl1 => ?_)
        replace hl := hl1
        clear hl1
        refine rw_iinc (k := 4) (v := (x4 + 1)) (lv' := [(4, .int (x4 + 1)), (2, .int (y0 + y1)), (0, .ref (gS γ 8 0)), (1, .int x1), (3, .int x3)]) hX hl rfl (congrArg (fun q => x4 + q) (show Int32.ofInt 1 = 1 by decide)) (by decide) rfl dX7_given_174 (fun ls hl1 => ?_)
        replace hl := hl1
        clear hl1
        refine lv_goto (tgt := 125) hX.1.1 hX.1.2.1 dX7_given_177 (by decide) ?_
        exact ih125 _ _ _ (by omega) (by omega) _ _ _ (lp_back hw hb125) hR (lh_sub hl [2, 3, 1, 4, 0] rfl)
      have J154 : ∀ (x4 : Int32) (y0 : Int32) (y1 : Bool) (cells slots : Nat), cells ≤ 0 → slots ≤ 0 → ∀ (H : Heap) (locs : List Loc) (ls : Array Slot), f8_given_j154 fu x1 x3 x4 y0 y1 σ = some o125 → RS γ ad σ s H locs → lh ls 5 [(0, .ref (gS γ 8 0)), (1, .int x1), (3, .int x3), (4, .int x4)] → W p l e (rmo 2 0 0) s m ([.ref (gS γ 8 0), .int a1] : List Value).toArray below meth c H locs cells slots (MQ below (QI γ ad σ' r) ([.ref (gS γ 8 0), .int a1] : List Value).toArray s 0 0 (gA γ)) (F0 m 154 ls [.int (b2i y1), .int y0]) := by
        intro x4 y0 y1 cells slots hc1 hc2 H locs ls hw hR hl
        unfold f8_given_j154 at hw
        refine lv_iadd (x := y0) (y := (b2i y1)) hX.1.1 hX.1.2.1 dX7_given_154 ?_
        refine rw_istore_n (lv' := [(2, .int (y0 + (b2i y1))), (0, .ref (gS γ 8 0)), (1, .int x1), (3, .int x3), (4, .int x4)]) hX hl (by decide) rfl dX7_given_155 rfl (fun ls hl1 => ?_)
        replace hl := hl1
        clear hl1
        refine rw_iload_n hX hl 0 rfl dX7_given_156 rfl ?_
        refine rw_iload_n hX hl 2 rfl dX7_given_157 rfl ?_
        refine lv_iconst (v := 1) hX.1.1 hX.1.2.1 dX7_given_158 (by decide) ?_
        refine lv_icmp_ne (x := x1) (y := 1) (tgt := 171) hX.1.1 hX.1.2.1 dX7_given_159 (by decide) (fun c9 => ?_) (fun c9 => ?_)
        · replace hw := if_f hw c9
          refine lv_iconst (v := 0) hX.1.1 hX.1.2.1 dX7_given_171 (by decide) ?_
          exact J172 x4 (y0 + (b2i y1)) 0 _ _ (by omega) (by omega) _ _ _ hw hR (lh_sub hl [1, 2, 3, 4] rfl)
        · replace hw := if_t hw c9
          refine rw_iload_n hX hl 3 rfl dX7_given_162 rfl ?_
          refine rw_iload hX hl 4 rfl dX7_given_163 ?_
          refine lv_ishr (x := x3) (y := x4) hX.1.1 hX.1.2.1 dX7_given_165 ?_
          refine lv_iconst (v := 1) hX.1.1 hX.1.2.1 dX7_given_166 (by decide) ?_
          refine lv_iand (x := (x3 >>> (x4 &&& 31))) (y := 1) hX.1.1 hX.1.2.1 dX7_given_167 ?_
          refine lv_goto (tgt := 172) hX.1.1 hX.1.2.1 dX7_given_168 (by decide) ?_
          exact J172 x4 (y0 + (b2i y1)) ((x3 >>> (x4 &&& 31)) &&& 1) _ _ (by omega) (by omega) _ _ _ hw hR (lh_sub hl [1, 2, 3, 4] rfl)
      refine rw_iload hX hl 4 rfl dX7_given_125 ?_
      refine lv_bipush (v := 16) hX.1.1 hX.1.2.1 dX7_given_127 (by decide) ?_
      refine lv_icmp_ge (x := x4) (y := 16) (tgt := 180) hX.1.1 hX.1.2.1 dX7_given_129 (by decide) (fun c7 => ?_) (fun c7 => ?_)
      · replace hw := if_t hw c7
        replace hw := lp_out hw ho125
        refine rw_iload_n hX hl 2 rfl dX7_given_180 rfl ?_
        refine W.widen (k := 0) (n := 0) (by omega) (by omega) ?_
        exact rq_ie hX hR hr hw dX7_given_181 hlocks
      · replace hw := if_f hw c7
        refine rw_iload_n hX hl 2 rfl dX7_given_132 rfl ?_
        refine rw_iload_n hX hl 1 rfl dX7_given_133 rfl ?_
        refine lv_iconst (v := 2) hX.1.1 hX.1.2.1 dX7_given_134 (by decide) ?_
        refine lv_icmp_ne (x := x1) (y := 2) (tgt := 153) hX.1.1 hX.1.2.1 dX7_given_135 (by decide) (fun c8 => ?_) (fun c8 => ?_)
        · replace hw := if_f hw c8
          refine lv_iconst (v := 0) hX.1.1 hX.1.2.1 dX7_given_153 (by decide) ?_
          exact J154 x4 x2 false _ _ (by omega) (by omega) _ _ _ hw hR (lh_sub hl [0, 1, 3, 4] rfl)
        · replace hw := if_t hw c8
          refine rw_aload_n hX hl 0 rfl (Or.inr ⟨_, rfl⟩) dX7_given_138 rfl ?_
          refine rw_get hX hR 8 39 0 (C := RX7) (T := TX7) (N := 48) rfl (by decide) (Nat.le_of_ble_eq_true rfl) rfl (v := .ref (gS γ 1839 0)) rfl uw_X7 gw_967 rfl dX7_given_139 ?_
          refine rw_iload hX hl 4 rfl dX7_given_142 ?_
          obtain ⟨h11, hw1⟩ := ar_some hw
          replace hw := hw1
          clear hw1
          obtain ⟨j10, ej10⟩ : ∃ j, (x4 : Int32).toNatClampNeg = j := ⟨_, rfl⟩
          rw [ej10] at hw
          refine rw_iald hX hR 839 (n := 16) (i := x4) (v := (gi σ 839 j10)) rfl (by decide) rfl rfl h11 (by rw [ej10]) dX7_given_144 ?_
          refine lv_iconst (v := (-1)) hX.1.1 hX.1.2.1 dX7_given_145 (by decide) ?_
          refine lv_icmp_eq (x := (gi σ 839 j10)) (y := (-1)) (tgt := 153) hX.1.1 hX.1.2.1 dX7_given_146 (by decide) (fun c12 => ?_) (fun c12 => ?_)
          · replace hw := if_t hw c12
            refine lv_iconst (v := 0) hX.1.1 hX.1.2.1 dX7_given_153 (by decide) ?_
            exact J154 x4 x2 false _ _ (by omega) (by omega) _ _ _ hw hR (lh_sub hl [0, 1, 3, 4] rfl)
          · replace hw := if_f hw c12
            refine lv_iconst (v := 1) hX.1.1 hX.1.2.1 dX7_given_149 (by decide) ?_
            refine lv_goto (tgt := 154) hX.1.1 hX.1.2.1 dX7_given_150 (by decide) ?_
            exact J154 x4 x2 true _ _ (by omega) (by omega) _ _ _ hw hR (lh_sub hl [0, 1, 3, 4] rfl)
  have L34 : ∀ (x1 : Int32) (σ : St) (n : Nat) (s9 : (Int32 × Int32 × Int32)) (cells slots : Nat), cells ≤ 0 → slots ≤ 0 → ∀ (H : Heap) (locs : List Loc) (ls : Array Slot), lp (fun s8 => f8_given_b34 fu x1 s8.1 s8.2.1 s8.2.2 σ) n s9 = some (r, σ') → RS γ ad σ s H locs → lh ls 5 [(0, .ref (gS γ 8 0)), (1, .int x1), (2, .int s9.1), (3, .int s9.2.1), (4, .int s9.2.2)] → W p l e (rmo 2 0 0) s m ([.ref (gS γ 8 0), .int a1] : List Value).toArray below meth c H locs cells slots (MQ below (QI γ ad σ' r) ([.ref (gS γ 8 0), .int a1] : List Value).toArray s 0 0 (gA γ)) (F0 m 34 ls []) := by
    intro x1 σ n34
    induction n34 with
    | zero => intro s9 cells slots hc1 hc2 H locs ls hw hR hl; exact (lp_zero hw).elim
    | succ n34 ih34 =>
      intro s9 cells slots hc1 hc2 H locs ls hw hR hl
      obtain ⟨o34, hw1, hb34, ho34⟩ := lp_succ hw
      replace hw := hw1
      clear hw1
      obtain ⟨x2, x3, x4⟩ := s9
      replace hw : f8_given_b34 fu x1 x2 x3 x4 σ = some o34 := hw
      replace hl : lh ls 5 [(0, .ref (gS γ 8 0)), (1, .int x1), (2, .int x2), (3, .int x3), (4, .int x4)] := hl
      unfold f8_given_b34 at hw
      have J116 : ∀ (x2 : Int32) (x3 : Int32) (x4 : Int32) (cells slots : Nat), cells ≤ 0 → slots ≤ 0 → ∀ (H : Heap) (locs : List Loc) (ls : Array Slot), f8_given_j116 fu x1 x2 x3 x4 σ = some o34 → RS γ ad σ s H locs → lh ls 5 [(0, .ref (gS γ 8 0)), (1, .int x1), (2, .int x2), (3, .int x3), (4, .int x4)] → W p l e (rmo 2 0 0) s m ([.ref (gS γ 8 0), .int a1] : List Value).toArray below meth c H locs cells slots (MQ below (QI γ ad σ' r) ([.ref (gS γ 8 0), .int a1] : List Value).toArray s 0 0 (gA γ)) (F0 m 116 ls []) := by
        intro x2 x3 x4 cells slots hc1 hc2 H locs ls hw hR hl
        unfold f8_given_j116 at hw
        refine rw_iinc (k := 4) (v := (x4 + 1)) (lv' := [(4, .int (x4 + 1)), (0, .ref (gS γ 8 0)), (1, .int x1), (2, .int x2), (3, .int x3)]) hX hl rfl (congrArg (fun q => x4 + q) (show Int32.ofInt 1 = 1 by decide)) (by decide) rfl dX7_given_116 (fun ls hl1 => ?_)
        replace hl := hl1
        clear hl1
        refine lv_goto (tgt := 34) hX.1.1 hX.1.2.1 dX7_given_119 (by decide) ?_
        exact ih34 _ _ _ (by omega) (by omega) _ _ _ (lp_back hw hb34) hR (lh_sub hl [1, 2, 3, 4, 0] rfl)
      have J114 : ∀ (x2 : Int32) (x4 : Int32) (y0 : Int32) (y1 : Int32) (cells slots : Nat), cells ≤ 0 → slots ≤ 0 → ∀ (H : Heap) (locs : List Loc) (ls : Array Slot), f8_given_j114 fu x1 x2 x4 y0 y1 σ = some o34 → RS γ ad σ s H locs → lh ls 5 [(0, .ref (gS γ 8 0)), (1, .int x1), (2, .int x2), (4, .int x4)] → W p l e (rmo 2 0 0) s m ([.ref (gS γ 8 0), .int a1] : List Value).toArray below meth c H locs cells slots (MQ below (QI γ ad σ' r) ([.ref (gS γ 8 0), .int a1] : List Value).toArray s 0 0 (gA γ)) (F0 m 114 ls [.int y1, .int y0]) := by
        intro x2 x4 y0 y1 cells slots hc1 hc2 H locs ls hw hR hl
        unfold f8_given_j114 at hw
        refine lv_ior (x := y0) (y := y1) hX.1.1 hX.1.2.1 dX7_given_114 ?_
        refine rw_istore_n (lv' := [(3, .int (y0 ||| y1)), (0, .ref (gS γ 8 0)), (1, .int x1), (2, .int x2), (4, .int x4)]) hX hl (by decide) rfl dX7_given_115 rfl (fun ls hl1 => ?_)
        replace hl := hl1
        clear hl1
        exact J116 x2 (y0 ||| y1) x4 _ _ (by omega) (by omega) _ _ _ hw hR (lh_sub hl [1, 2, 3, 0, 4] rfl)
      have J87 : ∀ (x3 : Int32) (x4 : Int32) (y0 : Int32) (y1 : Int32) (cells slots : Nat), cells ≤ 0 → slots ≤ 0 → ∀ (H : Heap) (locs : List Loc) (ls : Array Slot), f8_given_j87 fu x1 x3 x4 y0 y1 σ = some o34 → RS γ ad σ s H locs → lh ls 5 [(0, .ref (gS γ 8 0)), (1, .int x1), (3, .int x3), (4, .int x4)] → W p l e (rmo 2 0 0) s m ([.ref (gS γ 8 0), .int a1] : List Value).toArray below meth c H locs cells slots (MQ below (QI γ ad σ' r) ([.ref (gS γ 8 0), .int a1] : List Value).toArray s 0 0 (gA γ)) (F0 m 87 ls [.int y1, .int y0]) := by
        intro x3 x4 y0 y1 cells slots hc1 hc2 H locs ls hw hR hl
        unfold f8_given_j87 at hw
        refine lv_iadd (x := y0) (y := y1) hX.1.1 hX.1.2.1 dX7_given_87 ?_
        refine rw_istore_n (lv' := [(2, .int (y0 + y1)), (0, .ref (gS γ 8 0)), (1, .int x1), (3, .int x3), (4, .int x4)]) hX hl (by decide) rfl dX7_given_88 rfl (fun ls hl1 => ?_)
        replace hl := hl1
        clear hl1
        refine rw_iload_n hX hl 3 rfl dX7_given_89 rfl ?_
        refine rw_aload_n hX hl 1 rfl (Or.inr ⟨_, rfl⟩) dX7_given_90 rfl ?_
        refine rw_get hX hR 8 7 0 (C := RX7) (T := TX7) (N := 48) rfl (by decide) (Nat.le_of_ble_eq_true rfl) rfl (v := .ref (gS γ 1807 0)) rfl uw_X7 gw_935 rfl dX7_given_91 ?_
        refine rw_iload hX hl 4 rfl dX7_given_94 ?_
        obtain ⟨h20, hw1⟩ := ar_some hw
        replace hw := hw1
        clear hw1
        obtain ⟨j19, ej19⟩ : ∃ j, (x4 : Int32).toNatClampNeg = j := ⟨_, rfl⟩
        rw [ej19] at hw
        refine rw_iald hX hR 807 (n := 24) (i := x4) (v := (gi σ 807 j19)) rfl (by decide) rfl rfl h20 (by rw [ej19]) dX7_given_96 ?_
        refine lv_iconst (v := (-1)) hX.1.1 hX.1.2.1 dX7_given_97 (by decide) ?_
        refine lv_icmp_ne (x := (gi σ 807 j19)) (y := (-1)) (tgt := 105) hX.1.1 hX.1.2.1 dX7_given_98 (by decide) (fun c21 => ?_) (fun c21 => ?_)
        · replace hw := if_f hw c21
          refine lv_iconst (v := 1) hX.1.1 hX.1.2.1 dX7_given_105 (by decide) ?_
          refine rw_aload_n hX hl 1 rfl (Or.inr ⟨_, rfl⟩) dX7_given_106 rfl ?_
          refine rw_get hX hR 8 7 0 (C := RX7) (T := TX7) (N := 48) rfl (by decide) (Nat.le_of_ble_eq_true rfl) rfl (v := .ref (gS γ 1807 0)) rfl uw_X7 gw_935 rfl dX7_given_107 ?_
          refine rw_iload hX hl 4 rfl dX7_given_110 ?_
          obtain ⟨h23, hw1⟩ := ar_some hw
          replace hw := hw1
          clear hw1
          obtain ⟨j22, ej22⟩ : ∃ j, (x4 : Int32).toNatClampNeg = j := ⟨_, rfl⟩
          rw [ej22] at hw
          refine rw_iald hX hR 807 (n := 24) (i := x4) (v := (gi σ 807 j22)) rfl (by decide) rfl rfl h23 (by rw [ej22]) dX7_given_112 ?_
          refine lv_ishl (x := 1) (y := (gi σ 807 j22)) hX.1.1 hX.1.2.1 dX7_given_113 ?_
          exact J114 (y0 + y1) x4 x3 (1 <<< ((gi σ 807 j22) &&& 31)) _ _ (by omega) (by omega) _ _ _ hw hR (lh_sub hl [1, 2, 0, 4] rfl)
        · replace hw := if_t hw c21
          refine lv_iconst (v := 0) hX.1.1 hX.1.2.1 dX7_given_101 (by decide) ?_
          refine lv_goto (tgt := 114) hX.1.1 hX.1.2.1 dX7_given_102 (by decide) ?_
          exact J114 (y0 + y1) x4 x3 0 _ _ (by omega) (by omega) _ _ _ hw hR (lh_sub hl [1, 2, 0, 4] rfl)
      have J77 : ∀ (x3 : Int32) (x4 : Int32) (y0 : Int32) (cells slots : Nat), cells ≤ 0 → slots ≤ 0 → ∀ (H : Heap) (locs : List Loc) (ls : Array Slot), f8_given_j77 fu x1 x3 x4 y0 σ = some o34 → RS γ ad σ s H locs → lh ls 5 [(0, .ref (gS γ 8 0)), (1, .int x1), (3, .int x3), (4, .int x4)] → W p l e (rmo 2 0 0) s m ([.ref (gS γ 8 0), .int a1] : List Value).toArray below meth c H locs cells slots (MQ below (QI γ ad σ' r) ([.ref (gS γ 8 0), .int a1] : List Value).toArray s 0 0 (gA γ)) (F0 m 77 ls [.int y0]) := by
        intro x3 x4 y0 cells slots hc1 hc2 H locs ls hw hR hl
        unfold f8_given_j77 at hw
        refine rw_iload_n hX hl 1 rfl dX7_given_77 rfl ?_
        refine lv_iconst (v := 3) hX.1.1 hX.1.2.1 dX7_given_78 (by decide) ?_
        refine lv_icmp_ne (x := x1) (y := 3) (tgt := 86) hX.1.1 hX.1.2.1 dX7_given_79 (by decide) (fun c18 => ?_) (fun c18 => ?_)
        · replace hw := if_f hw c18
          refine lv_iconst (v := 0) hX.1.1 hX.1.2.1 dX7_given_86 (by decide) ?_
          exact J87 x3 x4 y0 0 _ _ (by omega) (by omega) _ _ _ hw hR (lh_sub hl [0, 1, 2, 3] rfl)
        · replace hw := if_t hw c18
          refine lv_iconst (v := 1) hX.1.1 hX.1.2.1 dX7_given_82 (by decide) ?_
          refine lv_goto (tgt := 87) hX.1.1 hX.1.2.1 dX7_given_83 (by decide) ?_
          exact J87 x3 x4 y0 1 _ _ (by omega) (by omega) _ _ _ hw hR (lh_sub hl [0, 1, 2, 3] rfl)
      refine rw_iload hX hl 4 rfl dX7_given_34 ?_
      refine rw_aload_n hX hl 0 rfl (Or.inr ⟨_, rfl⟩) dX7_given_36 rfl ?_
      refine rw_get hX hR 8 3 0 (C := RX7) (T := TX7) (N := 48) rfl (by decide) (Nat.le_of_ble_eq_true rfl) rfl (v := .int (gi σ 803 0)) rfl uw_X7 gw_931 rfl dX7_given_37 ?_
      refine lv_icmp_ge (x := x4) (y := (gi σ 803 0)) (tgt := 122) hX.1.1 hX.1.2.1 dX7_given_40 (by decide) (fun c6 => ?_) (fun c6 => ?_)
      · replace hw := if_t hw c6
        replace hw := lp_out hw ho34
        refine lv_iconst (v := 0) hX.1.1 hX.1.2.1 dX7_given_122 (by decide) ?_
        refine rw_istore (lv' := [(4, .int 0), (0, .ref (gS γ 8 0)), (1, .int x1), (2, .int x2), (3, .int x3)]) hX hl (by decide) rfl dX7_given_123 (fun ls hl1 => ?_)
        replace hl := hl1
        clear hl1
        exact L125 x1 x3 σ _ _ _ _ (by omega) (by omega) _ _ _ hw hR (lh_sub hl [1, 2, 3, 4, 0] rfl)
      · replace hw := if_f hw c6
        refine rw_aload_n hX hl 0 rfl (Or.inr ⟨_, rfl⟩) dX7_given_43 rfl ?_
        refine rw_iload hX hl 4 rfl dX7_given_44 ?_
        obtain ⟨v13, g15, hw1⟩ := ob1_some hw
        replace hw := hw1
        clear hw1
        refine rw_cVi hX hR pk_f8_isBound (mc := 0) (ms := 0) ⟨rfl, rfl, (show 1 + 1 ≤ 2 by omega), (show 8 + (2 + 11) + 64 * 1 ≤ 64 * 2 by omega)⟩ (As := [.int x4]) (rest := []) rfl (C_f8_isBound l γ ad x4 σ v13 g15) gw_1097 gw_1099 gs_55 (rs_recv hX hR 8 0 (C := RX7) (T := TX7) (N := 48) rfl (by decide) (Nat.le_of_ble_eq_true rfl) rfl) rfl hl.1 ca0 (Nat.le_of_ble_eq_true rfl) dX7_given_46 ⟨(show cells + 0 ≤ 0 by omega), (show slots + 0 ≤ 0 by omega)⟩ (fun H locs hR1 => ?_)
        replace hR := hR1
        clear hR1
        refine rw_ifeqZ (b := v13) (tgt := 116) hX dX7_given_49 (by decide) (fun c16 => ?_) (fun c16 => ?_)
        · replace hw := if_f hw c16
          exact J116 x2 x3 x4 _ _ (by omega) (by omega) _ _ _ hw hR (lh_sub hl [0, 1, 2, 3, 4] rfl)
        · replace hw := if_t hw c16
          refine rw_iload_n hX hl 2 rfl dX7_given_52 rfl ?_
          refine rw_iload_n hX hl 1 rfl dX7_given_53 rfl ?_
          refine lv_if_ne (x := x1) (tgt := 77) hX.1.1 hX.1.2.1 dX7_given_54 (by decide) (fun c17 => ?_) (fun c17 => ?_)
          · replace hw := if_f hw c17
            exact J77 x3 x4 x2 _ _ (by omega) (by omega) _ _ _ hw hR (lh_sub hl [0, 1, 3, 4] rfl)
          · replace hw := if_t hw c17
            refine rw_aload_n hX hl 0 rfl (Or.inr ⟨_, rfl⟩) dX7_given_57 rfl ?_
            refine rw_iload hX hl 4 rfl dX7_given_58 ?_
            obtain ⟨v24, g26, hw1⟩ := ob1_some hw
            replace hw := hw1
            clear hw1
            refine rw_cVi hX hR pk_f8_spaceOf (mc := 0) (ms := 0) ⟨rfl, rfl, (show 1 + 1 ≤ 2 by omega), (show 8 + (3 + 11) + 64 * 1 ≤ 64 * 2 by omega)⟩ (As := [.int x4]) (rest := [.int x2]) rfl (C_f8_spaceOf l γ ad x4 σ v24 g26) gw_1117 gw_1119 gs_60 (rs_recv hX hR 8 0 (C := RX7) (T := TX7) (N := 48) rfl (by decide) (Nat.le_of_ble_eq_true rfl) rfl) rfl hl.1 (ca1 rfl ca0) (Nat.le_of_ble_eq_true rfl) dX7_given_60 ⟨(show (cells + 0) + 0 ≤ 0 by omega), (show (slots + 0) + 0 ≤ 0 by omega)⟩ (fun H locs hR1 => ?_)
            replace hR := hR1
            clear hR1
            refine lv_iconst (v := (-1)) hX.1.1 hX.1.2.1 dX7_given_63 (by decide) ?_
            refine lv_icmp_ne (x := v24) (y := (-1)) (tgt := 77) hX.1.1 hX.1.2.1 dX7_given_64 (by decide) (fun c27 => ?_) (fun c27 => ?_)
            · replace hw := if_f hw c27
              exact J77 x3 x4 x2 _ _ (by omega) (by omega) _ _ _ hw hR (lh_sub hl [0, 1, 3, 4] rfl)
            · replace hw := if_t hw c27
              refine rw_aload_n hX hl 0 rfl (Or.inr ⟨_, rfl⟩) dX7_given_67 rfl ?_
              refine rw_get hX hR 8 6 0 (C := RX7) (T := TX7) (N := 48) rfl (by decide) (Nat.le_of_ble_eq_true rfl) rfl (v := .ref (gS γ 1806 0)) rfl uw_X7 gw_934 rfl dX7_given_68 ?_
              refine rw_iload hX hl 4 rfl dX7_given_71 ?_
              obtain ⟨h29, hw1⟩ := ar_some hw
              replace hw := hw1
              clear hw1
              obtain ⟨j28, ej28⟩ : ∃ j, (x4 : Int32).toNatClampNeg = j := ⟨_, rfl⟩
              rw [ej28] at hw
              refine rw_iald hX hR 806 (n := 24) (i := x4) (v := (gi σ 806 j28)) rfl (by decide) rfl rfl h29 (by rw [ej28]) dX7_given_73 ?_
              refine lv_goto (tgt := 87) hX.1.1 hX.1.2.1 dX7_given_74 (by decide) ?_
              exact J87 x3 x4 x2 (gi σ 806 j28) _ _ (by omega) (by omega) _ _ _ hw hR (lh_sub hl [0, 1, 3, 4] rfl)
  have J15 : ∀ (x1 : Int32) (y1 : Bool) (σ : St) (cells slots : Nat), cells ≤ 0 → slots ≤ 0 → ∀ (H : Heap) (locs : List Loc) (ls : Array Slot), f8_given_j15 fu x1 y1 σ = some (r, σ') → RS γ ad σ s H locs → lh ls 5 [(0, .ref (gS γ 8 0)), (1, .int x1)] → W p l e (rmo 2 0 0) s m ([.ref (gS γ 8 0), .int a1] : List Value).toArray below meth c H locs cells slots (MQ below (QI γ ad σ' r) ([.ref (gS γ 8 0), .int a1] : List Value).toArray s 0 0 (gA γ)) (F0 m 15 ls [.int (b2i y1), .ref (gS γ 8 0)]) := by
    intro x1 y1 σ cells slots hc1 hc2 H locs ls hw hR hl
    unfold f8_given_j15 at hw
    refine rw_puti (x := (b2i y1)) hX hR 8 0 0 800 (C := RX7) (T := TX7) (N := 48) rfl (by decide) rfl rfl (Nat.le_of_ble_eq_true rfl) rfl uw_X7 tyX7 tyX7_ok nmX7 gw_928 rfl rfl (by decide) dX7_given_15 (fun σ1 H locs e1 hR1 => ?_)
    replace hR := hR1
    clear hR1
    subst e1
    refine rw_aload_n hX hl 0 rfl (Or.inr ⟨_, rfl⟩) dX7_given_18 rfl ?_
    refine rw_get hX hR 8 0 0 (C := RX7) (T := TX7) (N := 48) rfl (by decide) (Nat.le_of_ble_eq_true rfl) rfl (v := .int (gi (zi σ 800 0 (b2i y1)) 800 0)) rfl uw_X7 gw_928 rfl dX7_given_19 ?_
    refine lv_if_eq (x := (gi (zi σ 800 0 (b2i y1)) 800 0)) (tgt := 27) hX.1.1 hX.1.2.1 dX7_given_22 (by decide) (fun c5 => ?_) (fun c5 => ?_)
    · replace hw := if_t hw c5
      refine lv_iconst (v := 0) hX.1.1 hX.1.2.1 dX7_given_27 (by decide) ?_
      refine rw_istore_n (lv' := [(2, .int 0), (0, .ref (gS γ 8 0)), (1, .int x1)]) hX hl (by decide) rfl dX7_given_28 rfl (fun ls hl1 => ?_)
      replace hl := hl1
      clear hl1
      refine lv_iconst (v := 0) hX.1.1 hX.1.2.1 dX7_given_29 (by decide) ?_
      refine rw_istore_n (lv' := [(3, .int 0), (2, .int 0), (0, .ref (gS γ 8 0)), (1, .int x1)]) hX hl (by decide) rfl dX7_given_30 rfl (fun ls hl1 => ?_)
      replace hl := hl1
      clear hl1
      refine lv_iconst (v := 0) hX.1.1 hX.1.2.1 dX7_given_31 (by decide) ?_
      refine rw_istore (lv' := [(4, .int 0), (3, .int 0), (2, .int 0), (0, .ref (gS γ 8 0)), (1, .int x1)]) hX hl (by decide) rfl dX7_given_32 (fun ls hl1 => ?_)
      replace hl := hl1
      clear hl1
      exact L34 x1 (zi σ 800 0 (b2i y1)) _ _ _ _ (by omega) (by omega) _ _ _ hw hR (lh_sub hl [3, 4, 2, 1, 0] rfl)
    · replace hw := if_f hw c5
      refine lv_iconst (v := 0) hX.1.1 hX.1.2.1 dX7_given_25 (by decide) ?_
      refine W.widen (k := 0) (n := 0) (by omega) (by omega) ?_
      exact rq_ie hX hR hr hw dX7_given_26 hlocks
  refine rw_entry (ca1 rfl (ca1 rfl ca0)) (Nat.le_of_ble_eq_true rfl) (fun ls hl1 => ?_)
  replace hl := hl1
  clear hl1
  refine rw_aload_n hX hl 0 rfl (Or.inr ⟨_, rfl⟩) dX7_given_0 rfl ?_
  refine rw_iload_n hX hl 1 rfl dX7_given_1 rfl ?_
  refine lv_iconst (v := 0) hX.1.1 hX.1.2.1 dX7_given_2 (by decide) ?_
  refine lv_iconst (v := 3) hX.1.1 hX.1.2.1 dX7_given_3 (by decide) ?_
  obtain ⟨v1, g3, hw1⟩ := ob1_some hw
  replace hw := hw1
  clear hw1
  refine rw_cSi hX hR pk_f8_in (mc := 0) (ms := 0) ⟨rfl, rfl, (show 1 + 1 ≤ 2 by omega), (show 8 + (3 + 11) + 64 * 1 ≤ 64 * 2 by omega)⟩ (As := [.int a1, .int 0, .int 3]) (rest := [.ref (gS γ 8 0)]) rfl (C_f8_in l γ ad a1 0 3 σ v1 g3) gw_1082 gw_1083 rfl hl.1 (ca1 rfl ca0) (Nat.le_of_ble_eq_true rfl) dX7_given_4 ⟨(show 0 + 0 ≤ 0 by omega), (show 0 + 0 ≤ 0 by omega)⟩ (fun H locs hR1 => ?_)
  replace hR := hR1
  clear hR1
  refine rw_ifeqZ (b := v1) (tgt := 14) hX dX7_given_7 (by decide) (fun c4 => ?_) (fun c4 => ?_)
  · replace hw := if_f hw c4
    refine lv_iconst (v := 1) hX.1.1 hX.1.2.1 dX7_given_14 (by decide) ?_
    exact J15 a1 true σ _ _ (by omega) (by omega) _ _ _ hw hR (lh_sub hl [0, 1] rfl)
  · replace hw := if_t hw c4
    refine lv_iconst (v := 0) hX.1.1 hX.1.2.1 dX7_given_10 (by decide) ?_
    refine lv_goto (tgt := 15) hX.1.1 hX.1.2.1 dX7_given_11 (by decide) ?_
    exact J15 a1 false σ _ _ (by omega) (by omega) _ _ _ hw hR (lh_sub hl [0, 1] rfl)
set_option maxHeartbeats 8000000 in
set_option maxRecDepth 100000 in
theorem C_f8_events (l : Launch) (γ : GT) (ad : Nat → Nat → Nat) {fu : Nat} (σ : St) (r : Int32) (hw : f8_events fu σ = some r) : Met l yX7_events (Cond.code yX7_events cX7_events 1 (Option.some Jvm.ClassFile.FieldType.int) :: GW) (rmo 1 0 0) (va_Pc [.ref (gS γ 8 0)] (RU γ ad σ)) (QI γ ad σ r) 0 0 (gA γ) := by
  refine Met.ofW (cc := cX7_events) (maxL := 1) (ret := (Option.some Jvm.ClassFile.FieldType.int)) (by decide +kernel) rfl ?_
  intro p e s m args below meth c s₁ B hml hv
  obtain ⟨rfl, hU⟩ := hv
  obtain ⟨hX, hR⟩ := cx_of (own := RX7) B hml rfl hU
  have hr := B.returns
  have hlocks := B.notSynchronized
  have hc0 : (0 : Nat) ≤ 0 := Nat.le_refl 0
  show W p l e (rmo 1 0 0) s m ([.ref (gS γ 8 0)] : List Value).toArray below meth c s.heap [] 0 0 (MQ below (QI γ ad σ r) ([.ref (gS γ 8 0)] : List Value).toArray s 0 0 (gA γ)) (entryFrame m ([.ref (gS γ 8 0)] : List Value).toArray 1)
  unfold f8_events at hw
  refine rw_entry (ca1 rfl ca0) (Nat.le_of_ble_eq_true rfl) (fun ls hl1 => ?_)
  replace hl := hl1
  clear hl1
  refine rw_aload_n hX hl 0 rfl (Or.inr ⟨_, rfl⟩) dX7_events_0 rfl ?_
  refine rw_get hX hR 8 42 0 (C := RX7) (T := TX7) (N := 48) rfl (by decide) (Nat.le_of_ble_eq_true rfl) rfl (v := .int (gi σ 842 0)) rfl uw_X7 gw_970 rfl dX7_events_1 ?_
  exact rq_i hX hR hr hw dX7_events_4 hlocks
set_option maxHeartbeats 8000000 in
set_option maxRecDepth 100000 in
theorem C_f8_isKept (l : Launch) (γ : GT) (ad : Nat → Nat → Nat) {fu : Nat} (a1 : Int32) (σ : St) (r : Bool) (hw : f8_isKept fu a1 σ = some r) : Met l yX7_isKept (Cond.code yX7_isKept cX7_isKept 2 (Option.some Jvm.ClassFile.FieldType.boolean) :: GW) (rmo 2 0 0) (va_Pc [.ref (gS γ 8 0), .int a1] (RU γ ad σ)) (QI γ ad σ (b2i r)) 0 0 (gA γ) := by
  refine Met.ofW (cc := cX7_isKept) (maxL := 2) (ret := (Option.some Jvm.ClassFile.FieldType.boolean)) (by decide +kernel) rfl ?_
  intro p e s m args below meth c s₁ B hml hv
  obtain ⟨rfl, hU⟩ := hv
  obtain ⟨hX, hR⟩ := cx_of (own := RX7) B hml rfl hU
  have hr := B.returns
  have hlocks := B.notSynchronized
  have hc0 : (0 : Nat) ≤ 0 := Nat.le_refl 0
  show W p l e (rmo 2 0 0) s m ([.ref (gS γ 8 0), .int a1] : List Value).toArray below meth c s.heap [] 0 0 (MQ below (QI γ ad σ (b2i r)) ([.ref (gS γ 8 0), .int a1] : List Value).toArray s 0 0 (gA γ)) (entryFrame m ([.ref (gS γ 8 0), .int a1] : List Value).toArray 2)
  unfold f8_isKept at hw
  refine rw_entry (ca1 rfl (ca1 rfl ca0)) (Nat.le_of_ble_eq_true rfl) (fun ls hl1 => ?_)
  replace hl := hl1
  clear hl1
  refine rw_iload_n hX hl 1 rfl dX7_isKept_0 rfl ?_
  refine lv_iconst (v := 0) hX.1.1 hX.1.2.1 dX7_isKept_1 (by decide) ?_
  refine rw_aload_n hX hl 0 rfl (Or.inr ⟨_, rfl⟩) dX7_isKept_2 rfl ?_
  refine rw_get hX hR 8 42 0 (C := RX7) (T := TX7) (N := 48) rfl (by decide) (Nat.le_of_ble_eq_true rfl) rfl (v := .int (gi σ 842 0)) rfl uw_X7 gw_970 rfl dX7_isKept_3 ?_
  refine lv_iconst (v := 1) hX.1.1 hX.1.2.1 dX7_isKept_6 (by decide) ?_
  refine lv_isub (x := (gi σ 842 0)) (y := 1) hX.1.1 hX.1.2.1 dX7_isKept_7 ?_
  obtain ⟨v1, g3, hw1⟩ := ob1_some hw
  replace hw := hw1
  clear hw1
  refine rw_cSi hX hR pk_f8_in (mc := 0) (ms := 0) ⟨rfl, rfl, (show 1 + 1 ≤ 2 by omega), (show 8 + (3 + 11) + 64 * 1 ≤ 64 * 2 by omega)⟩ (As := [.int a1, .int 0, .int ((gi σ 842 0) - 1)]) (rest := []) rfl (C_f8_in l γ ad a1 0 ((gi σ 842 0) - 1) σ v1 g3) gw_1082 gw_1083 rfl hl.1 ca0 (Nat.le_of_ble_eq_true rfl) dX7_isKept_8 ⟨(show 0 + 0 ≤ 0 by omega), (show 0 + 0 ≤ 0 by omega)⟩ (fun H locs hR1 => ?_)
  replace hR := hR1
  clear hR1
  refine rw_ifeqZ (b := v1) (tgt := 29) hX dX7_isKept_11 (by decide) (fun c4 => ?_) (fun c4 => ?_)
  · replace hw := if_f hw c4
    refine lv_iconst (v := 0) hX.1.1 hX.1.2.1 dX7_isKept_29 (by decide) ?_
    refine W.widen (k := 0) (n := 0) (by omega) (by omega) ?_
    exact rq_z hX hR hr (v := false) rfl hw dX7_isKept_30 hlocks
  · replace hw := if_t hw c4
    refine rw_iload_n hX hl 1 rfl dX7_isKept_14 rfl ?_
    refine rw_aload_n hX hl 0 rfl (Or.inr ⟨_, rfl⟩) dX7_isKept_15 rfl ?_
    refine rw_get hX hR 8 42 0 (C := RX7) (T := TX7) (N := 48) rfl (by decide) (Nat.le_of_ble_eq_true rfl) rfl (v := .int (gi σ 842 0)) rfl uw_X7 gw_970 rfl dX7_isKept_16 ?_
    refine lv_bipush (v := 20) hX.1.1 hX.1.2.1 dX7_isKept_19 (by decide) ?_
    refine lv_isub (x := (gi σ 842 0)) (y := 20) hX.1.1 hX.1.2.1 dX7_isKept_21 ?_
    refine lv_icmp_lt (x := a1) (y := ((gi σ 842 0) - 20)) (tgt := 29) hX.1.1 hX.1.2.1 dX7_isKept_22 (by decide) (fun c5 => ?_) (fun c5 => ?_)
    · replace hw := if_t hw c5
      refine lv_iconst (v := 0) hX.1.1 hX.1.2.1 dX7_isKept_29 (by decide) ?_
      refine W.widen (k := 0) (n := 0) (by omega) (by omega) ?_
      exact rq_z hX hR hr (v := false) rfl hw dX7_isKept_30 hlocks
    · replace hw := if_f hw c5
      refine lv_iconst (v := 1) hX.1.1 hX.1.2.1 dX7_isKept_25 (by decide) ?_
      refine lv_goto (tgt := 30) hX.1.1 hX.1.2.1 dX7_isKept_26 (by decide) ?_
      refine W.widen (k := 0) (n := 0) (by omega) (by omega) ?_
      exact rq_z hX hR hr (v := true) rfl hw dX7_isKept_30 hlocks
set_option maxHeartbeats 8000000 in
set_option maxRecDepth 100000 in
theorem C_f8_eventKind (l : Launch) (γ : GT) (ad : Nat → Nat → Nat) {fu : Nat} (a1 : Int32) (σ : St) (r : Int32) (σ' : St) (hw : f8_eventKind fu a1 σ = some (r, σ')) : Met l yX7_eventKind (Cond.code yX7_eventKind cX7_eventKind 2 (Option.some Jvm.ClassFile.FieldType.int) :: GW) (rmo 3 0 0) (va_Pc [.ref (gS γ 8 0), .int a1] (RU γ ad σ)) (QI γ ad σ' r) 0 0 (gA γ) := by
  refine Met.ofW (cc := cX7_eventKind) (maxL := 2) (ret := (Option.some Jvm.ClassFile.FieldType.int)) (by decide +kernel) rfl ?_
  intro p e s m args below meth c s₁ B hml hv
  obtain ⟨rfl, hU⟩ := hv
  obtain ⟨hX, hR⟩ := cx_of (own := RX7) B hml rfl hU
  have hr := B.returns
  have hlocks := B.notSynchronized
  have hc0 : (0 : Nat) ≤ 0 := Nat.le_refl 0
  show W p l e (rmo 3 0 0) s m ([.ref (gS γ 8 0), .int a1] : List Value).toArray below meth c s.heap [] 0 0 (MQ below (QI γ ad σ' r) ([.ref (gS γ 8 0), .int a1] : List Value).toArray s 0 0 (gA γ)) (entryFrame m ([.ref (gS γ 8 0), .int a1] : List Value).toArray 2)
  unfold f8_eventKind at hw
  have J14 : ∀ (x1 : Int32) (y1 : Bool) (σ : St) (cells slots : Nat), cells ≤ 0 → slots ≤ 0 → ∀ (H : Heap) (locs : List Loc) (ls : Array Slot), f8_eventKind_j14 fu x1 y1 σ = some (r, σ') → RS γ ad σ s H locs → lh ls 2 [(0, .ref (gS γ 8 0)), (1, .int x1)] → W p l e (rmo 3 0 0) s m ([.ref (gS γ 8 0), .int a1] : List Value).toArray below meth c H locs cells slots (MQ below (QI γ ad σ' r) ([.ref (gS γ 8 0), .int a1] : List Value).toArray s 0 0 (gA γ)) (F0 m 14 ls [.int (b2i y1), .ref (gS γ 8 0)]) := by
    intro x1 y1 σ cells slots hc1 hc2 H locs ls hw hR hl
    unfold f8_eventKind_j14 at hw
    refine rw_puti (x := (b2i y1)) hX hR 8 0 0 800 (C := RX7) (T := TX7) (N := 48) rfl (by decide) rfl rfl (Nat.le_of_ble_eq_true rfl) rfl uw_X7 tyX7 tyX7_ok nmX7 gw_928 rfl rfl (by decide) dX7_eventKind_14 (fun σ1 H locs e1 hR1 => ?_)
    replace hR := hR1
    clear hR1
    subst e1
    refine rw_aload_n hX hl 0 rfl (Or.inr ⟨_, rfl⟩) dX7_eventKind_17 rfl ?_
    refine rw_get hX hR 8 0 0 (C := RX7) (T := TX7) (N := 48) rfl (by decide) (Nat.le_of_ble_eq_true rfl) rfl (v := .int (gi (zi σ 800 0 (b2i y1)) 800 0)) rfl uw_X7 gw_928 rfl dX7_eventKind_18 ?_
    refine lv_if_eq (x := (gi (zi σ 800 0 (b2i y1)) 800 0)) (tgt := 28) hX.1.1 hX.1.2.1 dX7_eventKind_21 (by decide) (fun c5 => ?_) (fun c5 => ?_)
    · replace hw := if_t hw c5
      refine rw_aload_n hX hl 0 rfl (Or.inr ⟨_, rfl⟩) dX7_eventKind_28 rfl ?_
      refine rw_get hX hR 8 43 0 (C := RX7) (T := TX7) (N := 48) rfl (by decide) (Nat.le_of_ble_eq_true rfl) rfl (v := .ref (gS γ 1843 0)) rfl uw_X7 gw_971 rfl dX7_eventKind_29 ?_
      refine rw_iload_n hX hl 1 rfl dX7_eventKind_32 rfl ?_
      refine lv_bipush (v := 20) hX.1.1 hX.1.2.1 dX7_eventKind_33 (by decide) ?_
      refine lv_irem (x := x1) (y := 20) hX.1.1 hX.1.2.1 dX7_eventKind_35 (by decide) ?_
      obtain ⟨h7, hw1⟩ := ar_some hw
      replace hw := hw1
      clear hw1
      obtain ⟨j6, ej6⟩ : ∃ j, ((x1 - x1 / 20 * 20) : Int32).toNatClampNeg = j := ⟨_, rfl⟩
      rw [ej6] at hw
      refine rw_iald hX hR 843 (n := 20) (i := (x1 - x1 / 20 * 20)) (v := (gi (zi σ 800 0 (b2i y1)) 843 j6)) rfl (by decide) rfl rfl h7 (by rw [ej6]) dX7_eventKind_36 ?_
      refine W.widen (k := 0) (n := 0) (by omega) (by omega) ?_
      exact rq_ie hX hR hr hw dX7_eventKind_37 hlocks
    · replace hw := if_f hw c5
      refine lv_iconst (v := 0) hX.1.1 hX.1.2.1 dX7_eventKind_24 (by decide) ?_
      refine lv_goto (tgt := 37) hX.1.1 hX.1.2.1 dX7_eventKind_25 (by decide) ?_
      refine W.widen (k := 0) (n := 0) (by omega) (by omega) ?_
      exact rq_ie hX hR hr hw dX7_eventKind_37 hlocks
  refine rw_entry (ca1 rfl (ca1 rfl ca0)) (Nat.le_of_ble_eq_true rfl) (fun ls hl1 => ?_)
  replace hl := hl1
  clear hl1
  refine rw_aload_n hX hl 0 rfl (Or.inr ⟨_, rfl⟩) dX7_eventKind_0 rfl ?_
  refine rw_aload_n hX hl 0 rfl (Or.inr ⟨_, rfl⟩) dX7_eventKind_1 rfl ?_
  refine rw_iload_n hX hl 1 rfl dX7_eventKind_2 rfl ?_
  obtain ⟨v1, g3, hw1⟩ := ob1_some hw
  replace hw := hw1
  clear hw1
  refine rw_cVi hX hR pk_f8_isKept (mc := 0) (ms := 0) ⟨rfl, rfl, (show 2 + 1 ≤ 3 by omega), (show 8 + (2 + 11) + 64 * 2 ≤ 64 * 3 by omega)⟩ (As := [.int a1]) (rest := [.ref (gS γ 8 0)]) rfl (C_f8_isKept l γ ad a1 σ v1 g3) gw_1336 gw_1338 gs_82 (rs_recv hX hR 8 0 (C := RX7) (T := TX7) (N := 48) rfl (by decide) (Nat.le_of_ble_eq_true rfl) rfl) rfl hl.1 (ca1 rfl ca0) (Nat.le_of_ble_eq_true rfl) dX7_eventKind_3 ⟨(show 0 + 0 ≤ 0 by omega), (show 0 + 0 ≤ 0 by omega)⟩ (fun H locs hR1 => ?_)
  replace hR := hR1
  clear hR1
  refine rw_ifeqZ (b := v1) (tgt := 13) hX dX7_eventKind_6 (by decide) (fun c4 => ?_) (fun c4 => ?_)
  · replace hw := if_f hw c4
    refine lv_iconst (v := 1) hX.1.1 hX.1.2.1 dX7_eventKind_13 (by decide) ?_
    exact J14 a1 true σ _ _ (by omega) (by omega) _ _ _ hw hR (lh_sub hl [0, 1] rfl)
  · replace hw := if_t hw c4
    refine lv_iconst (v := 0) hX.1.1 hX.1.2.1 dX7_eventKind_9 (by decide) ?_
    refine lv_goto (tgt := 14) hX.1.1 hX.1.2.1 dX7_eventKind_10 (by decide) ?_
    exact J14 a1 false σ _ _ (by omega) (by omega) _ _ _ hw hR (lh_sub hl [0, 1] rfl)
set_option maxHeartbeats 8000000 in
set_option maxRecDepth 100000 in
theorem C_f8_eventOf (l : Launch) (γ : GT) (ad : Nat → Nat → Nat) {fu : Nat} (a1 : Int32) (σ : St) (r : Int32) (σ' : St) (hw : f8_eventOf fu a1 σ = some (r, σ')) : Met l yX7_eventOf (Cond.code yX7_eventOf cX7_eventOf 2 (Option.some Jvm.ClassFile.FieldType.int) :: GW) (rmo 3 0 0) (va_Pc [.ref (gS γ 8 0), .int a1] (RU γ ad σ)) (QI γ ad σ' r) 0 0 (gA γ) := by
  refine Met.ofW (cc := cX7_eventOf) (maxL := 2) (ret := (Option.some Jvm.ClassFile.FieldType.int)) (by decide +kernel) rfl ?_
  intro p e s m args below meth c s₁ B hml hv
  obtain ⟨rfl, hU⟩ := hv
  obtain ⟨hX, hR⟩ := cx_of (own := RX7) B hml rfl hU
  have hr := B.returns
  have hlocks := B.notSynchronized
  have hc0 : (0 : Nat) ≤ 0 := Nat.le_refl 0
  show W p l e (rmo 3 0 0) s m ([.ref (gS γ 8 0), .int a1] : List Value).toArray below meth c s.heap [] 0 0 (MQ below (QI γ ad σ' r) ([.ref (gS γ 8 0), .int a1] : List Value).toArray s 0 0 (gA γ)) (entryFrame m ([.ref (gS γ 8 0), .int a1] : List Value).toArray 2)
  unfold f8_eventOf at hw
  have J14 : ∀ (x1 : Int32) (y1 : Bool) (σ : St) (cells slots : Nat), cells ≤ 0 → slots ≤ 0 → ∀ (H : Heap) (locs : List Loc) (ls : Array Slot), f8_eventOf_j14 fu x1 y1 σ = some (r, σ') → RS γ ad σ s H locs → lh ls 2 [(0, .ref (gS γ 8 0)), (1, .int x1)] → W p l e (rmo 3 0 0) s m ([.ref (gS γ 8 0), .int a1] : List Value).toArray below meth c H locs cells slots (MQ below (QI γ ad σ' r) ([.ref (gS γ 8 0), .int a1] : List Value).toArray s 0 0 (gA γ)) (F0 m 14 ls [.int (b2i y1), .ref (gS γ 8 0)]) := by
    intro x1 y1 σ cells slots hc1 hc2 H locs ls hw hR hl
    unfold f8_eventOf_j14 at hw
    refine rw_puti (x := (b2i y1)) hX hR 8 0 0 800 (C := RX7) (T := TX7) (N := 48) rfl (by decide) rfl rfl (Nat.le_of_ble_eq_true rfl) rfl uw_X7 tyX7 tyX7_ok nmX7 gw_928 rfl rfl (by decide) dX7_eventOf_14 (fun σ1 H locs e1 hR1 => ?_)
    replace hR := hR1
    clear hR1
    subst e1
    refine rw_aload_n hX hl 0 rfl (Or.inr ⟨_, rfl⟩) dX7_eventOf_17 rfl ?_
    refine rw_get hX hR 8 0 0 (C := RX7) (T := TX7) (N := 48) rfl (by decide) (Nat.le_of_ble_eq_true rfl) rfl (v := .int (gi (zi σ 800 0 (b2i y1)) 800 0)) rfl uw_X7 gw_928 rfl dX7_eventOf_18 ?_
    refine lv_if_eq (x := (gi (zi σ 800 0 (b2i y1)) 800 0)) (tgt := 28) hX.1.1 hX.1.2.1 dX7_eventOf_21 (by decide) (fun c5 => ?_) (fun c5 => ?_)
    · replace hw := if_t hw c5
      refine rw_aload_n hX hl 0 rfl (Or.inr ⟨_, rfl⟩) dX7_eventOf_28 rfl ?_
      refine rw_get hX hR 8 44 0 (C := RX7) (T := TX7) (N := 48) rfl (by decide) (Nat.le_of_ble_eq_true rfl) rfl (v := .ref (gS γ 1844 0)) rfl uw_X7 gw_972 rfl dX7_eventOf_29 ?_
      refine rw_iload_n hX hl 1 rfl dX7_eventOf_32 rfl ?_
      refine lv_bipush (v := 20) hX.1.1 hX.1.2.1 dX7_eventOf_33 (by decide) ?_
      refine lv_irem (x := x1) (y := 20) hX.1.1 hX.1.2.1 dX7_eventOf_35 (by decide) ?_
      obtain ⟨h7, hw1⟩ := ar_some hw
      replace hw := hw1
      clear hw1
      obtain ⟨j6, ej6⟩ : ∃ j, ((x1 - x1 / 20 * 20) : Int32).toNatClampNeg = j := ⟨_, rfl⟩
      rw [ej6] at hw
      refine rw_iald hX hR 844 (n := 20) (i := (x1 - x1 / 20 * 20)) (v := (gi (zi σ 800 0 (b2i y1)) 844 j6)) rfl (by decide) rfl rfl h7 (by rw [ej6]) dX7_eventOf_36 ?_
      refine W.widen (k := 0) (n := 0) (by omega) (by omega) ?_
      exact rq_ie hX hR hr hw dX7_eventOf_37 hlocks
    · replace hw := if_f hw c5
      refine lv_iconst (v := 0) hX.1.1 hX.1.2.1 dX7_eventOf_24 (by decide) ?_
      refine lv_goto (tgt := 37) hX.1.1 hX.1.2.1 dX7_eventOf_25 (by decide) ?_
      refine W.widen (k := 0) (n := 0) (by omega) (by omega) ?_
      exact rq_ie hX hR hr hw dX7_eventOf_37 hlocks
  refine rw_entry (ca1 rfl (ca1 rfl ca0)) (Nat.le_of_ble_eq_true rfl) (fun ls hl1 => ?_)
  replace hl := hl1
  clear hl1
  refine rw_aload_n hX hl 0 rfl (Or.inr ⟨_, rfl⟩) dX7_eventOf_0 rfl ?_
  refine rw_aload_n hX hl 0 rfl (Or.inr ⟨_, rfl⟩) dX7_eventOf_1 rfl ?_
  refine rw_iload_n hX hl 1 rfl dX7_eventOf_2 rfl ?_
  obtain ⟨v1, g3, hw1⟩ := ob1_some hw
  replace hw := hw1
  clear hw1
  refine rw_cVi hX hR pk_f8_isKept (mc := 0) (ms := 0) ⟨rfl, rfl, (show 2 + 1 ≤ 3 by omega), (show 8 + (2 + 11) + 64 * 2 ≤ 64 * 3 by omega)⟩ (As := [.int a1]) (rest := [.ref (gS γ 8 0)]) rfl (C_f8_isKept l γ ad a1 σ v1 g3) gw_1336 gw_1338 gs_82 (rs_recv hX hR 8 0 (C := RX7) (T := TX7) (N := 48) rfl (by decide) (Nat.le_of_ble_eq_true rfl) rfl) rfl hl.1 (ca1 rfl ca0) (Nat.le_of_ble_eq_true rfl) dX7_eventOf_3 ⟨(show 0 + 0 ≤ 0 by omega), (show 0 + 0 ≤ 0 by omega)⟩ (fun H locs hR1 => ?_)
  replace hR := hR1
  clear hR1
  refine rw_ifeqZ (b := v1) (tgt := 13) hX dX7_eventOf_6 (by decide) (fun c4 => ?_) (fun c4 => ?_)
  · replace hw := if_f hw c4
    refine lv_iconst (v := 1) hX.1.1 hX.1.2.1 dX7_eventOf_13 (by decide) ?_
    exact J14 a1 true σ _ _ (by omega) (by omega) _ _ _ hw hR (lh_sub hl [0, 1] rfl)
  · replace hw := if_t hw c4
    refine lv_iconst (v := 0) hX.1.1 hX.1.2.1 dX7_eventOf_9 (by decide) ?_
    refine lv_goto (tgt := 14) hX.1.1 hX.1.2.1 dX7_eventOf_10 (by decide) ?_
    exact J14 a1 false σ _ _ (by omega) (by omega) _ _ _ hw hR (lh_sub hl [0, 1] rfl)
