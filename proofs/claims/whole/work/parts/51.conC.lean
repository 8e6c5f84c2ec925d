theorem pk_f7_known : PKV yX6_known cX6_known 2 (Option.some (Jvm.ClassFile.FieldType.object "DriverMoor$Device")) 1 := ⟨gw_1, gw_208, by decide, by decide, by decide +kernel⟩
theorem pk_f7_presentOrNone : PKV yX6_presentOrNone cX6_presentOrNone 3 (Option.some (Jvm.ClassFile.FieldType.object "DriverMoor$Device")) 1 := ⟨gw_1, gw_204, by decide, by decide, by decide +kernel⟩
theorem pk_f7_isWithin : PKV yX6_isWithin cX6_isWithin 3 (Option.some Jvm.ClassFile.FieldType.boolean) 3 := ⟨gw_1, gw_299, by decide, by decide, by decide +kernel⟩
theorem pk_f7_isSize : PKV yX6_isSize cX6_isSize 1 (Option.some Jvm.ClassFile.FieldType.boolean) 1 := ⟨gw_1, gw_302, by decide, by decide, by decide +kernel⟩
theorem pk_f2_init : PKV yX1_init cX1_init 6 (Option.none : Option Jvm.ClassFile.FieldType) 5 := ⟨gw_20, gw_339, by decide, by decide, by decide +kernel⟩
theorem pk_f2_isBound : PKV yX1_isBound cX1_isBound 1 (Option.some Jvm.ClassFile.FieldType.boolean) 0 := ⟨gw_20, gw_419, by decide, by decide, by decide +kernel⟩
theorem pk_f3_knows : PKV yX2_knows cX2_knows 2 (Option.some Jvm.ClassFile.FieldType.boolean) 1 := ⟨gw_21, gw_433, by decide, by decide, by decide +kernel⟩
theorem pk_f7_bestDriver : PKV yX6_bestDriver cX6_bestDriver 5 (Option.some (Jvm.ClassFile.FieldType.object "DriverMoor$Driver")) 1 := ⟨gw_1, gw_427, by decide, by decide, by decide +kernel⟩
theorem pk_f7_isLacking : PKV yX6_isLacking cX6_isLacking 1 (Option.some Jvm.ClassFile.FieldType.boolean) 1 := ⟨gw_1, gw_436, by decide, by decide, by decide +kernel⟩
theorem pk_f2_space : PKV yX1_space cX1_space 2 (Option.some (Jvm.ClassFile.FieldType.object "DriverMoor$Device")) 0 := ⟨gw_20, gw_444, by decide, by decide, by decide +kernel⟩
theorem pk_f7_isRoomAt : PKV yX6_isRoomAt cX6_isRoomAt 7 (Option.some Jvm.ClassFile.FieldType.boolean) 3 := ⟨gw_1, gw_448, by decide, by decide, by decide +kernel⟩
theorem pk_f7_freePlace : PKV yX6_freePlace cX6_freePlace 6 (Option.some Jvm.ClassFile.FieldType.int) 1 := ⟨gw_1, gw_440, by decide, by decide, by decide +kernel⟩
theorem pk_f7_isLineFree : PKV yX6_isLineFree cX6_isLineFree 4 (Option.some Jvm.ClassFile.FieldType.boolean) 1 := ⟨gw_1, gw_452, by decide, by decide, by decide +kernel⟩
theorem pk_f7_refusalOf : PKV yX6_refusalOf cX6_refusalOf 3 (Option.some Jvm.ClassFile.FieldType.int) 1 := ⟨gw_1, gw_423, by decide, by decide, by decide +kernel⟩
theorem pk_f7_lowestNotRefused : PKV yX6_lowestNotRefused cX6_lowestNotRefused 3 (Option.some (Jvm.ClassFile.FieldType.object "DriverMoor$Device")) 0 := ⟨gw_1, gw_415, by decide, by decide, by decide +kernel⟩
theorem pk_f2_isSaved : PKV yX1_isSaved cX1_isSaved 1 (Option.some Jvm.ClassFile.FieldType.boolean) 0 := ⟨gw_20, gw_468, by decide, by decide, by decide +kernel⟩
theorem pk_f90_floorMod : PKV yJ9_floorMod_7cf53 cJ9_floorMod_7cf53 3 (Option.some Jvm.ClassFile.FieldType.int) 2 := ⟨gw_8, gw_475, by decide, by decide, by decide +kernel⟩
theorem pk_f4_note : PKV yX3_note cX3_note 4 (Option.none : Option Jvm.ClassFile.FieldType) 2 := ⟨gw_5, gw_472, by decide, by decide, by decide +kernel⟩
theorem pk_f7_wakeNeeds : PKV yX6_wakeNeeds cX6_wakeNeeds 3 (Option.none : Option Jvm.ClassFile.FieldType) 2 := ⟨gw_1, gw_460, by decide, by decide, by decide +kernel⟩
theorem pk_f7_wake : PKV yX6_wake cX6_wake 3 (Option.none : Option Jvm.ClassFile.FieldType) 2 := ⟨gw_1, gw_464, by decide, by decide, by decide +kernel⟩
theorem pk_f7_attach : PKV yX6_attach cX6_attach 2 (Option.none : Option Jvm.ClassFile.FieldType) 1 := ⟨gw_1, gw_456, by decide, by decide, by decide +kernel⟩
theorem pk_f7_bindWhatCanBe : PKV yX6_bindWhatCanBe cX6_bindWhatCanBe 3 (Option.none : Option Jvm.ClassFile.FieldType) 0 := ⟨gw_1, gw_411, by decide, by decide, by decide +kernel⟩
theorem pk_f7_plug : PKV yX6_plug cX6_plug 12 (Option.some Jvm.ClassFile.FieldType.int) 7 := ⟨gw_1, gw_200, by decide, by decide, by decide +kernel⟩
theorem pk_f2_isAtOrBelow : PKV yX1_isAtOrBelow cX1_isAtOrBelow 3 (Option.some Jvm.ClassFile.FieldType.boolean) 1 := ⟨gw_20, gw_486, by decide, by decide, by decide +kernel⟩
theorem pk_f2_hasLeavingNeed : PKV yX1_hasLeavingNeed cX1_hasLeavingNeed 1 (Option.some Jvm.ClassFile.FieldType.boolean) 0 := ⟨gw_20, gw_494, by decide, by decide, by decide +kernel⟩
theorem pk_f1_abortIfGoing : PKV yX0_abortIfGoing cX0_abortIfGoing 1 (Option.some Jvm.ClassFile.FieldType.boolean) 0 := ⟨gw_23, gw_517, by decide, by decide, by decide +kernel⟩
theorem pk_f7_abortCallsOf : PKV yX6_abortCallsOf cX6_abortCallsOf 5 (Option.some Jvm.ClassFile.FieldType.int) 1 := ⟨gw_1, gw_511, by decide, by decide, by decide +kernel⟩
theorem pk_f7_letMapsGo : PKV yX6_letMapsGo cX6_letMapsGo 4 (Option.none : Option Jvm.ClassFile.FieldType) 1 := ⟨gw_1, gw_521, by decide, by decide, by decide +kernel⟩
theorem pk_f7_detach : PKV yX6_detach cX6_detach 4 (Option.none : Option Jvm.ClassFile.FieldType) 1 := ⟨gw_1, gw_507, by decide, by decide, by decide +kernel⟩
theorem pk_f7_unbindTheLeaving : PKV yX6_unbindTheLeaving cX6_unbindTheLeaving 4 (Option.some Jvm.ClassFile.FieldType.int) 0 := ⟨gw_1, gw_490, by decide, by decide, by decide +kernel⟩
theorem pk_f7_takeAway : PKV yX6_takeAway cX6_takeAway 5 (Option.some Jvm.ClassFile.FieldType.int) 1 := ⟨gw_1, gw_526, by decide, by decide, by decide +kernel⟩
theorem pk_f7_unplug : PKV yX6_unplug cX6_unplug 5 (Option.some Jvm.ClassFile.FieldType.int) 1 := ⟨gw_1, gw_482, by decide, by decide, by decide +kernel⟩
theorem pk_f3_init : PKV yX2_init cX2_init 6 (Option.none : Option Jvm.ClassFile.FieldType) 5 := ⟨gw_21, gw_538, by decide, by decide, by decide +kernel⟩
theorem pk_f7_driver : PKV yX6_driver cX6_driver 6 (Option.some Jvm.ClassFile.FieldType.int) 4 := ⟨gw_1, gw_533, by decide, by decide, by decide +kernel⟩
theorem pk_f7_load : PKV yX6_load cX6_load 5 (Option.some Jvm.ClassFile.FieldType.int) 2 := ⟨gw_1, gw_569, by decide, by decide, by decide +kernel⟩
theorem pk_f7_unbind : PKV yX6_unbind cX6_unbind 4 (Option.some Jvm.ClassFile.FieldType.int) 1 := ⟨gw_1, gw_578, by decide, by decide, by decide +kernel⟩
theorem pk_f7_bind : PKV yX6_bind cX6_bind 3 (Option.some Jvm.ClassFile.FieldType.int) 1 := ⟨gw_1, gw_586, by decide, by decide, by decide +kernel⟩
theorem pk_f7_reset : PKV yX6_reset cX6_reset 4 (Option.some Jvm.ClassFile.FieldType.int) 1 := ⟨gw_1, gw_594, by decide, by decide, by decide +kernel⟩
theorem pk_f5_init : PKV yX4_init cX4_init 2 (Option.none : Option Jvm.ClassFile.FieldType) 1 := ⟨gw_22, gw_607, by decide, by decide, by decide +kernel⟩
theorem pk_f7_open : PKV yX6_open cX6_open 4 (Option.some Jvm.ClassFile.FieldType.int) 1 := ⟨gw_1, gw_602, by decide, by decide, by decide +kernel⟩
theorem pk_f7_knownHandle : PKV yX6_knownHandle cX6_knownHandle 2 (Option.some (Jvm.ClassFile.FieldType.object "DriverMoor$Handle")) 1 := ⟨gw_1, gw_632, by decide, by decide, by decide +kernel⟩
theorem pk_f7_close : PKV yX6_close cX6_close 5 (Option.some Jvm.ClassFile.FieldType.boolean) 1 := ⟨gw_1, gw_628, by decide, by decide, by decide +kernel⟩
theorem pk_f5_isAlive : PKV yX4_isAlive cX4_isAlive 1 (Option.some Jvm.ClassFile.FieldType.boolean) 0 := ⟨gw_22, gw_650, by decide, by decide, by decide +kernel⟩
theorem pk_f7_canUse : PKV yX6_canUse cX6_canUse 2 (Option.some Jvm.ClassFile.FieldType.boolean) 1 := ⟨gw_1, gw_646, by decide, by decide, by decide +kernel⟩
theorem pk_f7_wakeForUse : PKV yX6_wakeForUse cX6_wakeForUse 2 (Option.none : Option Jvm.ClassFile.FieldType) 1 := ⟨gw_1, gw_655, by decide, by decide, by decide +kernel⟩
theorem pk_f1_init : PKV yX0_init cX0_init 3 (Option.none : Option Jvm.ClassFile.FieldType) 2 := ⟨gw_23, gw_658, by decide, by decide, by decide +kernel⟩
theorem pk_f7_call : PKV yX6_call cX6_call 5 (Option.some Jvm.ClassFile.FieldType.int) 2 := ⟨gw_1, gw_641, by decide, by decide, by decide +kernel⟩
theorem pk_f7_set : PKV yX6_set cX6_set 5 (Option.some Jvm.ClassFile.FieldType.int) 2 := ⟨gw_1, gw_679, by decide, by decide, by decide +kernel⟩
theorem pk_f7_get : PKV yX6_get cX6_get 3 (Option.some Jvm.ClassFile.FieldType.int) 1 := ⟨gw_1, gw_688, by decide, by decide, by decide +kernel⟩
theorem pk_f7_lowestFreeSlot : PKV yX6_lowestFreeSlot cX6_lowestFreeSlot 2 (Option.some Jvm.ClassFile.FieldType.int) 0 := ⟨gw_1, gw_700, by decide, by decide, by decide +kernel⟩
theorem pk_f7_knownSlot : PKV yX6_knownSlot cX6_knownSlot 2 (Option.some (Jvm.ClassFile.FieldType.object "DriverMoor$Slot")) 1 := ⟨gw_1, gw_705, by decide, by decide, by decide +kernel⟩
theorem pk_f7_map : PKV yX6_map cX6_map 6 (Option.some Jvm.ClassFile.FieldType.int) 2 := ⟨gw_1, gw_695, by decide, by decide, by decide +kernel⟩
theorem pk_f7_unmap : PKV yX6_unmap cX6_unmap 5 (Option.some Jvm.ClassFile.FieldType.int) 2 := ⟨gw_1, gw_713, by decide, by decide, by decide +kernel⟩
theorem pk_f7_access : PKV yX6_access cX6_access 5 (Option.some Jvm.ClassFile.FieldType.int) 2 := ⟨gw_1, gw_721, by decide, by decide, by decide +kernel⟩
theorem pk_f7_finishCalls : PKV yX6_finishCalls cX6_finishCalls 3 (Option.none : Option Jvm.ClassFile.FieldType) 0 := ⟨gw_1, gw_733, by decide, by decide, by decide +kernel⟩
theorem pk_f7_touch : PKV yX6_touch cX6_touch 2 (Option.none : Option Jvm.ClassFile.FieldType) 1 := ⟨gw_1, gw_741, by decide, by decide, by decide +kernel⟩
theorem pk_f7_touchTheHeld : PKV yX6_touchTheHeld cX6_touchTheHeld 3 (Option.none : Option Jvm.ClassFile.FieldType) 0 := ⟨gw_1, gw_737, by decide, by decide, by decide +kernel⟩
theorem pk_f7_fallAsleep : PKV yX6_fallAsleep cX6_fallAsleep 2 (Option.none : Option Jvm.ClassFile.FieldType) 1 := ⟨gw_1, gw_749, by decide, by decide, by decide +kernel⟩
theorem pk_f7_putIdleToSleep : PKV yX6_putIdleToSleep cX6_putIdleToSleep 3 (Option.none : Option Jvm.ClassFile.FieldType) 0 := ⟨gw_1, gw_745, by decide, by decide, by decide +kernel⟩
theorem pk_f7_pass : PKV yX6_pass cX6_pass 3 (Option.some Jvm.ClassFile.FieldType.int) 1 := ⟨gw_1, gw_728, by decide, by decide, by decide +kernel⟩
theorem pk_f7_hasCallGoing : PKV yX6_hasCallGoing cX6_hasCallGoing 4 (Option.some Jvm.ClassFile.FieldType.boolean) 1 := ⟨gw_1, gw_760, by decide, by decide, by decide +kernel⟩
theorem pk_f7_wakeTheSuspended : PKV yX6_wakeTheSuspended cX6_wakeTheSuspended 4 (Option.some Jvm.ClassFile.FieldType.int) 0 := ⟨gw_1, gw_764, by decide, by decide, by decide +kernel⟩
theorem pk_f7_suspend : PKV yX6_suspend cX6_suspend 3 (Option.some Jvm.ClassFile.FieldType.int) 0 := ⟨gw_1, gw_756, by decide, by decide, by decide +kernel⟩
theorem pk_f7_checkLine : PKV yX6_checkLine cX6_checkLine 1 (Option.none : Option Jvm.ClassFile.FieldType) 1 := ⟨gw_1, gw_783, by decide, by decide, by decide +kernel⟩
theorem pk_f7_strikes : PKV yX6_strikes cX6_strikes 2 (Option.some Jvm.ClassFile.FieldType.int) 1 := ⟨gw_1, gw_780, by decide, by decide, by decide +kernel⟩
theorem pk_f7_isShut : PKV yX6_isShut cX6_isShut 2 (Option.some Jvm.ClassFile.FieldType.boolean) 1 := ⟨gw_1, gw_776, by decide, by decide, by decide +kernel⟩
theorem pk_f7_ask : PKV yX6_ask cX6_ask 5 (Option.some Jvm.ClassFile.FieldType.int) 1 := ⟨gw_1, gw_788, by decide, by decide, by decide +kernel⟩
theorem pk_f7_resume : PKV yX6_resume cX6_resume 3 (Option.some Jvm.ClassFile.FieldType.int) 0 := ⟨gw_1, gw_771, by decide, by decide, by decide +kernel⟩
theorem pk_f7_countStrike : PKV yX6_countStrike cX6_countStrike 3 (Option.none : Option Jvm.ClassFile.FieldType) 2 := ⟨gw_1, gw_800, by decide, by decide, by decide +kernel⟩
theorem pk_f7_raise : PKV yX6_raise cX6_raise 4 (Option.some Jvm.ClassFile.FieldType.int) 1 := ⟨gw_1, gw_795, by decide, by decide, by decide +kernel⟩
theorem pk_f7_openLine : PKV yX6_openLine cX6_openLine 2 (Option.some Jvm.ClassFile.FieldType.int) 1 := ⟨gw_1, gw_807, by decide, by decide, by decide +kernel⟩
theorem pk_f7_isThere : PKV yX6_isThere cX6_isThere 2 (Option.some Jvm.ClassFile.FieldType.boolean) 1 := ⟨gw_1, gw_814, by decide, by decide, by decide +kernel⟩
theorem pk_f7_reason : PKV yX6_reason cX6_reason 4 (Option.some Jvm.ClassFile.FieldType.int) 1 := ⟨gw_1, gw_821, by decide, by decide, by decide +kernel⟩
theorem pk_f7_driverOf : PKV yX6_driverOf cX6_driverOf 4 (Option.some Jvm.ClassFile.FieldType.int) 1 := ⟨gw_1, gw_828, by decide, by decide, by decide +kernel⟩
theorem pk_f7_window : PKV yX6_window cX6_window 2 (Option.some Jvm.ClassFile.FieldType.int) 1 := ⟨gw_1, gw_835, by decide, by decide, by decide +kernel⟩
theorem pk_f7_isOn : PKV yX6_isOn cX6_isOn 2 (Option.some Jvm.ClassFile.FieldType.boolean) 1 := ⟨gw_1, gw_842, by decide, by decide, by decide +kernel⟩
theorem pk_f7_isPending : PKV yX6_isPending cX6_isPending 2 (Option.some Jvm.ClassFile.FieldType.boolean) 1 := ⟨gw_1, gw_849, by decide, by decide, by decide +kernel⟩
theorem pk_f7_handles : PKV yX6_handles cX6_handles 6 (Option.some Jvm.ClassFile.FieldType.int) 1 := ⟨gw_1, gw_860, by decide, by decide, by decide +kernel⟩
theorem pk_f7_callState : PKV yX6_callState cX6_callState 2 (Option.some Jvm.ClassFile.FieldType.int) 1 := ⟨gw_1, gw_867, by decide, by decide, by decide +kernel⟩
theorem pk_f7_faults : PKV yX6_faults cX6_faults 1 (Option.some Jvm.ClassFile.FieldType.int) 0 := ⟨gw_1, gw_186, by decide, by decide, by decide +kernel⟩
theorem pk_f7_countPlaces : PKV yX6_countPlaces cX6_countPlaces 4 (Option.some Jvm.ClassFile.FieldType.int) 0 := ⟨gw_1, gw_879, by decide, by decide, by decide +kernel⟩
theorem pk_f91_bitCount : PKV yJ6_bitCount_0f7a4 cJ6_bitCount_0f7a4 1 (Option.some Jvm.ClassFile.FieldType.int) 1 := ⟨gw_24, gw_886, by decide, by decide, by decide +kernel⟩
theorem pk_f7_countLines : PKV yX6_countLines cX6_countLines 4 (Option.some Jvm.ClassFile.FieldType.int) 0 := ⟨gw_1, gw_883, by decide, by decide, by decide +kernel⟩
theorem pk_f7_countSlots : PKV yX6_countSlots cX6_countSlots 3 (Option.some Jvm.ClassFile.FieldType.int) 0 := ⟨gw_1, gw_893, by decide, by decide, by decide +kernel⟩
theorem pk_f7_given : PKV yX6_given cX6_given 2 (Option.some Jvm.ClassFile.FieldType.int) 1 := ⟨gw_1, gw_875, by decide, by decide, by decide +kernel⟩
theorem pk_f7_events : PKV yX6_events cX6_events 1 (Option.some Jvm.ClassFile.FieldType.int) 0 := ⟨gw_1, gw_190, by decide, by decide, by decide +kernel⟩
theorem pk_f4_keeps : PKV yX3_keeps cX3_keeps 2 (Option.some Jvm.ClassFile.FieldType.boolean) 1 := ⟨gw_5, gw_905, by decide, by decide, by decide +kernel⟩
theorem pk_f4_kindAt : PKV yX3_kindAt cX3_kindAt 2 (Option.some Jvm.ClassFile.FieldType.int) 1 := ⟨gw_5, gw_910, by decide, by decide, by decide +kernel⟩
theorem pk_f7_eventKind : PKV yX6_eventKind cX6_eventKind 2 (Option.some Jvm.ClassFile.FieldType.int) 1 := ⟨gw_1, gw_901, by decide, by decide, by decide +kernel⟩
theorem pk_f4_subjectAt : PKV yX3_subjectAt cX3_subjectAt 2 (Option.some Jvm.ClassFile.FieldType.int) 1 := ⟨gw_5, gw_921, by decide, by decide, by decide +kernel⟩
theorem pk_f7_eventOf : PKV yX6_eventOf cX6_eventOf 2 (Option.some Jvm.ClassFile.FieldType.int) 1 := ⟨gw_1, gw_917, by decide, by decide, by decide +kernel⟩
set_option maxHeartbeats 8000000 in
set_option maxRecDepth 100000 in
theorem C_f7_known (l : Launch) (hfl : l.stackTraces = false) (γ : GT) (ad : Nat → Nat → Nat) {fu : Nat} (a1 : Int32) (σ : St) (r : Except Nat (Option Nat)) (hw : f7_known fu a1 σ = some r) : vx_Met l yX6_known (Cond.code yX6_known cX6_known 2 (Option.some (Jvm.ClassFile.FieldType.object "DriverMoor$Device")) :: GW) (rmo 15 1 6) (va_Pc [.ref (gS γ 7 0), .int a1] (RU γ ad σ)) (QXR γ ad 2 σ r) (QXX γ ad σ r) 1 6 (gA γ) := by
  refine vx_ofW (cc := cX6_known) (maxL := 2) (ret := (Option.some (Jvm.ClassFile.FieldType.object "DriverMoor$Device"))) (by decide) rfl ?_
  intro p e s m args below meth c s₁ B hml hxt hv
  obtain ⟨rfl, hU⟩ := hv
  obtain ⟨hX, hR⟩ := cx_of (own := RX6) B hml rfl hU
  have hr := B.returns
  have hlocks := B.notSynchronized
  have hc0 : (0 : Nat) ≤ 0 := Nat.le_refl 0
  show W p l e (rmo 15 1 6) s m ([.ref (gS γ 7 0), .int a1] : List Value).toArray below meth c s.heap [] 0 0 (vx_MQ below (QXR γ ad 2 σ r) (QXX γ ad σ r) ([.ref (gS γ 7 0), .int a1] : List Value).toArray s 1 6 (gA γ)) (entryFrame m ([.ref (gS γ 7 0), .int a1] : List Value).toArray 2)
  unfold f7_known at hw
  refine rw_entry (ca1 rfl (ca1 rfl ca0)) (Nat.le_of_ble_eq_true rfl) (fun ls hl1 => ?_)
  replace hl := hl1
  clear hl1
  refine rw_iload_n hX hl 1 rfl dX6_known_0 rfl ?_
  refine lv_if_lt (x := a1) (tgt := 15) hX.1.1 hX.1.2.1 dX6_known_1 (by decide) (fun c1 => ?_) (fun c1 => ?_)
  · replace hw := if_t hw c1
    exact rw_throwW (lv := [(0, .ref (gS γ 7 0)), (1, .int a1)]) (text := "there is no such device") hX hR hfl 1 136 348 140 (Option.some.inj hw).symm XN_fit1 XNS_fit gw_213 gw_15 (by decide +kernel) xa_1 xg_1 hl.1 hxt dX6_known_15 dX6_known_18 dX6_known_19 dX6_known_22 dX6_known_25 (Nat.le_of_ble_eq_true rfl) (Nat.le_of_ble_eq_true rfl) ⟨(show 0 + 1 ≤ 1 by omega), (show 0 + 6 ≤ 6 by omega)⟩ hlocks ⟨by omega, by omega⟩
  · replace hw := if_f hw c1
    refine rw_iload_n hX hl 1 rfl dX6_known_4 rfl ?_
    refine rw_aload_n hX hl 0 rfl (Or.inr ⟨_, rfl⟩) dX6_known_5 rfl ?_
    refine rw_get hX hR 7 0 0 (C := RX6) (T := TX6) (N := 11) rfl (by decide) (Nat.le_of_ble_eq_true rfl) rfl (v := .ref (gS γ 0 0)) rfl uw_X6 gw_149 rfl dX6_known_6 ?_
    refine rw_cVi hX hR pk_lsize (mc := 0) (ms := 0) ⟨rfl, rfl, Nat.le_of_ble_eq_true rfl, Nat.le_of_ble_eq_true rfl⟩ (As := []) (rest := [.int a1]) rfl (C_lsize l γ ad σ 0 (by decide)) gw_209 gw_210 gw_211 (rs_recvL hX hR 0 (by decide)) rfl hl.1 (ca1 rfl ca0) (Nat.le_of_ble_eq_true rfl) dX6_known_9 ⟨(show 0 + 0 ≤ 1 by omega), (show 0 + 0 ≤ 6 by omega)⟩ (fun H locs hR1 => ?_)
    replace hR := hR1
    clear hR1
    refine lv_icmp_lt (x := a1) (y := (nI (gl σ 0).length)) (tgt := 26) hX.1.1 hX.1.2.1 dX6_known_12 (by decide) (fun c2 => ?_) (fun c2 => ?_)
    · replace hw := if_t hw c2
      refine rw_aload_n hX hl 0 rfl (Or.inr ⟨_, rfl⟩) dX6_known_26 rfl ?_
      refine rw_get hX hR 7 0 0 (C := RX6) (T := TX6) (N := 11) rfl (by decide) (Nat.le_of_ble_eq_true rfl) rfl (v := .ref (gS γ 0 0)) rfl uw_X6 gw_149 rfl dX6_known_27 ?_
      refine rw_iload_n hX hl 1 rfl dX6_known_30 rfl ?_
      obtain ⟨h4, k3, h5, h6, hw1⟩ := lg_some hw
      replace hw := hw1
      clear hw1
      refine rw_cVq (r := some k3) (k := 2) hX hR pk_lget (mc := 0) (ms := 0) ⟨rfl, rfl, Nat.le_of_ble_eq_true rfl, Nat.le_of_ble_eq_true rfl⟩ (As := [.int a1]) (rest := []) rfl (C_lget l γ ad σ 0 a1 k3 (by decide) h4 h5) gw_281 gw_282 gw_283 (rs_recvL hX hR 0 (by decide)) rfl hl.1 ca0 (Nat.le_of_ble_eq_true rfl) dX6_known_31 ⟨(show (0 + 0) + 0 ≤ 1 by omega), (show (0 + 0) + 0 ≤ 6 by omega)⟩ (fun H locs hR1 => ?_)
      replace hR := hR1
      clear hR1
      refine va_castS (a := Ad γ ad 2 k3) (nm := RX1) hX.1.1 hX.1.2.1 hX.1.2.2.2.1 (hX.1.2.2.2.2 _ gw_295) (hX.2.1.1 2 (RX1, TX1, 18) rfl).2 (rs_recv hX hR 2 k3 (C := RX1) (T := TX1) (N := 18) rfl (by decide) h6 rfl) dX6_known_34 ?_
      refine W.widen (k := 1) (n := 6) (by omega) (by omega) ?_
      exact ry_q hX hR hr (k := 2) hw dX6_known_37 hlocks
    · replace hw := if_f hw c2
      exact rw_throwW (lv := [(0, .ref (gS γ 7 0)), (1, .int a1)]) (text := "there is no such device") hX hR hfl 1 136 348 140 (Option.some.inj hw).symm XN_fit1 XNS_fit gw_213 gw_15 (by decide +kernel) xa_1 xg_1 hl.1 hxt dX6_known_15 dX6_known_18 dX6_known_19 dX6_known_22 dX6_known_25 (Nat.le_of_ble_eq_true rfl) (Nat.le_of_ble_eq_true rfl) ⟨(show (0 + 0) + 1 ≤ 1 by omega), (show (0 + 0) + 6 ≤ 6 by omega)⟩ hlocks ⟨by omega, by omega⟩
set_option maxHeartbeats 8000000 in
set_option maxRecDepth 100000 in
theorem C_f7_presentOrNone (l : Launch) (hfl : l.stackTraces = false) (γ : GT) (ad : Nat → Nat → Nat) {fu : Nat} (a1 : Int32) (σ : St) (r : Except Nat (Option Nat)) (hw : f7_presentOrNone fu a1 σ = some r) : vx_Met l yX6_presentOrNone (Cond.code yX6_presentOrNone cX6_presentOrNone 3 (Option.some (Jvm.ClassFile.FieldType.object "DriverMoor$Device")) :: GW) (rmo 16 2 12) (va_Pc [.ref (gS γ 7 0), .int a1] (RU γ ad σ)) (QXR γ ad 2 σ r) (QXX γ ad σ r) 2 12 (gA γ) := by
  refine vx_ofW (cc := cX6_presentOrNone) (maxL := 3) (ret := (Option.some (Jvm.ClassFile.FieldType.object "DriverMoor$Device"))) (by decide) rfl ?_
  intro p e s m args below meth c s₁ B hml hxt hv
  obtain ⟨rfl, hU⟩ := hv
  obtain ⟨hX, hR⟩ := cx_of (own := RX6) B hml rfl hU
  have hr := B.returns
  have hlocks := B.notSynchronized
  have hc0 : (0 : Nat) ≤ 0 := Nat.le_refl 0
  show W p l e (rmo 16 2 12) s m ([.ref (gS γ 7 0), .int a1] : List Value).toArray below meth c s.heap [] 0 0 (vx_MQ below (QXR γ ad 2 σ r) (QXX γ ad σ r) ([.ref (gS γ 7 0), .int a1] : List Value).toArray s 2 12 (gA γ)) (entryFrame m ([.ref (gS γ 7 0), .int a1] : List Value).toArray 3)
  unfold f7_presentOrNone at hw
  refine rw_entry (ca1 rfl (ca1 rfl ca0)) (Nat.le_of_ble_eq_true rfl) (fun ls hl1 => ?_)
  replace hl := hl1
  clear hl1
  refine rw_iload_n hX hl 1 rfl dX6_presentOrNone_0 rfl ?_
  refine lv_iconst (v := (-1)) hX.1.1 hX.1.2.1 dX6_presentOrNone_1 (by decide) ?_
  refine lv_icmp_ne (x := a1) (y := (-1)) (tgt := 7) hX.1.1 hX.1.2.1 dX6_presentOrNone_2 (by decide) (fun c1 => ?_) (fun c1 => ?_)
  · replace hw := if_f hw c1
    refine rw_aload_n hX hl 0 rfl (Or.inr ⟨_, rfl⟩) dX6_presentOrNone_7 rfl ?_
    refine rw_iload_n hX hl 1 rfl dX6_presentOrNone_8 rfl ?_
    obtain ⟨v2, g4, h5, h6⟩ := xb1_some hw
    refine rw_xVq hX hR pk_f7_known (mc := 1) (ms := 6) ⟨rfl, rfl, (show 15 + 1 ≤ 16 by omega), (show 8 + (2 + 11) + 64 * 15 ≤ 64 * 16 by omega)⟩ (As := [.int a1]) (rest := []) rfl (C_f7_known l hfl γ ad a1 σ v2 g4) gw_205 gw_207 gs_4 (rs_recv hX hR 7 0 (C := RX6) (T := TX6) (N := 11) rfl (by decide) (Nat.le_of_ble_eq_true rfl) rfl) rfl hl.1 ca0 (Nat.le_of_ble_eq_true rfl) dX6_presentOrNone_9 ⟨(show 0 + 1 ≤ 2 by omega), (show 0 + 6 ≤ 12 by omega)⟩ (fun x ce q9 H locs hx hR1 h1 h2 h3 => ?_) (fun v2 H locs hx hR1 => ?_)
    · replace hR := hR1
      clear hR1
      replace hw := h5 x hx
      cases hw
      exact rx_out hX hR hxt rfl h1 h2 h3 hlocks (by omega) (by omega)
    replace hR := hR1
    clear hR1
    replace hw := h6 v2 hx
    refine rw_astore_n (lv' := [(2, va_rf (Option.map (Ad γ ad 2) v2)), (0, .ref (gS γ 7 0)), (1, .int a1)]) hX hl (by decide) rfl (va_rf_or _) dX6_presentOrNone_12 rfl (fun ls hl1 => ?_)
    replace hl := hl1
    clear hl1
    refine rw_aload_n hX hl 0 rfl (va_rf_or _) dX6_presentOrNone_13 rfl ?_
    obtain ⟨i7, e8, h9, hw1⟩ := dr_some hw
    replace hw := hw1
    clear hw1
    subst e8
    refine rw_getN hX hR 2 8 i7 (C := RX1) (T := TX1) (N := 18) rfl (by decide) h9 rfl (v := .int (b2i (gb σ 208 i7))) rfl uw_X1 nw_358 rfl dX6_presentOrNone_14 ?_
    refine rw_ifneZ (b := (gb σ 208 i7)) (tgt := 30) hX dX6_presentOrNone_17 (by decide) (fun c10 => ?_) (fun c10 => ?_)
    · replace hw := if_t hw c10
      refine rw_aload_n hX hl 0 rfl (Or.inr ⟨_, rfl⟩) dX6_presentOrNone_30 rfl ?_
      refine W.widen (k := 2) (n := 12) (by omega) (by omega) ?_
      exact ry_q hX hR hr (k := 2) hw dX6_presentOrNone_31 hlocks
    · replace hw := if_f hw c10
      exact rw_throw (lv := [(2, .ref (Ad γ ad 2 i7)), (0, .ref (gS γ 7 0)), (1, .int a1)]) (text := "the device is there no more") hX hR hfl 1 136 108 140 (Option.some.inj hw).symm XN_fit1 XNS_fit gw_213 gw_15 (by decide +kernel) xa_1 xg_1 hl.1 hxt dX6_presentOrNone_20 dX6_presentOrNone_23 dX6_presentOrNone_24 dX6_presentOrNone_26 dX6_presentOrNone_29 (Nat.le_of_ble_eq_true rfl) (Nat.le_of_ble_eq_true rfl) ⟨(show (0 + 1) + 1 ≤ 2 by omega), (show (0 + 6) + 6 ≤ 12 by omega)⟩ hlocks ⟨by omega, by omega⟩
  · replace hw := if_t hw c1
    refine lv_null hX.1.1 hX.1.2.1 dX6_presentOrNone_5 ?_
    refine W.widen (k := 2) (n := 12) (by omega) (by omega) ?_
    exact ry_q hX hR hr (k := 2) hw dX6_presentOrNone_6 hlocks
set_option maxHeartbeats 8000000 in
set_option maxRecDepth 100000 in
theorem C_f7_isWithin (l : Launch) (γ : GT) (ad : Nat → Nat → Nat) {fu : Nat} (a0 : Int32) (a1 : Int32) (a2 : Int32) (σ : St) (r : Bool) (hw : f7_isWithin fu a0 a1 a2 σ = some r) : Met l yX6_isWithin (Cond.code yX6_isWithin cX6_isWithin 3 (Option.some Jvm.ClassFile.FieldType.boolean) :: GW) (rmo 1 0 0) (va_Pc [.int a0, .int a1, .int a2] (RU γ ad σ)) (QI γ ad σ (b2i r)) 0 0 (gA γ) := by
  refine Met.ofW (cc := cX6_isWithin) (maxL := 3) (ret := (Option.some Jvm.ClassFile.FieldType.boolean)) (by decide +kernel) rfl ?_
  intro p e s m args below meth c s₁ B hml hv
  obtain ⟨rfl, hU⟩ := hv
  obtain ⟨hX, hR⟩ := cx_of (own := RX6) B hml rfl hU
  have hr := B.returns
  have hlocks := B.notSynchronized
  have hc0 : (0 : Nat) ≤ 0 := Nat.le_refl 0
  show W p l e (rmo 1 0 0) s m ([.int a0, .int a1, .int a2] : List Value).toArray below meth c s.heap [] 0 0 (MQ below (QI γ ad σ (b2i r)) ([.int a0, .int a1, .int a2] : List Value).toArray s 0 0 (gA γ)) (entryFrame m ([.int a0, .int a1, .int a2] : List Value).toArray 3)
  unfold f7_isWithin at hw
  refine rw_entry (ca1 rfl (ca1 rfl (ca1 rfl ca0))) (Nat.le_of_ble_eq_true rfl) (fun ls hl1 => ?_)
  replace hl := hl1
  clear hl1
  refine rw_iload_n hX hl 0 rfl dX6_isWithin_0 rfl ?_
  refine rw_iload_n hX hl 1 rfl dX6_isWithin_1 rfl ?_
  refine lv_icmp_lt (x := a0) (y := a1) (tgt := 14) hX.1.1 hX.1.2.1 dX6_isWithin_2 (by decide) (fun c1 => ?_) (fun c1 => ?_)
  · replace hw := if_t hw c1
    refine lv_iconst (v := 0) hX.1.1 hX.1.2.1 dX6_isWithin_14 (by decide) ?_
    exact rq_z hX hR hr (v := false) rfl hw dX6_isWithin_15 hlocks
  · replace hw := if_f hw c1
    refine rw_iload_n hX hl 0 rfl dX6_isWithin_5 rfl ?_
    refine rw_iload_n hX hl 2 rfl dX6_isWithin_6 rfl ?_
    refine lv_icmp_gt (x := a0) (y := a2) (tgt := 14) hX.1.1 hX.1.2.1 dX6_isWithin_7 (by decide) (fun c2 => ?_) (fun c2 => ?_)
    · replace hw := if_t hw c2
      refine lv_iconst (v := 0) hX.1.1 hX.1.2.1 dX6_isWithin_14 (by decide) ?_
      exact rq_z hX hR hr (v := false) rfl hw dX6_isWithin_15 hlocks
    · replace hw := if_f hw c2
      refine lv_iconst (v := 1) hX.1.1 hX.1.2.1 dX6_isWithin_10 (by decide) ?_
      refine lv_goto (tgt := 15) hX.1.1 hX.1.2.1 dX6_isWithin_11 (by decide) ?_
      exact rq_z hX hR hr (v := true) rfl hw dX6_isWithin_15 hlocks
set_option maxHeartbeats 8000000 in
set_option maxRecDepth 100000 in
theorem C_f7_isSize (l : Launch) (γ : GT) (ad : Nat → Nat → Nat) {fu : Nat} (a0 : Int32) (σ : St) (r : Bool) (hw : f7_isSize fu a0 σ = some r) : Met l yX6_isSize (Cond.code yX6_isSize cX6_isSize 1 (Option.some Jvm.ClassFile.FieldType.boolean) :: GW) (rmo 1 0 0) (va_Pc [.int a0] (RU γ ad σ)) (QI γ ad σ (b2i r)) 0 0 (gA γ) := by
  refine Met.ofW (cc := cX6_isSize) (maxL := 1) (ret := (Option.some Jvm.ClassFile.FieldType.boolean)) (by decide +kernel) rfl ?_
  intro p e s m args below meth c s₁ B hml hv
  obtain ⟨rfl, hU⟩ := hv
  obtain ⟨hX, hR⟩ := cx_of (own := RX6) B hml rfl hU
  have hr := B.returns
  have hlocks := B.notSynchronized
  have hc0 : (0 : Nat) ≤ 0 := Nat.le_refl 0
  show W p l e (rmo 1 0 0) s m ([.int a0] : List Value).toArray below meth c s.heap [] 0 0 (MQ below (QI γ ad σ (b2i r)) ([.int a0] : List Value).toArray s 0 0 (gA γ)) (entryFrame m ([.int a0] : List Value).toArray 1)
  unfold f7_isSize at hw
  refine rw_entry (ca1 rfl ca0) (Nat.le_of_ble_eq_true rfl) (fun ls hl1 => ?_)
  replace hl := hl1
  clear hl1
  refine rw_iload_n hX hl 0 rfl dX6_isSize_0 rfl ?_
  refine lv_if_eq (x := a0) (tgt := 25) hX.1.1 hX.1.2.1 dX6_isSize_1 (by decide) (fun c1 => ?_) (fun c1 => ?_)
  · replace hw := if_t hw c1
    refine lv_iconst (v := 1) hX.1.1 hX.1.2.1 dX6_isSize_25 (by decide) ?_
    refine lv_goto (tgt := 30) hX.1.1 hX.1.2.1 dX6_isSize_26 (by decide) ?_
    exact rq_z hX hR hr (v := true) rfl hw dX6_isSize_30 hlocks
  · replace hw := if_f hw c1
    refine rw_iload_n hX hl 0 rfl dX6_isSize_4 rfl ?_
    refine lv_iconst (v := 1) hX.1.1 hX.1.2.1 dX6_isSize_5 (by decide) ?_
    refine lv_icmp_eq (x := a0) (y := 1) (tgt := 25) hX.1.1 hX.1.2.1 dX6_isSize_6 (by decide) (fun c2 => ?_) (fun c2 => ?_)
    · replace hw := if_t hw c2
      refine lv_iconst (v := 1) hX.1.1 hX.1.2.1 dX6_isSize_25 (by decide) ?_
      refine lv_goto (tgt := 30) hX.1.1 hX.1.2.1 dX6_isSize_26 (by decide) ?_
      exact rq_z hX hR hr (v := true) rfl hw dX6_isSize_30 hlocks
    · replace hw := if_f hw c2
      refine rw_iload_n hX hl 0 rfl dX6_isSize_9 rfl ?_
      refine lv_iconst (v := 2) hX.1.1 hX.1.2.1 dX6_isSize_10 (by decide) ?_
      refine lv_icmp_eq (x := a0) (y := 2) (tgt := 25) hX.1.1 hX.1.2.1 dX6_isSize_11 (by decide) (fun c3 => ?_) (fun c3 => ?_)
      · replace hw := if_t hw c3
        refine lv_iconst (v := 1) hX.1.1 hX.1.2.1 dX6_isSize_25 (by decide) ?_
        refine lv_goto (tgt := 30) hX.1.1 hX.1.2.1 dX6_isSize_26 (by decide) ?_
        exact rq_z hX hR hr (v := true) rfl hw dX6_isSize_30 hlocks
      · replace hw := if_f hw c3
        refine rw_iload_n hX hl 0 rfl dX6_isSize_14 rfl ?_
        refine lv_iconst (v := 4) hX.1.1 hX.1.2.1 dX6_isSize_15 (by decide) ?_
        refine lv_icmp_eq (x := a0) (y := 4) (tgt := 25) hX.1.1 hX.1.2.1 dX6_isSize_16 (by decide) (fun c4 => ?_) (fun c4 => ?_)
        · replace hw := if_t hw c4
          refine lv_iconst (v := 1) hX.1.1 hX.1.2.1 dX6_isSize_25 (by decide) ?_
          refine lv_goto (tgt := 30) hX.1.1 hX.1.2.1 dX6_isSize_26 (by decide) ?_
          exact rq_z hX hR hr (v := true) rfl hw dX6_isSize_30 hlocks
        · replace hw := if_f hw c4
          refine rw_iload_n hX hl 0 rfl dX6_isSize_19 rfl ?_
          refine lv_bipush (v := 8) hX.1.1 hX.1.2.1 dX6_isSize_20 (by decide) ?_
          refine lv_icmp_ne (x := a0) (y := 8) (tgt := 29) hX.1.1 hX.1.2.1 dX6_isSize_22 (by decide) (fun c5 => ?_) (fun c5 => ?_)
          · replace hw := if_f hw c5
            refine lv_iconst (v := 0) hX.1.1 hX.1.2.1 dX6_isSize_29 (by decide) ?_
            exact rq_z hX hR hr (v := false) rfl hw dX6_isSize_30 hlocks
          · replace hw := if_t hw c5
            refine lv_iconst (v := 1) hX.1.1 hX.1.2.1 dX6_isSize_25 (by decide) ?_
            refine lv_goto (tgt := 30) hX.1.1 hX.1.2.1 dX6_isSize_26 (by decide) ?_
            exact rq_z hX hR hr (v := true) rfl hw dX6_isSize_30 hlocks
set_option maxHeartbeats 8000000 in
set_option maxRecDepth 100000 in
theorem C_f2_init (l : Launch) (γ : GT) (ad : Nat → Nat → Nat) {fu : Nat} (a0 : Nat) (a1 : Int32) (a2 : Int32) (a3 : Int32) (a4 : Int32) (a5 : Bool) (σ : St) (σ' : St) (hw : f2_init fu a0 a1 a2 a3 a4 a5 σ = some σ') : Met l yX1_init (Cond.code yX1_init cX1_init 6 (Option.none : Option Jvm.ClassFile.FieldType) :: GW) (rmo 2 0 0) (va_Pc [.ref (Ad γ ad 2 a0), .int a1, .int a2, .int a3, .int a4, .int (b2i a5)] (RU γ ad σ)) (QV γ ad σ') 0 0 (gA γ) := by
  refine Met.ofW (cc := cX1_init) (maxL := 6) (ret := (Option.none : Option Jvm.ClassFile.FieldType)) (by decide +kernel) rfl ?_
  intro p e s m args below meth c s₁ B hml hv
  obtain ⟨rfl, hU⟩ := hv
  obtain ⟨hX, hR⟩ := cx_of (own := RX1) B hml rfl hU
  have hr := B.returns
  have hlocks := B.notSynchronized
  have hin := (name_of_methodNamed B.named B.method).1
  have hc0 : (0 : Nat) ≤ 0 := Nat.le_refl 0
  show W p l e (rmo 2 0 0) s m ([.ref (Ad γ ad 2 a0), .int a1, .int a2, .int a3, .int a4, .int (b2i a5)] : List Value).toArray below meth c s.heap [] 0 0 (MQ below (QV γ ad σ') ([.ref (Ad γ ad 2 a0), .int a1, .int a2, .int a3, .int a4, .int (b2i a5)] : List Value).toArray s 0 0 (gA γ)) (entryFrame m ([.ref (Ad γ ad 2 a0), .int a1, .int a2, .int a3, .int a4, .int (b2i a5)] : List Value).toArray 6)
  unfold f2_init at hw
  refine rw_entry (ca1 rfl (ca1 rfl (ca1 rfl (ca1 rfl (ca1 rfl (ca1 rfl ca0)))))) (Nat.le_of_ble_eq_true rfl) (fun ls hl1 => ?_)
  replace hl := hl1
  clear hl1
  refine rw_aload_n hX hl 0 rfl (Or.inr ⟨_, rfl⟩) dX1_init_0 rfl ?_
  refine W.objInit hX.1.1 hX.1.2.1 hX.1.2.2.2.1 (hX.1.2.2.2.2 _ gw_340) (hX.1.2.2.2.2 _ gw_31) (hX.1.2.2.2.2 _ gw_32) rfl (hl.1.1.trans hX.1.2.2.1.symm) rfl dX1_init_1 (Nat.le_of_ble_eq_true rfl) (Nat.le_of_ble_eq_true rfl) ?_
  refine rw_aload_n hX hl 0 rfl (Or.inr ⟨_, rfl⟩) dX1_init_4 rfl ?_
  refine lv_iconst (v := 1) hX.1.1 hX.1.2.1 dX1_init_5 (by decide) ?_
  obtain ⟨h1, hw1⟩ := ck_lt hw
  replace hw := hw1
  clear hw1
  refine rw_putb (x := true) hX hR 2 8 a0 208 (C := RX1) (T := TX1) (N := 18) rfl (by decide) rfl rfl h1 rfl uw_X1 tyX1 tyX1_ok nmX1 gw_357 rfl rfl (by decide) dX1_init_6 (fun σ1 H locs e1 hR1 => ?_)
  replace hR := hR1
  clear hR1
  subst e1
  refine rw_aload_n hX hl 0 rfl (Or.inr ⟨_, rfl⟩) dX1_init_9 rfl ?_
  refine lv_iconst (v := (-1)) hX.1.1 hX.1.2.1 dX1_init_10 (by decide) ?_
  refine rw_puti (x := (-1)) hX hR 2 11 a0 211 (C := RX1) (T := TX1) (N := 18) rfl (by decide) rfl rfl h1 rfl uw_X1 tyX1 tyX1_ok nmX1 gw_362 rfl rfl (by decide) dX1_init_11 (fun σ1 H locs e1 hR1 => ?_)
  replace hR := hR1
  clear hR1
  subst e1
  refine rw_aload_n hX hl 0 rfl (Or.inr ⟨_, rfl⟩) dX1_init_14 rfl ?_
  refine rw_iload_n hX hl 1 rfl dX1_init_15 rfl ?_
  refine rw_putiF (x := a1) hX hR 2 0 a0 200 (C := RX1) (T := TX1) (N := 18) rfl (by decide) rfl rfl h1 rfl uw_X1 tyX1 tyX1_ok nmX1 gw_341 rfl rfl hin rfl (by decide) dX1_init_16 (fun σ1 H locs e1 hR1 => ?_)
  replace hR := hR1
  clear hR1
  subst e1
  refine rw_aload_n hX hl 0 rfl (Or.inr ⟨_, rfl⟩) dX1_init_19 rfl ?_
  refine rw_iload_n hX hl 2 rfl dX1_init_20 rfl ?_
  refine rw_putiF (x := a2) hX hR 2 1 a0 201 (C := RX1) (T := TX1) (N := 18) rfl (by decide) rfl rfl h1 rfl uw_X1 tyX1 tyX1_ok nmX1 gw_343 rfl rfl hin rfl (by decide) dX1_init_21 (fun σ1 H locs e1 hR1 => ?_)
  replace hR := hR1
  clear hR1
  subst e1
  refine rw_aload_n hX hl 0 rfl (Or.inr ⟨_, rfl⟩) dX1_init_24 rfl ?_
  refine rw_iload_n hX hl 3 rfl dX1_init_25 rfl ?_
  refine rw_putiF (x := a3) hX hR 2 2 a0 202 (C := RX1) (T := TX1) (N := 18) rfl (by decide) rfl rfl h1 rfl uw_X1 tyX1 tyX1_ok nmX1 gw_345 rfl rfl hin rfl (by decide) dX1_init_26 (fun σ1 H locs e1 hR1 => ?_)
  replace hR := hR1
  clear hR1
  subst e1
  refine rw_aload_n hX hl 0 rfl (Or.inr ⟨_, rfl⟩) dX1_init_29 rfl ?_
  refine rw_iload hX hl 4 rfl dX1_init_30 ?_
  refine rw_putiF (x := a4) hX hR 2 3 a0 203 (C := RX1) (T := TX1) (N := 18) rfl (by decide) rfl rfl h1 rfl uw_X1 tyX1 tyX1_ok nmX1 gw_347 rfl rfl hin rfl (by decide) dX1_init_32 (fun σ1 H locs e1 hR1 => ?_)
  replace hR := hR1
  clear hR1
  subst e1
  refine rw_aload_n hX hl 0 rfl (Or.inr ⟨_, rfl⟩) dX1_init_35 rfl ?_
  refine rw_iload hX hl 5 rfl dX1_init_36 ?_
  refine rw_putbF (x := a5) hX hR 2 4 a0 204 (C := RX1) (T := TX1) (N := 18) rfl (by decide) rfl rfl h1 rfl uw_X1 tyX1 tyX1_ok nmX1 gw_349 rfl rfl hin rfl (by decide) dX1_init_38 (fun σ1 H locs e1 hR1 => ?_)
  replace hR := hR1
  clear hR1
  subst e1
  exact rq_ve hX hR hr hw dX1_init_41 hlocks
set_option maxHeartbeats 8000000 in
set_option maxRecDepth 100000 in
theorem C_f2_isBound (l : Launch) (γ : GT) (ad : Nat → Nat → Nat) {fu : Nat} (a0 : Nat) (σ : St) (r : Bool) (hw : f2_isBound fu a0 σ = some r) : Met l yX1_isBound (Cond.code yX1_isBound cX1_isBound 1 (Option.some Jvm.ClassFile.FieldType.boolean) :: GW) (rmo 1 0 0) (va_Pc [.ref (Ad γ ad 2 a0)] (RU γ ad σ)) (QI γ ad σ (b2i r)) 0 0 (gA γ) := by
  refine Met.ofW (cc := cX1_isBound) (maxL := 1) (ret := (Option.some Jvm.ClassFile.FieldType.boolean)) (by decide +kernel) rfl ?_
  intro p e s m args below meth c s₁ B hml hv
  obtain ⟨rfl, hU⟩ := hv
  obtain ⟨hX, hR⟩ := cx_of (own := RX1) B hml rfl hU
  have hr := B.returns
  have hlocks := B.notSynchronized
  have hc0 : (0 : Nat) ≤ 0 := Nat.le_refl 0
  show W p l e (rmo 1 0 0) s m ([.ref (Ad γ ad 2 a0)] : List Value).toArray below meth c s.heap [] 0 0 (MQ below (QI γ ad σ (b2i r)) ([.ref (Ad γ ad 2 a0)] : List Value).toArray s 0 0 (gA γ)) (entryFrame m ([.ref (Ad γ ad 2 a0)] : List Value).toArray 1)
  unfold f2_isBound at hw
  refine rw_entry (ca1 rfl ca0) (Nat.le_of_ble_eq_true rfl) (fun ls hl1 => ?_)
  replace hl := hl1
  clear hl1
  refine rw_aload_n hX hl 0 rfl (Or.inr ⟨_, rfl⟩) dX1_isBound_0 rfl ?_
  obtain ⟨h1, hw1⟩ := ck_lt hw
  replace hw := hw1
  clear hw1
  obtain ⟨p2, q3⟩ : ∃ o, gp σ 210 a0 = o := ⟨_, rfl⟩
  replace hw := lt_eq hw q3
  refine rw_get hX hR 2 10 a0 (C := RX1) (T := TX1) (N := 18) rfl (by decide) h1 rfl (v := va_rf (Option.map (Ad γ ad 3) p2)) (by rw [← q3]; rfl) uw_X1 gw_360 rfl dX1_isBound_1 ?_
  refine rw_ifnull hX (o := p2) (g := Ad γ ad 3) (tgt := 11) dX1_isBound_4 (by decide) (fun c4 => ?_) (fun c4 => ?_)
  · replace hw := if_t hw c4
    refine lv_iconst (v := 0) hX.1.1 hX.1.2.1 dX1_isBound_11 (by decide) ?_
    exact rq_z hX hR hr (v := false) rfl hw dX1_isBound_12 hlocks
  · replace hw := if_f hw c4
    refine lv_iconst (v := 1) hX.1.1 hX.1.2.1 dX1_isBound_7 (by decide) ?_
    refine lv_goto (tgt := 12) hX.1.1 hX.1.2.1 dX1_isBound_8 (by decide) ?_
    exact rq_z hX hR hr (v := true) rfl hw dX1_isBound_12 hlocks
set_option maxHeartbeats 8000000 in
set_option maxRecDepth 100000 in
theorem C_f3_knows (l : Launch) (γ : GT) (ad : Nat → Nat → Nat) {fu : Nat} (a0 : Nat) (a1 : Int32) (σ : St) (r : Bool) (hw : f3_knows fu a0 a1 σ = some r) : Met l yX2_knows (Cond.code yX2_knows cX2_knows 2 (Option.some Jvm.ClassFile.FieldType.boolean) :: GW) (rmo 1 0 0) (va_Pc [.ref (Ad γ ad 3 a0), .int a1] (RU γ ad σ)) (QI γ ad σ (b2i r)) 0 0 (gA γ) := by
  refine Met.ofW (cc := cX2_knows) (maxL := 2) (ret := (Option.some Jvm.ClassFile.FieldType.boolean)) (by decide +kernel) rfl ?_
  intro p e s m args below meth c s₁ B hml hv
  obtain ⟨rfl, hU⟩ := hv
  obtain ⟨hX, hR⟩ := cx_of (own := RX2) B hml rfl hU
  have hr := B.returns
  have hlocks := B.notSynchronized
  have hc0 : (0 : Nat) ≤ 0 := Nat.le_refl 0
  show W p l e (rmo 1 0 0) s m ([.ref (Ad γ ad 3 a0), .int a1] : List Value).toArray below meth c s.heap [] 0 0 (MQ below (QI γ ad σ (b2i r)) ([.ref (Ad γ ad 3 a0), .int a1] : List Value).toArray s 0 0 (gA γ)) (entryFrame m ([.ref (Ad γ ad 3 a0), .int a1] : List Value).toArray 2)
  unfold f3_knows at hw
  refine rw_entry (ca1 rfl (ca1 rfl ca0)) (Nat.le_of_ble_eq_true rfl) (fun ls hl1 => ?_)
  replace hl := hl1
  clear hl1
  refine rw_aload_n hX hl 0 rfl (Or.inr ⟨_, rfl⟩) dX2_knows_0 rfl ?_
  obtain ⟨h1, hw1⟩ := ck_lt hw
  replace hw := hw1
  clear hw1
  refine rw_get hX hR 3 1 a0 (C := RX2) (T := TX2) (N := 6) rfl (by decide) h1 rfl (v := .int (gi σ 301 a0)) rfl uw_X2 gw_542 rfl dX2_knows_1 ?_
  refine rw_iload_n hX hl 1 rfl dX2_knows_4 rfl ?_
  refine lv_iushr (x := (gi σ 301 a0)) (y := a1) hX.1.1 hX.1.2.1 dX2_knows_5 rfl ?_
  refine lv_iconst (v := 1) hX.1.1 hX.1.2.1 dX2_knows_6 (by decide) ?_
  refine lv_iand (x := ((Int32.toUInt32 (gi σ 301 a0) >>> (Int32.toUInt32 a1 &&& Int32.toUInt32 31)).toInt32)) (y := 1) hX.1.1 hX.1.2.1 dX2_knows_7 ?_
  refine lv_iconst (v := 1) hX.1.1 hX.1.2.1 dX2_knows_8 (by decide) ?_
  refine lv_icmp_ne (x := (((Int32.toUInt32 (gi σ 301 a0) >>> (Int32.toUInt32 a1 &&& Int32.toUInt32 31)).toInt32) &&& 1)) (y := 1) (tgt := 16) hX.1.1 hX.1.2.1 dX2_knows_9 (by decide) (fun c2 => ?_) (fun c2 => ?_)
  · replace hw := if_f hw c2
    refine lv_iconst (v := 0) hX.1.1 hX.1.2.1 dX2_knows_16 (by decide) ?_
    exact rq_z hX hR hr (v := false) rfl hw dX2_knows_17 hlocks
  · replace hw := if_t hw c2
    refine lv_iconst (v := 1) hX.1.1 hX.1.2.1 dX2_knows_12 (by decide) ?_
    refine lv_goto (tgt := 17) hX.1.1 hX.1.2.1 dX2_knows_13 (by decide) ?_
    exact rq_z hX hR hr (v := true) rfl hw dX2_knows_17 hlocks
set_option maxHeartbeats 8000000 in
set_option maxRecDepth 100000 in
theorem C_f7_bestDriver (l : Launch) (γ : GT) (ad : Nat → Nat → Nat) {fu : Nat} (a1 : Int32) (σ : St) (r : (Option Nat)) (hw : f7_bestDriver fu a1 σ = some r) : Met l yX6_bestDriver (Cond.code yX6_bestDriver cX6_bestDriver 5 (Option.some (Jvm.ClassFile.FieldType.object "DriverMoor$Driver")) :: GW) (rmo 15 0 0) (va_Pc [.ref (gS γ 7 0), .int a1] (RU γ ad σ)) (QR γ ad σ (r.map (Ad γ ad 3))) 0 0 (gA γ) := by
  refine Met.ofW (cc := cX6_bestDriver) (maxL := 5) (ret := (Option.some (Jvm.ClassFile.FieldType.object "DriverMoor$Driver"))) (by decide +kernel) rfl ?_
  intro p e s m args below meth c s₁ B hml hv
  obtain ⟨rfl, hU⟩ := hv
  obtain ⟨hX, hR⟩ := cx_of (own := RX6) B hml rfl hU
  have hr := B.returns
  have hlocks := B.notSynchronized
  have hc0 : (0 : Nat) ≤ 0 := Nat.le_refl 0
  show W p l e (rmo 15 0 0) s m ([.ref (gS γ 7 0), .int a1] : List Value).toArray below meth c s.heap [] 0 0 (MQ below (QR γ ad σ (r.map (Ad γ ad 3))) ([.ref (gS γ 7 0), .int a1] : List Value).toArray s 0 0 (gA γ)) (entryFrame m ([.ref (gS γ 7 0), .int a1] : List Value).toArray 5)
  unfold f7_bestDriver at hw
  have L4 : ∀ (x1 : Int32) (n : Nat) (s9 : ((Option Nat) × Int32)) (cells slots : Nat), cells ≤ 0 → slots ≤ 0 → ∀ (H : Heap) (locs : List Loc) (ls : Array Slot), lp (fun s8 => f7_bestDriver_b4 fu x1 s8.1 s8.2 σ) n s9 = some r → RS γ ad σ s H locs → lh ls 5 [(0, .ref (gS γ 7 0)), (1, .int x1), (2, va_rf (Option.map (Ad γ ad 3) s9.1)), (3, .int s9.2)] → W p l e (rmo 15 0 0) s m ([.ref (gS γ 7 0), .int a1] : List Value).toArray below meth c H locs cells slots (MQ below (QR γ ad σ (r.map (Ad γ ad 3))) ([.ref (gS γ 7 0), .int a1] : List Value).toArray s 0 0 (gA γ)) (F0 m 4 ls []) := by
    intro x1 n4
    induction n4 with
    | zero => intro s9 cells slots hc1 hc2 H locs ls hw hR hl; exact (lp_zero hw).elim
    | succ n4 ih4 =>
      intro s9 cells slots hc1 hc2 H locs ls hw hR hl
      obtain ⟨o4, hw1, hb4, ho4⟩ := lp_succ hw
      replace hw := hw1
      clear hw1
      obtain ⟨x2, x3⟩ := s9
      replace hw : f7_bestDriver_b4 fu x1 x2 x3 σ = some o4 := hw
      replace hl : lh ls 5 [(0, .ref (gS γ 7 0)), (1, .int x1), (2, va_rf (Option.map (Ad γ ad 3) x2)), (3, .int x3)] := hl
      unfold f7_bestDriver_b4 at hw
      have J56 : ∀ (x2 : (Option Nat)) (x3 : Int32) (cells slots : Nat), cells ≤ 0 → slots ≤ 0 → ∀ (H : Heap) (locs : List Loc) (ls : Array Slot), f7_bestDriver_j56 fu x1 x2 x3 σ = some o4 → RS γ ad σ s H locs → lh ls 5 [(0, .ref (gS γ 7 0)), (1, .int x1), (2, va_rf (Option.map (Ad γ ad 3) x2)), (3, .int x3)] → W p l e (rmo 15 0 0) s m ([.ref (gS γ 7 0), .int a1] : List Value).toArray below meth c H locs cells slots (MQ below (QR γ ad σ (r.map (Ad γ ad 3))) ([.ref (gS γ 7 0), .int a1] : List Value).toArray s 0 0 (gA γ)) (F0 m 56 ls []) := by
        intro x2 x3 cells slots hc1 hc2 H locs ls hw hR hl
        unfold f7_bestDriver_j56 at hw
        refine rw_iinc (k := 3) (v := (x3 + 1)) (lv' := [(3, .int (x3 + 1)), (0, .ref (gS γ 7 0)), (1, .int x1), (2, va_rf (Option.map (Ad γ ad 3) x2))]) hX hl rfl (congrArg (fun q => x3 + q) (show Int32.ofInt 1 = 1 by decide)) (by decide) rfl dX6_bestDriver_56 (fun ls hl1 => ?_)
        replace hl := hl1
        clear hl1
        refine lv_goto (tgt := 4) hX.1.1 hX.1.2.1 dX6_bestDriver_59 (by decide) ?_
        exact ih4 _ _ _ (by omega) (by omega) _ _ _ (lp_back hw hb4) hR (lh_sub hl [1, 2, 3, 0] rfl)
      have J53 : ∀ (x3 : Int32) (x4 : Nat) (cells slots : Nat), cells ≤ 0 → slots ≤ 0 → ∀ (H : Heap) (locs : List Loc) (ls : Array Slot), f7_bestDriver_j53 fu x1 x3 x4 σ = some o4 → RS γ ad σ s H locs → lh ls 5 [(0, .ref (gS γ 7 0)), (1, .int x1), (3, .int x3), (4, .ref (Ad γ ad 3 x4))] → W p l e (rmo 15 0 0) s m ([.ref (gS γ 7 0), .int a1] : List Value).toArray below meth c H locs cells slots (MQ below (QR γ ad σ (r.map (Ad γ ad 3))) ([.ref (gS γ 7 0), .int a1] : List Value).toArray s 0 0 (gA γ)) (F0 m 53 ls []) := by
        intro x3 x4 cells slots hc1 hc2 H locs ls hw hR hl
        unfold f7_bestDriver_j53 at hw
        refine rw_aload hX hl 3 rfl (Or.inr ⟨_, rfl⟩) dX6_bestDriver_53 ?_
        refine rw_astore_n (lv' := [(2, .ref (Ad γ ad 3 x4)), (0, .ref (gS γ 7 0)), (1, .int x1), (3, .int x3), (4, .ref (Ad γ ad 3 x4))]) hX hl (by decide) rfl (Or.inr ⟨_, rfl⟩) dX6_bestDriver_55 rfl (fun ls hl1 => ?_)
        replace hl := hl1
        clear hl1
        exact J56 (some x4) x3 _ _ (by omega) (by omega) _ _ _ hw hR (lh_sub hl [1, 2, 0, 3] rfl)
      refine rw_iload_n hX hl 3 rfl dX6_bestDriver_4 rfl ?_
      refine rw_aload_n hX hl 0 rfl (Or.inr ⟨_, rfl⟩) dX6_bestDriver_5 rfl ?_
      refine rw_get hX hR 7 2 0 (C := RX6) (T := TX6) (N := 11) rfl (by decide) (Nat.le_of_ble_eq_true rfl) rfl (v := .ref (gS γ 0 2)) rfl uw_X6 gw_151 rfl dX6_bestDriver_6 ?_
      refine rw_cVi hX hR pk_lsize (mc := 0) (ms := 0) ⟨rfl, rfl, Nat.le_of_ble_eq_true rfl, Nat.le_of_ble_eq_true rfl⟩ (As := []) (rest := [.int x3]) rfl (C_lsize l γ ad σ 2 (by decide)) gw_209 gw_210 gw_211 (rs_recvL hX hR 2 (by decide)) rfl hl.1 (ca1 rfl ca0) (Nat.le_of_ble_eq_true rfl) dX6_bestDriver_9 ⟨(show cells + 0 ≤ 0 by omega), (show slots + 0 ≤ 0 by omega)⟩ (fun H locs hR1 => ?_)
      replace hR := hR1
      clear hR1
      refine lv_icmp_ge (x := x3) (y := (nI (gl σ 2).length)) (tgt := 62) hX.1.1 hX.1.2.1 dX6_bestDriver_12 (by decide) (fun c1 => ?_) (fun c1 => ?_)
      · replace hw := if_t hw c1
        replace hw := lp_out hw ho4
        refine rw_aload_n hX hl 2 rfl (va_rf_or _) dX6_bestDriver_62 rfl ?_
        refine W.widen (k := 0) (n := 0) (by omega) (by omega) ?_
        exact rq_q hX hR hr (k := 3) hw dX6_bestDriver_63 hlocks
      · replace hw := if_f hw c1
        refine rw_aload_n hX hl 0 rfl (Or.inr ⟨_, rfl⟩) dX6_bestDriver_15 rfl ?_
        refine rw_get hX hR 7 2 0 (C := RX6) (T := TX6) (N := 11) rfl (by decide) (Nat.le_of_ble_eq_true rfl) rfl (v := .ref (gS γ 0 2)) rfl uw_X6 gw_151 rfl dX6_bestDriver_16 ?_
        refine rw_iload_n hX hl 3 rfl dX6_bestDriver_19 rfl ?_
        obtain ⟨h3, k2, h4, h5, hw1⟩ := lg_some hw
        replace hw := hw1
        clear hw1
        refine rw_cVq (r := some k2) (k := 3) hX hR pk_lget (mc := 0) (ms := 0) ⟨rfl, rfl, Nat.le_of_ble_eq_true rfl, Nat.le_of_ble_eq_true rfl⟩ (As := [.int x3]) (rest := []) rfl (C_lget l γ ad σ 2 x3 k2 (by decide) h3 h4) gw_281 gw_282 gw_283 (rs_recvL hX hR 2 (by decide)) rfl hl.1 ca0 (Nat.le_of_ble_eq_true rfl) dX6_bestDriver_20 ⟨(show (cells + 0) + 0 ≤ 0 by omega), (show (slots + 0) + 0 ≤ 0 by omega)⟩ (fun H locs hR1 => ?_)
        replace hR := hR1
        clear hR1
        refine va_castS (a := Ad γ ad 3 k2) (nm := RX2) hX.1.1 hX.1.2.1 hX.1.2.2.2.1 (hX.1.2.2.2.2 _ gw_428) (hX.2.1.1 3 (RX2, TX2, 6) rfl).2 (rs_recv hX hR 3 k2 (C := RX2) (T := TX2) (N := 6) rfl (by decide) h5 rfl) dX6_bestDriver_23 ?_
        refine rw_astore (lv' := [(4, .ref (Ad γ ad 3 k2)), (0, .ref (gS γ 7 0)), (1, .int x1), (2, va_rf (Option.map (Ad γ ad 3) x2)), (3, .int x3)]) hX hl (by decide) rfl (Or.inr ⟨_, rfl⟩) dX6_bestDriver_26 (fun ls hl1 => ?_)
        replace hl := hl1
        clear hl1
        refine rw_aload hX hl 0 rfl (Or.inr ⟨_, rfl⟩) dX6_bestDriver_28 ?_
        refine rw_iload_n hX hl 2 rfl dX6_bestDriver_30 rfl ?_
        obtain ⟨v6, g8, hw1⟩ := ob1_some hw
        replace hw := hw1
        clear hw1
        refine rw_cVNi hX hR pk_f3_knows (mc := 0) (ms := 0) ⟨rfl, rfl, (show 1 + 1 ≤ 15 by omega), (show 8 + (2 + 11) + 64 * 1 ≤ 64 * 15 by omega)⟩ (As := [.int x1]) (rest := []) rfl (C_f3_knows l γ ad k2 x1 σ v6 g8) nw_429 gw_431 gs_11 (rs_recv hX hR 3 k2 (C := RX2) (T := TX2) (N := 6) rfl (by decide) h5 rfl) rfl hl.1 ca0 (Nat.le_of_ble_eq_true rfl) dX6_bestDriver_31 ⟨(show ((cells + 0) + 0) + 0 ≤ 0 by omega), (show ((slots + 0) + 0) + 0 ≤ 0 by omega)⟩ (fun H locs hR1 => ?_)
        replace hR := hR1
        clear hR1
        refine rw_ifeqZ (b := v6) (tgt := 56) hX dX6_bestDriver_34 (by decide) (fun c9 => ?_) (fun c9 => ?_)
        · replace hw := if_f hw c9
          exact J56 x2 x3 _ _ (by omega) (by omega) _ _ _ hw hR (lh_sub hl [1, 2, 3, 4] rfl)
        · replace hw := if_t hw c9
          refine rw_aload_n hX hl 3 rfl (va_rf_or _) dX6_bestDriver_37 rfl ?_
          refine rw_ifnull hX (o := x2) (g := Ad γ ad 3) (tgt := 53) dX6_bestDriver_38 (by decide) (fun c10 => ?_) (fun c10 => ?_)
          · replace hw := if_t hw c10
            exact J53 x3 k2 _ _ (by omega) (by omega) _ _ _ hw hR (lh_sub hl [1, 2, 4, 0] rfl)
          · replace hw := if_f hw c10
            refine rw_aload hX hl 0 rfl (Or.inr ⟨_, rfl⟩) dX6_bestDriver_41 ?_
            refine rw_getN hX hR 3 2 k2 (C := RX2) (T := TX2) (N := 6) rfl (by decide) h5 rfl (v := .int (gi σ 302 k2)) rfl uw_X2 nw_544 rfl dX6_bestDriver_43 ?_
            refine rw_aload_n hX hl 3 rfl (va_rf_or _) dX6_bestDriver_46 rfl ?_
            obtain ⟨i11, e12, h13, hw1⟩ := dr_some hw
            replace hw := hw1
            clear hw1
            subst e12
            refine rw_getN hX hR 3 2 i11 (C := RX2) (T := TX2) (N := 6) rfl (by decide) h13 rfl (v := .int (gi σ 302 i11)) rfl uw_X2 nw_544 rfl dX6_bestDriver_47 ?_
            refine lv_icmp_le (x := (gi σ 302 k2)) (y := (gi σ 302 i11)) (tgt := 56) hX.1.1 hX.1.2.1 dX6_bestDriver_50 (by decide) (fun c14 => ?_) (fun c14 => ?_)
            · replace hw := if_t hw c14
              exact J56 (some i11) x3 _ _ (by omega) (by omega) _ _ _ hw hR (lh_sub hl [1, 2, 3, 4] rfl)
            · replace hw := if_f hw c14
              exact J53 x3 k2 _ _ (by omega) (by omega) _ _ _ hw hR (lh_sub hl [1, 2, 4, 0] rfl)
  refine rw_entry (ca1 rfl (ca1 rfl ca0)) (Nat.le_of_ble_eq_true rfl) (fun ls hl1 => ?_)
  replace hl := hl1
  clear hl1
  refine lv_null hX.1.1 hX.1.2.1 dX6_bestDriver_0 ?_
  refine rw_astore_n (lv' := [(2, .null), (0, .ref (gS γ 7 0)), (1, .int a1)]) hX hl (by decide) rfl (Or.inl rfl) dX6_bestDriver_1 rfl (fun ls hl1 => ?_)
  replace hl := hl1
  clear hl1
  refine lv_iconst (v := 0) hX.1.1 hX.1.2.1 dX6_bestDriver_2 (by decide) ?_
  refine rw_istore_n (lv' := [(3, .int 0), (2, .null), (0, .ref (gS γ 7 0)), (1, .int a1)]) hX hl (by decide) rfl dX6_bestDriver_3 rfl (fun ls hl1 => ?_)
  replace hl := hl1
  clear hl1
  exact L4 a1 _ _ _ _ (by omega) (by omega) _ _ _ hw hR (lh_sub hl [2, 3, 1, 0] rfl)
set_option maxHeartbeats 8000000 in
set_option maxRecDepth 100000 in
theorem C_f7_isLacking (l : Launch) (γ : GT) (ad : Nat → Nat → Nat) {fu : Nat} (a0 : (Option Nat)) (σ : St) (r : Bool) (hw : f7_isLacking fu a0 σ = some r) : Met l yX6_isLacking (Cond.code yX6_isLacking cX6_isLacking 1 (Option.some Jvm.ClassFile.FieldType.boolean) :: GW) (rmo 2 0 0) (va_Pc [va_rf (Option.map (Ad γ ad 2) a0)] (RU γ ad σ)) (QI γ ad σ (b2i r)) 0 0 (gA γ) := by
  refine Met.ofW (cc := cX6_isLacking) (maxL := 1) (ret := (Option.some Jvm.ClassFile.FieldType.boolean)) (by decide +kernel) rfl ?_
  intro p e s m args below meth c s₁ B hml hv
  obtain ⟨rfl, hU⟩ := hv
  obtain ⟨hX, hR⟩ := cx_of (own := RX6) B hml rfl hU
  have hr := B.returns
  have hlocks := B.notSynchronized
  have hc0 : (0 : Nat) ≤ 0 := Nat.le_refl 0
  show W p l e (rmo 2 0 0) s m ([va_rf (Option.map (Ad γ ad 2) a0)] : List Value).toArray below meth c s.heap [] 0 0 (MQ below (QI γ ad σ (b2i r)) ([va_rf (Option.map (Ad γ ad 2) a0)] : List Value).toArray s 0 0 (gA γ)) (entryFrame m ([va_rf (Option.map (Ad γ ad 2) a0)] : List Value).toArray 1)
  unfold f7_isLacking at hw
  refine rw_entry (ca1 (rf_cat _) ca0) (Nat.le_of_ble_eq_true rfl) (fun ls hl1 => ?_)
  replace hl := hl1
  clear hl1
  refine rw_aload_n hX hl 0 rfl (va_rf_or _) dX6_isLacking_0 rfl ?_
  refine rw_ifnull hX (o := a0) (g := Ad γ ad 2) (tgt := 15) dX6_isLacking_1 (by decide) (fun c1 => ?_) (fun c1 => ?_)
  · replace hw := if_t hw c1
    refine lv_iconst (v := 0) hX.1.1 hX.1.2.1 dX6_isLacking_15 (by decide) ?_
    exact rq_z hX hR hr (v := false) rfl hw dX6_isLacking_16 hlocks
  · replace hw := if_f hw c1
    refine rw_aload_n hX hl 0 rfl (va_rf_or _) dX6_isLacking_4 rfl ?_
    obtain ⟨i2, e3, h4, hw1⟩ := dr_some hw
    replace hw := hw1
    clear hw1
    subst e3
    obtain ⟨v5, g7, hw1⟩ := ob1_some hw
    replace hw := hw1
    clear hw1
    refine rw_cVNi hX hR pk_f2_isBound (mc := 0) (ms := 0) ⟨rfl, rfl, (show 1 + 1 ≤ 2 by omega), (show 8 + (1 + 11) + 64 * 1 ≤ 64 * 2 by omega)⟩ (As := []) (rest := []) rfl (C_f2_isBound l γ ad i2 σ v5 g7) nw_416 gw_418 gs_8 (rs_recv hX hR 2 i2 (C := RX1) (T := TX1) (N := 18) rfl (by decide) h4 rfl) rfl hl.1 ca0 (Nat.le_of_ble_eq_true rfl) dX6_isLacking_5 ⟨(show 0 + 0 ≤ 0 by omega), (show 0 + 0 ≤ 0 by omega)⟩ (fun H locs hR1 => ?_)
    replace hR := hR1
    clear hR1
    refine rw_ifneZ (b := v5) (tgt := 15) hX dX6_isLacking_8 (by decide) (fun c8 => ?_) (fun c8 => ?_)
    · replace hw := if_t hw c8
      refine lv_iconst (v := 0) hX.1.1 hX.1.2.1 dX6_isLacking_15 (by decide) ?_
      refine W.widen (k := 0) (n := 0) (by omega) (by omega) ?_
      exact rq_z hX hR hr (v := false) rfl hw dX6_isLacking_16 hlocks
    · replace hw := if_f hw c8
      refine lv_iconst (v := 1) hX.1.1 hX.1.2.1 dX6_isLacking_11 (by decide) ?_
      refine lv_goto (tgt := 16) hX.1.1 hX.1.2.1 dX6_isLacking_12 (by decide) ?_
      refine W.widen (k := 0) (n := 0) (by omega) (by omega) ?_
      exact rq_z hX hR hr (v := true) rfl hw dX6_isLacking_16 hlocks
set_option maxHeartbeats 8000000 in
set_option maxRecDepth 100000 in
theorem C_f2_space (l : Launch) (γ : GT) (ad : Nat → Nat → Nat) {fu : Nat} (a0 : Nat) (σ : St) (r : (Option Nat)) (hw : f2_space fu a0 σ = some r) : Met l yX1_space (Cond.code yX1_space cX1_space 2 (Option.some (Jvm.ClassFile.FieldType.object "DriverMoor$Device")) :: GW) (rmo 1 0 0) (va_Pc [.ref (Ad γ ad 2 a0)] (RU γ ad σ)) (QR γ ad σ (r.map (Ad γ ad 2))) 0 0 (gA γ) := by
  refine Met.ofW (cc := cX1_space) (maxL := 2) (ret := (Option.some (Jvm.ClassFile.FieldType.object "DriverMoor$Device"))) (by decide +kernel) rfl ?_
  intro p e s m args below meth c s₁ B hml hv
  obtain ⟨rfl, hU⟩ := hv
  obtain ⟨hX, hR⟩ := cx_of (own := RX1) B hml rfl hU
  have hr := B.returns
  have hlocks := B.notSynchronized
  have hc0 : (0 : Nat) ≤ 0 := Nat.le_refl 0
  show W p l e (rmo 1 0 0) s m ([.ref (Ad γ ad 2 a0)] : List Value).toArray below meth c s.heap [] 0 0 (MQ below (QR γ ad σ (r.map (Ad γ ad 2))) ([.ref (Ad γ ad 2 a0)] : List Value).toArray s 0 0 (gA γ)) (entryFrame m ([.ref (Ad γ ad 2 a0)] : List Value).toArray 2)
  unfold f2_space at hw
  have L5 : ∀ (n : Nat) (s9 : (Option Nat)) (cells slots : Nat), cells ≤ 0 → slots ≤ 0 → ∀ (H : Heap) (locs : List Loc) (ls : Array Slot), lp (fun s8 => f2_space_b5 fu s8 σ) n s9 = some r → RS γ ad σ s H locs → lh ls 2 [(1, va_rf (Option.map (Ad γ ad 2) s9))] → W p l e (rmo 1 0 0) s m ([.ref (Ad γ ad 2 a0)] : List Value).toArray below meth c H locs cells slots (MQ below (QR γ ad σ (r.map (Ad γ ad 2))) ([.ref (Ad γ ad 2 a0)] : List Value).toArray s 0 0 (gA γ)) (F0 m 5 ls []) := by
    intro n5
    induction n5 with
    | zero => intro s9 cells slots hc1 hc2 H locs ls hw hR hl; exact (lp_zero hw).elim
    | succ n5 ih5 =>
      intro x1 cells slots hc1 hc2 H locs ls hw hR hl
      obtain ⟨o5, hw1, hb5, ho5⟩ := lp_succ hw
      replace hw := hw1
      clear hw1
      replace hw : f2_space_b5 fu x1 σ = some o5 := hw
      replace hl : lh ls 2 [(1, va_rf (Option.map (Ad γ ad 2) x1))] := hl
      unfold f2_space_b5 at hw
      refine rw_aload_n hX hl 0 rfl (va_rf_or _) dX1_space_5 rfl ?_
      refine rw_ifnull hX (o := x1) (g := Ad γ ad 2) (tgt := 27) dX1_space_6 (by decide) (fun c4 => ?_) (fun c4 => ?_)
      · replace hw := if_t hw c4
        replace hw := lp_out hw ho5
        refine lv_null hX.1.1 hX.1.2.1 dX1_space_27 ?_
        refine W.widen (k := 0) (n := 0) (by omega) (by omega) ?_
        exact rq_q hX hR hr (k := 2) hw dX1_space_28 hlocks
      · replace hw := if_f hw c4
        refine rw_aload_n hX hl 0 rfl (va_rf_or _) dX1_space_9 rfl ?_
        obtain ⟨i5, e6, h7, hw1⟩ := dr_some hw
        replace hw := hw1
        clear hw1
        subst e6
        refine rw_get hX hR 2 11 i5 (C := RX1) (T := TX1) (N := 18) rfl (by decide) h7 rfl (v := .int (gi σ 211 i5)) rfl uw_X1 gw_362 rfl dX1_space_10 ?_
        refine lv_iconst (v := (-1)) hX.1.1 hX.1.2.1 dX1_space_13 (by decide) ?_
        refine lv_icmp_eq (x := (gi σ 211 i5)) (y := (-1)) (tgt := 19) hX.1.1 hX.1.2.1 dX1_space_14 (by decide) (fun c8 => ?_) (fun c8 => ?_)
        · replace hw := if_t hw c8
          refine rw_aload_n hX hl 0 rfl (Or.inr ⟨_, rfl⟩) dX1_space_19 rfl ?_
          obtain ⟨p9, q10⟩ : ∃ o, gp σ 205 i5 = o := ⟨_, rfl⟩
          replace hw := lt_eq hw q10
          refine rw_get hX hR 2 5 i5 (C := RX1) (T := TX1) (N := 18) rfl (by decide) h7 rfl (v := va_rf (Option.map (Ad γ ad 2) p9)) (by rw [← q10]; rfl) uw_X1 gw_352 rfl dX1_space_20 ?_
          refine rw_astore_n (lv' := [(1, va_rf (Option.map (Ad γ ad 2) p9))]) hX hl (by decide) rfl (va_rf_or _) dX1_space_23 rfl (fun ls hl1 => ?_)
          replace hl := hl1
          clear hl1
          refine lv_goto (tgt := 5) hX.1.1 hX.1.2.1 dX1_space_24 (by decide) ?_
          exact ih5 _ _ _ (by omega) (by omega) _ _ _ (lp_back hw hb5) hR (lh_sub hl [0] rfl)
        · replace hw := if_f hw c8
          replace hw := lp_out hw ho5
          refine rw_aload_n hX hl 0 rfl (Or.inr ⟨_, rfl⟩) dX1_space_17 rfl ?_
          refine W.widen (k := 0) (n := 0) (by omega) (by omega) ?_
          exact rq_q hX hR hr (k := 2) hw dX1_space_18 hlocks
  refine rw_entry (ca1 rfl ca0) (Nat.le_of_ble_eq_true rfl) (fun ls hl1 => ?_)
  replace hl := hl1
  clear hl1
  refine rw_aload_n hX hl 0 rfl (Or.inr ⟨_, rfl⟩) dX1_space_0 rfl ?_
  obtain ⟨h1, hw1⟩ := ck_lt hw
  replace hw := hw1
  clear hw1
  obtain ⟨p2, q3⟩ : ∃ o, gp σ 205 a0 = o := ⟨_, rfl⟩
  replace hw := lt_eq hw q3
  refine rw_get hX hR 2 5 a0 (C := RX1) (T := TX1) (N := 18) rfl (by decide) h1 rfl (v := va_rf (Option.map (Ad γ ad 2) p2)) (by rw [← q3]; rfl) uw_X1 gw_352 rfl dX1_space_1 ?_
  refine rw_astore_n (lv' := [(1, va_rf (Option.map (Ad γ ad 2) p2)), (0, .ref (Ad γ ad 2 a0))]) hX hl (by decide) rfl (va_rf_or _) dX1_space_4 rfl (fun ls hl1 => ?_)
  replace hl := hl1
  clear hl1
  exact L5 _ _ _ _ (by omega) (by omega) _ _ _ hw hR (lh_sub hl [0] rfl)
set_option maxHeartbeats 8000000 in
set_option maxRecDepth 100000 in
theorem C_f7_isRoomAt (l : Launch) (γ : GT) (ad : Nat → Nat → Nat) {fu : Nat} (a1 : Int32) (a2 : Int32) (a3 : (Option Nat)) (σ : St) (r : Bool) (hw : f7_isRoomAt fu a1 a2 a3 σ = some r) : Met l yX6_isRoomAt (Cond.code yX6_isRoomAt cX6_isRoomAt 7 (Option.some Jvm.ClassFile.FieldType.boolean) :: GW) (rmo 15 0 0) (va_Pc [.ref (gS γ 7 0), .int a1, .int a2, va_rf (Option.map (Ad γ ad 2) a3)] (RU γ ad σ)) (QI γ ad σ (b2i r)) 0 0 (gA γ) := by
  refine Met.ofW (cc := cX6_isRoomAt) (maxL := 7) (ret := (Option.some Jvm.ClassFile.FieldType.boolean)) (by decide +kernel) rfl ?_
  intro p e s m args below meth c s₁ B hml hv
  obtain ⟨rfl, hU⟩ := hv
  obtain ⟨hX, hR⟩ := cx_of (own := RX6) B hml rfl hU
  have hr := B.returns
  have hlocks := B.notSynchronized
  have hc0 : (0 : Nat) ≤ 0 := Nat.le_refl 0
  show W p l e (rmo 15 0 0) s m ([.ref (gS γ 7 0), .int a1, .int a2, va_rf (Option.map (Ad γ ad 2) a3)] : List Value).toArray below meth c s.heap [] 0 0 (MQ below (QI γ ad σ (b2i r)) ([.ref (gS γ 7 0), .int a1, .int a2, va_rf (Option.map (Ad γ ad 2) a3)] : List Value).toArray s 0 0 (gA γ)) (entryFrame m ([.ref (gS γ 7 0), .int a1, .int a2, va_rf (Option.map (Ad γ ad 2) a3)] : List Value).toArray 7)
  unfold f7_isRoomAt at hw
  have L3 : ∀ (x1 : Int32) (x2 : Int32) (x3 : (Option Nat)) (n : Nat) (s9 : Int32) (cells slots : Nat), cells ≤ 0 → slots ≤ 0 → ∀ (H : Heap) (locs : List Loc) (ls : Array Slot), lp (fun s8 => f7_isRoomAt_b3 fu x1 x2 x3 s8 σ) n s9 = some r → RS γ ad σ s H locs → lh ls 7 [(0, .ref (gS γ 7 0)), (1, .int x1), (2, .int x2), (3, va_rf (Option.map (Ad γ ad 2) x3)), (4, .int s9)] → W p l e (rmo 15 0 0) s m ([.ref (gS γ 7 0), .int a1, .int a2, va_rf (Option.map (Ad γ ad 2) a3)] : List Value).toArray below meth c H locs cells slots (MQ below (QI γ ad σ (b2i r)) ([.ref (gS γ 7 0), .int a1, .int a2, va_rf (Option.map (Ad γ ad 2) a3)] : List Value).toArray s 0 0 (gA γ)) (F0 m 3 ls []) := by
    intro x1 x2 x3 n3
    induction n3 with
    | zero => intro s9 cells slots hc1 hc2 H locs ls hw hR hl; exact (lp_zero hw).elim
    | succ n3 ih3 =>
      intro x4 cells slots hc1 hc2 H locs ls hw hR hl
      obtain ⟨o3, hw1, hb3, ho3⟩ := lp_succ hw
      replace hw := hw1
      clear hw1
      replace hw : f7_isRoomAt_b3 fu x1 x2 x3 x4 σ = some o3 := hw
      replace hl : lh ls 7 [(0, .ref (gS γ 7 0)), (1, .int x1), (2, .int x2), (3, va_rf (Option.map (Ad γ ad 2) x3)), (4, .int x4)] := hl
      unfold f7_isRoomAt_b3 at hw
      have J86 : ∀ (x4 : Int32) (cells slots : Nat), cells ≤ 0 → slots ≤ 0 → ∀ (H : Heap) (locs : List Loc) (ls : Array Slot), f7_isRoomAt_j86 fu x1 x2 x3 x4 σ = some o3 → RS γ ad σ s H locs → lh ls 7 [(0, .ref (gS γ 7 0)), (1, .int x1), (2, .int x2), (3, va_rf (Option.map (Ad γ ad 2) x3)), (4, .int x4)] → W p l e (rmo 15 0 0) s m ([.ref (gS γ 7 0), .int a1, .int a2, va_rf (Option.map (Ad γ ad 2) a3)] : List Value).toArray below meth c H locs cells slots (MQ below (QI γ ad σ (b2i r)) ([.ref (gS γ 7 0), .int a1, .int a2, va_rf (Option.map (Ad γ ad 2) a3)] : List Value).toArray s 0 0 (gA γ)) (F0 m 86 ls []) := by
        intro x4 cells slots hc1 hc2 H locs ls hw hR hl
        unfold f7_isRoomAt_j86 at hw
        refine rw_iinc (k := 4) (v := (x4 + 1)) (lv' := [(4, .int (x4 + 1)), (0, .ref (gS γ 7 0)), (1, .int x1), (2, .int x2), (3, va_rf (Option.map (Ad γ ad 2) x3))]) hX hl rfl (congrArg (fun q => x4 + q) (show Int32.ofInt 1 = 1 by decide)) (by decide) rfl dX6_isRoomAt_86 (fun ls hl1 => ?_)
        replace hl := hl1
        clear hl1
        refine lv_goto (tgt := 3) hX.1.1 hX.1.2.1 dX6_isRoomAt_89 (by decide) ?_
        exact ih3 _ _ _ (by omega) (by omega) _ _ _ (lp_back hw hb3) hR (lh_sub hl [1, 2, 3, 4, 0] rfl)
      have J60 : ∀ (x4 : Int32) (x5 : Nat) (y0 : Bool) (cells slots : Nat), cells ≤ 0 → slots ≤ 0 → ∀ (H : Heap) (locs : List Loc) (ls : Array Slot), f7_isRoomAt_j60 fu x1 x2 x3 x4 x5 y0 σ = some o3 → RS γ ad σ s H locs → lh ls 7 [(0, .ref (gS γ 7 0)), (1, .int x1), (2, .int x2), (3, va_rf (Option.map (Ad γ ad 2) x3)), (4, .int x4), (5, .ref (Ad γ ad 2 x5))] → W p l e (rmo 15 0 0) s m ([.ref (gS γ 7 0), .int a1, .int a2, va_rf (Option.map (Ad γ ad 2) a3)] : List Value).toArray below meth c H locs cells slots (MQ below (QI γ ad σ (b2i r)) ([.ref (gS γ 7 0), .int a1, .int a2, va_rf (Option.map (Ad γ ad 2) a3)] : List Value).toArray s 0 0 (gA γ)) (F0 m 60 ls [.int (b2i y0)]) := by
        intro x4 x5 y0 cells slots hc1 hc2 H locs ls hw hR hl
        unfold f7_isRoomAt_j60 at hw
        refine rw_istore (lv' := [(6, .int (b2i y0)), (0, .ref (gS γ 7 0)), (1, .int x1), (2, .int x2), (3, va_rf (Option.map (Ad γ ad 2) x3)), (4, .int x4), (5, .ref (Ad γ ad 2 x5))]) hX hl (by decide) rfl dX6_isRoomAt_60 (fun ls hl1 => ?_)
        replace hl := hl1
        clear hl1
        refine rw_aload hX hl 6 rfl (Or.inr ⟨_, rfl⟩) dX6_isRoomAt_62 ?_
        obtain ⟨h7, hw1⟩ := ck_lt hw
        replace hw := hw1
        clear hw1
        refine rw_getN hX hR 2 2 x5 (C := RX1) (T := TX1) (N := 18) rfl (by decide) h7 rfl (v := .int (gi σ 202 x5)) rfl uw_X1 nw_346 rfl dX6_isRoomAt_64 ?_
        refine lv_if_le (x := (gi σ 202 x5)) (tgt := 86) hX.1.1 hX.1.2.1 dX6_isRoomAt_67 (by decide) (fun c8 => ?_) (fun c8 => ?_)
        · replace hw := if_t hw c8
          exact J86 x4 _ _ (by omega) (by omega) _ _ _ hw hR (lh_sub hl [1, 2, 3, 4, 5] rfl)
        · replace hw := if_f hw c8
          refine rw_iload hX hl 0 rfl dX6_isRoomAt_70 ?_
          refine rw_ifeqZ (b := y0) (tgt := 86) hX dX6_isRoomAt_72 (by decide) (fun c9 => ?_) (fun c9 => ?_)
          · replace hw := if_f hw c9
            exact J86 x4 _ _ (by omega) (by omega) _ _ _ hw hR (lh_sub hl [1, 2, 3, 4, 5] rfl)
          · replace hw := if_t hw c9
            refine rw_aload hX hl 6 rfl (Or.inr ⟨_, rfl⟩) dX6_isRoomAt_75 ?_
            obtain ⟨v10, g12, hw1⟩ := ob1_some hw
            replace hw := hw1
            clear hw1
            refine rw_cVNq hX hR pk_f2_space (mc := 0) (ms := 0) ⟨rfl, rfl, (show 1 + 1 ≤ 15 by omega), (show 8 + (2 + 11) + 64 * 1 ≤ 64 * 15 by omega)⟩ (As := []) (rest := []) rfl (C_f2_space l γ ad x5 σ v10 g12) nw_441 gw_443 gs_13 (rs_recv hX hR 2 x5 (C := RX1) (T := TX1) (N := 18) rfl (by decide) h7 rfl) rfl hl.1 ca0 (Nat.le_of_ble_eq_true rfl) dX6_isRoomAt_77 ⟨(show cells + 0 ≤ 0 by omega), (show slots + 0 ≤ 0 by omega)⟩ (fun H locs hR1 => ?_)
            replace hR := hR1
            clear hR1
            refine rw_aload_n hX hl 4 rfl (va_rf_or _) dX6_isRoomAt_80 rfl ?_
            obtain ⟨h13, hw1⟩ := ck_some hw
            replace hw := hw1
            clear hw1
            obtain ⟨h14, hw1⟩ := ck_some hw
            replace hw := hw1
            clear hw1
            refine rw_acmpne hX hR 2 (by decide) (o1 := v10) (o2 := x3) h13 h14 (tgt := 86) dX6_isRoomAt_81 (by decide) (fun c15 => ?_) (fun c15 => ?_)
            · replace hw := if_f hw c15
              exact J86 x4 _ _ (by omega) (by omega) _ _ _ hw hR (lh_sub hl [1, 2, 3, 4, 5] rfl)
            · replace hw := if_t hw c15
              replace hw := lp_out hw ho3
              refine lv_iconst (v := 0) hX.1.1 hX.1.2.1 dX6_isRoomAt_84 (by decide) ?_
              refine W.widen (k := 0) (n := 0) (by omega) (by omega) ?_
              exact rq_z hX hR hr (v := false) rfl hw dX6_isRoomAt_85 hlocks
      refine rw_iload hX hl 4 rfl dX6_isRoomAt_3 ?_
      refine rw_aload_n hX hl 0 rfl (Or.inr ⟨_, rfl⟩) dX6_isRoomAt_5 rfl ?_
      refine rw_get hX hR 7 1 0 (C := RX6) (T := TX6) (N := 11) rfl (by decide) (Nat.le_of_ble_eq_true rfl) rfl (v := .ref (gS γ 0 1)) rfl uw_X6 gw_150 rfl dX6_isRoomAt_6 ?_
      refine rw_cVi hX hR pk_lsize (mc := 0) (ms := 0) ⟨rfl, rfl, Nat.le_of_ble_eq_true rfl, Nat.le_of_ble_eq_true rfl⟩ (As := []) (rest := [.int x4]) rfl (C_lsize l γ ad σ 1 (by decide)) gw_209 gw_210 gw_211 (rs_recvL hX hR 1 (by decide)) rfl hl.1 (ca1 rfl ca0) (Nat.le_of_ble_eq_true rfl) dX6_isRoomAt_9 ⟨(show cells + 0 ≤ 0 by omega), (show slots + 0 ≤ 0 by omega)⟩ (fun H locs hR1 => ?_)
      replace hR := hR1
      clear hR1
      refine lv_icmp_ge (x := x4) (y := (nI (gl σ 1).length)) (tgt := 92) hX.1.1 hX.1.2.1 dX6_isRoomAt_12 (by decide) (fun c1 => ?_) (fun c1 => ?_)
      · replace hw := if_t hw c1
        replace hw := lp_out hw ho3
        refine lv_iconst (v := 1) hX.1.1 hX.1.2.1 dX6_isRoomAt_92 (by decide) ?_
        refine W.widen (k := 0) (n := 0) (by omega) (by omega) ?_
        exact rq_z hX hR hr (v := true) rfl hw dX6_isRoomAt_93 hlocks
      · replace hw := if_f hw c1
        refine rw_aload_n hX hl 0 rfl (Or.inr ⟨_, rfl⟩) dX6_isRoomAt_15 rfl ?_
        refine rw_get hX hR 7 1 0 (C := RX6) (T := TX6) (N := 11) rfl (by decide) (Nat.le_of_ble_eq_true rfl) rfl (v := .ref (gS γ 0 1)) rfl uw_X6 gw_150 rfl dX6_isRoomAt_16 ?_
        refine rw_iload hX hl 4 rfl dX6_isRoomAt_19 ?_
        obtain ⟨h3, k2, h4, h5, hw1⟩ := lg_some hw
        replace hw := hw1
        clear hw1
        refine rw_cVq (r := some k2) (k := 2) hX hR pk_lget (mc := 0) (ms := 0) ⟨rfl, rfl, Nat.le_of_ble_eq_true rfl, Nat.le_of_ble_eq_true rfl⟩ (As := [.int x4]) (rest := []) rfl (C_lget l γ ad σ 1 x4 k2 (by decide) h3 h4) gw_281 gw_282 gw_283 (rs_recvL hX hR 1 (by decide)) rfl hl.1 ca0 (Nat.le_of_ble_eq_true rfl) dX6_isRoomAt_21 ⟨(show (cells + 0) + 0 ≤ 0 by omega), (show (slots + 0) + 0 ≤ 0 by omega)⟩ (fun H locs hR1 => ?_)
        replace hR := hR1
        clear hR1
        refine va_castS (a := Ad γ ad 2 k2) (nm := RX1) hX.1.1 hX.1.2.1 hX.1.2.2.2.1 (hX.1.2.2.2.2 _ gw_295) (hX.2.1.1 2 (RX1, TX1, 18) rfl).2 (rs_recv hX hR 2 k2 (C := RX1) (T := TX1) (N := 18) rfl (by decide) h5 rfl) dX6_isRoomAt_24 ?_
        refine rw_astore (lv' := [(5, .ref (Ad γ ad 2 k2)), (0, .ref (gS γ 7 0)), (1, .int x1), (2, .int x2), (3, va_rf (Option.map (Ad γ ad 2) x3)), (4, .int x4)]) hX hl (by decide) rfl (Or.inr ⟨_, rfl⟩) dX6_isRoomAt_27 (fun ls hl1 => ?_)
        replace hl := hl1
        clear hl1
        refine rw_aload hX hl 0 rfl (Or.inr ⟨_, rfl⟩) dX6_isRoomAt_29 ?_
        refine rw_getN hX hR 2 11 k2 (C := RX1) (T := TX1) (N := 18) rfl (by decide) h5 rfl (v := .int (gi σ 211 k2)) rfl uw_X1 nw_363 rfl dX6_isRoomAt_31 ?_
        refine rw_iload_n hX hl 2 rfl dX6_isRoomAt_34 rfl ?_
        refine rw_iload_n hX hl 3 rfl dX6_isRoomAt_35 rfl ?_
        refine lv_iadd (x := x1) (y := x2) hX.1.1 hX.1.2.1 dX6_isRoomAt_36 ?_
        refine lv_icmp_ge (x := (gi σ 211 k2)) (y := (x1 + x2)) (tgt := 59) hX.1.1 hX.1.2.1 dX6_isRoomAt_37 (by decide) (fun c6 => ?_) (fun c6 => ?_)
        · replace hw := if_t hw c6
          refine lv_iconst (v := 0) hX.1.1 hX.1.2.1 dX6_isRoomAt_59 (by decide) ?_
          exact J60 x4 k2 false _ _ (by omega) (by omega) _ _ _ hw hR (lh_sub hl [1, 2, 3, 4, 5, 0] rfl)
        · replace hw := if_f hw c6
          refine rw_iload_n hX hl 2 rfl dX6_isRoomAt_40 rfl ?_
          refine rw_aload hX hl 0 rfl (Or.inr ⟨_, rfl⟩) dX6_isRoomAt_41 ?_
          refine rw_getN hX hR 2 11 k2 (C := RX1) (T := TX1) (N := 18) rfl (by decide) h5 rfl (v := .int (gi σ 211 k2)) rfl uw_X1 nw_363 rfl dX6_isRoomAt_43 ?_
          refine rw_aload hX hl 0 rfl (Or.inr ⟨_, rfl⟩) dX6_isRoomAt_46 ?_
          refine rw_getN hX hR 2 2 k2 (C := RX1) (T := TX1) (N := 18) rfl (by decide) h5 rfl (v := .int (gi σ 202 k2)) rfl uw_X1 nw_346 rfl dX6_isRoomAt_48 ?_
          refine lv_iadd (x := (gi σ 211 k2)) (y := (gi σ 202 k2)) hX.1.1 hX.1.2.1 dX6_isRoomAt_51 ?_
          refine lv_icmp_ge (x := x1) (y := ((gi σ 211 k2) + (gi σ 202 k2))) (tgt := 59) hX.1.1 hX.1.2.1 dX6_isRoomAt_52 (by decide) (fun c16 => ?_) (fun c16 => ?_)
          · replace hw := if_t hw c16
            refine lv_iconst (v := 0) hX.1.1 hX.1.2.1 dX6_isRoomAt_59 (by decide) ?_
            exact J60 x4 k2 false _ _ (by omega) (by omega) _ _ _ hw hR (lh_sub hl [1, 2, 3, 4, 5, 0] rfl)
          · replace hw := if_f hw c16
            refine lv_iconst (v := 1) hX.1.1 hX.1.2.1 dX6_isRoomAt_55 (by decide) ?_
            refine lv_goto (tgt := 60) hX.1.1 hX.1.2.1 dX6_isRoomAt_56 (by decide) ?_
            exact J60 x4 k2 true _ _ (by omega) (by omega) _ _ _ hw hR (lh_sub hl [1, 2, 3, 4, 5, 0] rfl)
  refine rw_entry (ca1 rfl (ca1 rfl (ca1 rfl (ca1 (rf_cat _) ca0)))) (Nat.le_of_ble_eq_true rfl) (fun ls hl1 => ?_)
  replace hl := hl1
  clear hl1
  refine lv_iconst (v := 0) hX.1.1 hX.1.2.1 dX6_isRoomAt_0 (by decide) ?_
  refine rw_istore (lv' := [(4, .int 0), (0, .ref (gS γ 7 0)), (1, .int a1), (2, .int a2), (3, va_rf (Option.map (Ad γ ad 2) a3))]) hX hl (by decide) rfl dX6_isRoomAt_1 (fun ls hl1 => ?_)
  replace hl := hl1
  clear hl1
  exact L3 a1 a2 a3 _ _ _ _ (by omega) (by omega) _ _ _ hw hR (lh_sub hl [1, 2, 3, 4, 0] rfl)
set_option maxHeartbeats 8000000 in
set_option maxRecDepth 100000 in
theorem C_f7_freePlace (l : Launch) (γ : GT) (ad : Nat → Nat → Nat) {fu : Nat} (a1 : (Option Nat)) (σ : St) (r : Int32) (hw : f7_freePlace fu a1 σ = some r) : Met l yX6_freePlace (Cond.code yX6_freePlace cX6_freePlace 6 (Option.some Jvm.ClassFile.FieldType.int) :: GW) (rmo 16 0 0) (va_Pc [.ref (gS γ 7 0), va_rf (Option.map (Ad γ ad 2) a1)] (RU γ ad σ)) (QI γ ad σ r) 0 0 (gA γ) := by
  refine Met.ofW (cc := cX6_freePlace) (maxL := 6) (ret := (Option.some Jvm.ClassFile.FieldType.int)) (by decide +kernel) rfl ?_
  intro p e s m args below meth c s₁ B hml hv
  obtain ⟨rfl, hU⟩ := hv
  obtain ⟨hX, hR⟩ := cx_of (own := RX6) B hml rfl hU
  have hr := B.returns
  have hlocks := B.notSynchronized
  have hc0 : (0 : Nat) ≤ 0 := Nat.le_refl 0
  show W p l e (rmo 16 0 0) s m ([.ref (gS γ 7 0), va_rf (Option.map (Ad γ ad 2) a1)] : List Value).toArray below meth c s.heap [] 0 0 (MQ below (QI γ ad σ r) ([.ref (gS γ 7 0), va_rf (Option.map (Ad γ ad 2) a1)] : List Value).toArray s 0 0 (gA γ)) (entryFrame m ([.ref (gS γ 7 0), va_rf (Option.map (Ad γ ad 2) a1)] : List Value).toArray 6)
  unfold f7_freePlace at hw
  have L41 : ∀ (x1 : (Option Nat)) (x2 : (Option Nat)) (x4 : Int32) (n : Nat) (s9 : Int32) (cells slots : Nat), cells ≤ 0 → slots ≤ 0 → ∀ (H : Heap) (locs : List Loc) (ls : Array Slot), lp (fun s8 => f7_freePlace_b41 fu x1 x2 x4 s8 σ) n s9 = some r → RS γ ad σ s H locs → lh ls 6 [(0, .ref (gS γ 7 0)), (1, va_rf (Option.map (Ad γ ad 2) x1)), (2, va_rf (Option.map (Ad γ ad 2) x2)), (4, .int x4), (5, .int s9)] → W p l e (rmo 16 0 0) s m ([.ref (gS γ 7 0), va_rf (Option.map (Ad γ ad 2) a1)] : List Value).toArray below meth c H locs cells slots (MQ below (QI γ ad σ r) ([.ref (gS γ 7 0), va_rf (Option.map (Ad γ ad 2) a1)] : List Value).toArray s 0 0 (gA γ)) (F0 m 41 ls []) := by
    intro x1 x2 x4 n41
    induction n41 with
    | zero => intro s9 cells slots hc1 hc2 H locs ls hw hR hl; exact (lp_zero hw).elim
    | succ n41 ih41 =>
      intro x5 cells slots hc1 hc2 H locs ls hw hR hl
      obtain ⟨o41, hw1, hb41, ho41⟩ := lp_succ hw
      replace hw := hw1
      clear hw1
      replace hw : f7_freePlace_b41 fu x1 x2 x4 x5 σ = some o41 := hw
      replace hl : lh ls 6 [(0, .ref (gS γ 7 0)), (1, va_rf (Option.map (Ad γ ad 2) x1)), (2, va_rf (Option.map (Ad γ ad 2) x2)), (4, .int x4), (5, .int x5)] := hl
      unfold f7_freePlace_b41 at hw
      have J82 : ∀ (x5 : Int32) (cells slots : Nat), cells ≤ 0 → slots ≤ 0 → ∀ (H : Heap) (locs : List Loc) (ls : Array Slot), f7_freePlace_j82 fu x1 x2 x4 x5 σ = some o41 → RS γ ad σ s H locs → lh ls 6 [(0, .ref (gS γ 7 0)), (1, va_rf (Option.map (Ad γ ad 2) x1)), (2, va_rf (Option.map (Ad γ ad 2) x2)), (4, .int x4), (5, .int x5)] → W p l e (rmo 16 0 0) s m ([.ref (gS γ 7 0), va_rf (Option.map (Ad γ ad 2) a1)] : List Value).toArray below meth c H locs cells slots (MQ below (QI γ ad σ r) ([.ref (gS γ 7 0), va_rf (Option.map (Ad γ ad 2) a1)] : List Value).toArray s 0 0 (gA γ)) (F0 m 82 ls []) := by
        intro x5 cells slots hc1 hc2 H locs ls hw hR hl
        unfold f7_freePlace_j82 at hw
        refine rw_iinc (k := 4) (v := (x5 + 1)) (lv' := [(5, .int (x5 + 1)), (0, .ref (gS γ 7 0)), (1, va_rf (Option.map (Ad γ ad 2) x1)), (2, va_rf (Option.map (Ad γ ad 2) x2)), (4, .int x4)]) hX hl rfl (congrArg (fun q => x5 + q) (show Int32.ofInt 1 = 1 by decide)) (by decide) rfl dX6_freePlace_82 (fun ls hl1 => ?_)
        replace hl := hl1
        clear hl1
        refine lv_goto (tgt := 41) hX.1.1 hX.1.2.1 dX6_freePlace_85 (by decide) ?_
        exact ih41 _ _ _ (by omega) (by omega) _ _ _ (lp_back hw hb41) hR (lh_sub hl [1, 2, 3, 4, 0] rfl)
      refine rw_iload hX hl 4 rfl dX6_freePlace_41 ?_
      refine rw_aload_n hX hl 1 rfl (va_rf_or _) dX6_freePlace_43 rfl ?_
      obtain ⟨i15, e16, h17, hw1⟩ := dr_some hw
      replace hw := hw1
      clear hw1
      subst e16
      refine rw_getN hX hR 2 2 i15 (C := RX1) (T := TX1) (N := 18) rfl (by decide) h17 rfl (v := .int (gi σ 202 i15)) rfl uw_X1 nw_346 rfl dX6_freePlace_44 ?_
      refine lv_iadd (x := x5) (y := (gi σ 202 i15)) hX.1.1 hX.1.2.1 dX6_freePlace_47 ?_
      refine rw_iload hX hl 3 rfl dX6_freePlace_48 ?_
      refine lv_icmp_gt (x := (x5 + (gi σ 202 i15))) (y := x4) (tgt := 88) hX.1.1 hX.1.2.1 dX6_freePlace_50 (by decide) (fun c18 => ?_) (fun c18 => ?_)
      · replace hw := if_t hw c18
        replace hw := lp_out hw ho41
        refine lv_iconst (v := (-1)) hX.1.1 hX.1.2.1 dX6_freePlace_88 (by decide) ?_
        refine W.widen (k := 0) (n := 0) (by omega) (by omega) ?_
        exact rq_i hX hR hr hw dX6_freePlace_89 hlocks
      · replace hw := if_f hw c18
        refine rw_iload hX hl 4 rfl dX6_freePlace_53 ?_
        refine rw_aload_n hX hl 1 rfl (Or.inr ⟨_, rfl⟩) dX6_freePlace_55 rfl ?_
        refine rw_getN hX hR 2 2 i15 (C := RX1) (T := TX1) (N := 18) rfl (by decide) h17 rfl (v := .int (gi σ 202 i15)) rfl uw_X1 nw_346 rfl dX6_freePlace_56 ?_
        refine lv_iconst (v := 1) hX.1.1 hX.1.2.1 dX6_freePlace_59 (by decide) ?_
        refine lv_isub (x := (gi σ 202 i15)) (y := 1) hX.1.1 hX.1.2.1 dX6_freePlace_60 ?_
        refine lv_iand (x := x5) (y := ((gi σ 202 i15) - 1)) hX.1.1 hX.1.2.1 dX6_freePlace_61 ?_
        refine lv_if_ne (x := (x5 &&& ((gi σ 202 i15) - 1))) (tgt := 82) hX.1.1 hX.1.2.1 dX6_freePlace_62 (by decide) (fun c19 => ?_) (fun c19 => ?_)
        · replace hw := if_f hw c19
          exact J82 x5 _ _ (by omega) (by omega) _ _ _ hw hR (lh_sub hl [0, 1, 2, 3, 4] rfl)
        · replace hw := if_t hw c19
          refine rw_aload_n hX hl 0 rfl (Or.inr ⟨_, rfl⟩) dX6_freePlace_65 rfl ?_
          refine rw_iload hX hl 4 rfl dX6_freePlace_66 ?_
          refine rw_aload_n hX hl 1 rfl (Or.inr ⟨_, rfl⟩) dX6_freePlace_68 rfl ?_
          refine rw_getN hX hR 2 2 i15 (C := RX1) (T := TX1) (N := 18) rfl (by decide) h17 rfl (v := .int (gi σ 202 i15)) rfl uw_X1 nw_346 rfl dX6_freePlace_69 ?_
          refine rw_aload_n hX hl 2 rfl (va_rf_or _) dX6_freePlace_72 rfl ?_
          obtain ⟨v20, g22, hw1⟩ := ob1_some hw
          replace hw := hw1
          clear hw1
          refine rw_cVi hX hR pk_f7_isRoomAt (mc := 0) (ms := 0) ⟨rfl, rfl, (show 15 + 1 ≤ 16 by omega), (show 8 + (7 + 11) + 64 * 15 ≤ 64 * 16 by omega)⟩ (As := [.int x5, .int (gi σ 202 i15), va_rf (Option.map (Ad γ ad 2) x2)]) (rest := []) rfl (C_f7_isRoomAt l γ ad x5 (gi σ 202 i15) x2 σ v20 g22) gw_445 gw_447 gs_14 (rs_recv hX hR 7 0 (C := RX6) (T := TX6) (N := 11) rfl (by decide) (Nat.le_of_ble_eq_true rfl) rfl) rfl hl.1 ca0 (Nat.le_of_ble_eq_true rfl) dX6_freePlace_73 ⟨(show cells + 0 ≤ 0 by omega), (show slots + 0 ≤ 0 by omega)⟩ (fun H locs hR1 => ?_)
          replace hR := hR1
          clear hR1
          refine rw_ifeqZ (b := v20) (tgt := 82) hX dX6_freePlace_76 (by decide) (fun c23 => ?_) (fun c23 => ?_)
          · replace hw := if_f hw c23
            exact J82 x5 _ _ (by omega) (by omega) _ _ _ hw hR (lh_sub hl [0, 1, 2, 3, 4] rfl)
          · replace hw := if_t hw c23
            replace hw := lp_out hw ho41
            refine rw_iload hX hl 4 rfl dX6_freePlace_79 ?_
            refine W.widen (k := 0) (n := 0) (by omega) (by omega) ?_
            exact rq_i hX hR hr hw dX6_freePlace_81 hlocks
  have J36 : ∀ (x1 : (Option Nat)) (x2 : (Option Nat)) (x3 : Int32) (y0 : Int32) (cells slots : Nat), cells ≤ 0 → slots ≤ 0 → ∀ (H : Heap) (locs : List Loc) (ls : Array Slot), f7_freePlace_j36 fu x1 x2 x3 y0 σ = some r → RS γ ad σ s H locs → lh ls 6 [(0, .ref (gS γ 7 0)), (1, va_rf (Option.map (Ad γ ad 2) x1)), (2, va_rf (Option.map (Ad γ ad 2) x2)), (3, .int x3)] → W p l e (rmo 16 0 0) s m ([.ref (gS γ 7 0), va_rf (Option.map (Ad γ ad 2) a1)] : List Value).toArray below meth c H locs cells slots (MQ below (QI γ ad σ r) ([.ref (gS γ 7 0), va_rf (Option.map (Ad γ ad 2) a1)] : List Value).toArray s 0 0 (gA γ)) (F0 m 36 ls [.int y0]) := by
    intro x1 x2 x3 y0 cells slots hc1 hc2 H locs ls hw hR hl
    unfold f7_freePlace_j36 at hw
    refine rw_istore (lv' := [(4, .int y0), (0, .ref (gS γ 7 0)), (1, va_rf (Option.map (Ad γ ad 2) x1)), (2, va_rf (Option.map (Ad γ ad 2) x2)), (3, .int x3)]) hX hl (by decide) rfl dX6_freePlace_36 (fun ls hl1 => ?_)
    replace hl := hl1
    clear hl1
    refine rw_iload_n hX hl 4 rfl dX6_freePlace_38 rfl ?_
    refine rw_istore (lv' := [(5, .int x3), (4, .int y0), (0, .ref (gS γ 7 0)), (1, va_rf (Option.map (Ad γ ad 2) x1)), (2, va_rf (Option.map (Ad γ ad 2) x2)), (3, .int x3)]) hX hl (by decide) rfl dX6_freePlace_39 (fun ls hl1 => ?_)
    replace hl := hl1
    clear hl1
    exact L41 x1 x2 y0 _ _ _ _ (by omega) (by omega) _ _ _ hw hR (lh_sub hl [2, 3, 4, 1, 0] rfl)
  have J17 : ∀ (x1 : (Option Nat)) (x2 : (Option Nat)) (y0 : Int32) (cells slots : Nat), cells ≤ 0 → slots ≤ 0 → ∀ (H : Heap) (locs : List Loc) (ls : Array Slot), f7_freePlace_j17 fu x1 x2 y0 σ = some r → RS γ ad σ s H locs → lh ls 6 [(0, .ref (gS γ 7 0)), (1, va_rf (Option.map (Ad γ ad 2) x1)), (2, va_rf (Option.map (Ad γ ad 2) x2))] → W p l e (rmo 16 0 0) s m ([.ref (gS γ 7 0), va_rf (Option.map (Ad γ ad 2) a1)] : List Value).toArray below meth c H locs cells slots (MQ below (QI γ ad σ r) ([.ref (gS γ 7 0), va_rf (Option.map (Ad γ ad 2) a1)] : List Value).toArray s 0 0 (gA γ)) (F0 m 17 ls [.int y0]) := by
    intro x1 x2 y0 cells slots hc1 hc2 H locs ls hw hR hl
    unfold f7_freePlace_j17 at hw
    refine rw_istore_n (lv' := [(3, .int y0), (0, .ref (gS γ 7 0)), (1, va_rf (Option.map (Ad γ ad 2) x1)), (2, va_rf (Option.map (Ad γ ad 2) x2))]) hX hl (by decide) rfl dX6_freePlace_17 rfl (fun ls hl1 => ?_)
    replace hl := hl1
    clear hl1
    refine rw_aload_n hX hl 3 rfl (va_rf_or _) dX6_freePlace_18 rfl ?_
    refine rw_ifnonnull hX (o := x2) (g := Ad γ ad 2) (tgt := 27) dX6_freePlace_19 (by decide) (fun c11 => ?_) (fun c11 => ?_)
    · replace hw := if_f hw c11
      refine rw_aload_n hX hl 3 rfl (va_rf_or _) dX6_freePlace_27 rfl ?_
      obtain ⟨i12, e13, h14, hw1⟩ := dr_some hw
      replace hw := hw1
      clear hw1
      subst e13
      refine rw_getN hX hR 2 11 i12 (C := RX1) (T := TX1) (N := 18) rfl (by decide) h14 rfl (v := .int (gi σ 211 i12)) rfl uw_X1 nw_363 rfl dX6_freePlace_28 ?_
      refine rw_aload_n hX hl 3 rfl (Or.inr ⟨_, rfl⟩) dX6_freePlace_31 rfl ?_
      refine rw_getN hX hR 2 2 i12 (C := RX1) (T := TX1) (N := 18) rfl (by decide) h14 rfl (v := .int (gi σ 202 i12)) rfl uw_X1 nw_346 rfl dX6_freePlace_32 ?_
      refine lv_iadd (x := (gi σ 211 i12)) (y := (gi σ 202 i12)) hX.1.1 hX.1.2.1 dX6_freePlace_35 ?_
      exact J36 x1 (some i12) y0 ((gi σ 211 i12) + (gi σ 202 i12)) _ _ (by omega) (by omega) _ _ _ hw hR (lh_sub hl [1, 2, 3, 0] rfl)
    · replace hw := if_t hw c11
      refine lv_bipush (v := 64) hX.1.1 hX.1.2.1 dX6_freePlace_22 (by decide) ?_
      refine lv_goto (tgt := 36) hX.1.1 hX.1.2.1 dX6_freePlace_24 (by decide) ?_
      exact J36 x1 x2 y0 64 _ _ (by omega) (by omega) _ _ _ hw hR (lh_sub hl [1, 2, 3, 0] rfl)
  refine rw_entry (ca1 rfl (ca1 (rf_cat _) ca0)) (Nat.le_of_ble_eq_true rfl) (fun ls hl1 => ?_)
  replace hl := hl1
  clear hl1
  refine rw_aload_n hX hl 1 rfl (va_rf_or _) dX6_freePlace_0 rfl ?_
  obtain ⟨i1, e2, h3, hw1⟩ := dr_some hw
  replace hw := hw1
  clear hw1
  subst e2
  obtain ⟨v4, g6, hw1⟩ := ob1_some hw
  replace hw := hw1
  clear hw1
  refine rw_cVNq hX hR pk_f2_space (mc := 0) (ms := 0) ⟨rfl, rfl, (show 1 + 1 ≤ 16 by omega), (show 8 + (2 + 11) + 64 * 1 ≤ 64 * 16 by omega)⟩ (As := []) (rest := []) rfl (C_f2_space l γ ad i1 σ v4 g6) nw_441 gw_443 gs_13 (rs_recv hX hR 2 i1 (C := RX1) (T := TX1) (N := 18) rfl (by decide) h3 rfl) rfl hl.1 ca0 (Nat.le_of_ble_eq_true rfl) dX6_freePlace_1 ⟨(show 0 + 0 ≤ 0 by omega), (show 0 + 0 ≤ 0 by omega)⟩ (fun H locs hR1 => ?_)
  replace hR := hR1
  clear hR1
  refine rw_astore_n (lv' := [(2, va_rf (Option.map (Ad γ ad 2) v4)), (0, .ref (gS γ 7 0)), (1, .ref (Ad γ ad 2 i1))]) hX hl (by decide) rfl (va_rf_or _) dX6_freePlace_4 rfl (fun ls hl1 => ?_)
  replace hl := hl1
  clear hl1
  refine rw_aload_n hX hl 0 rfl (va_rf_or _) dX6_freePlace_5 rfl ?_
  refine rw_ifnonnull hX (o := v4) (g := Ad γ ad 2) (tgt := 13) dX6_freePlace_6 (by decide) (fun c7 => ?_) (fun c7 => ?_)
  · replace hw := if_f hw c7
    refine rw_aload_n hX hl 0 rfl (va_rf_or _) dX6_freePlace_13 rfl ?_
    obtain ⟨i8, e9, h10, hw1⟩ := dr_some hw
    replace hw := hw1
    clear hw1
    subst e9
    refine rw_getN hX hR 2 11 i8 (C := RX1) (T := TX1) (N := 18) rfl (by decide) h10 rfl (v := .int (gi σ 211 i8)) rfl uw_X1 nw_363 rfl dX6_freePlace_14 ?_
    exact J17 (some i1) (some i8) (gi σ 211 i8) _ _ (by omega) (by omega) _ _ _ hw hR (lh_sub hl [1, 2, 0] rfl)
  · replace hw := if_t hw c7
    refine lv_iconst (v := 0) hX.1.1 hX.1.2.1 dX6_freePlace_9 (by decide) ?_
    refine lv_goto (tgt := 17) hX.1.1 hX.1.2.1 dX6_freePlace_10 (by decide) ?_
    exact J17 (some i1) v4 0 _ _ (by omega) (by omega) _ _ _ hw hR (lh_sub hl [1, 2, 0] rfl)
set_option maxHeartbeats 8000000 in
set_option maxRecDepth 100000 in
theorem C_f7_isLineFree (l : Launch) (γ : GT) (ad : Nat → Nat → Nat) {fu : Nat} (a1 : (Option Nat)) (σ : St) (r : Bool) (hw : f7_isLineFree fu a1 σ = some r) : Met l yX6_isLineFree (Cond.code yX6_isLineFree cX6_isLineFree 4 (Option.some Jvm.ClassFile.FieldType.boolean) :: GW) (rmo 15 0 0) (va_Pc [.ref (gS γ 7 0), va_rf (Option.map (Ad γ ad 2) a1)] (RU γ ad σ)) (QI γ ad σ (b2i r)) 0 0 (gA γ) := by
  refine Met.ofW (cc := cX6_isLineFree) (maxL := 4) (ret := (Option.some Jvm.ClassFile.FieldType.boolean)) (by decide +kernel) rfl ?_
  intro p e s m args below meth c s₁ B hml hv
  obtain ⟨rfl, hU⟩ := hv
  obtain ⟨hX, hR⟩ := cx_of (own := RX6) B hml rfl hU
  have hr := B.returns
  have hlocks := B.notSynchronized
  have hc0 : (0 : Nat) ≤ 0 := Nat.le_refl 0
  show W p l e (rmo 15 0 0) s m ([.ref (gS γ 7 0), va_rf (Option.map (Ad γ ad 2) a1)] : List Value).toArray below meth c s.heap [] 0 0 (MQ below (QI γ ad σ (b2i r)) ([.ref (gS γ 7 0), va_rf (Option.map (Ad γ ad 2) a1)] : List Value).toArray s 0 0 (gA γ)) (entryFrame m ([.ref (gS γ 7 0), va_rf (Option.map (Ad γ ad 2) a1)] : List Value).toArray 4)
  unfold f7_isLineFree at hw
  have L2 : ∀ (x1 : (Option Nat)) (n : Nat) (s9 : Int32) (cells slots : Nat), cells ≤ 0 → slots ≤ 0 → ∀ (H : Heap) (locs : List Loc) (ls : Array Slot), lp (fun s8 => f7_isLineFree_b2 fu x1 s8 σ) n s9 = some r → RS γ ad σ s H locs → lh ls 4 [(0, .ref (gS γ 7 0)), (1, va_rf (Option.map (Ad γ ad 2) x1)), (2, .int s9)] → W p l e (rmo 15 0 0) s m ([.ref (gS γ 7 0), va_rf (Option.map (Ad γ ad 2) a1)] : List Value).toArray below meth c H locs cells slots (MQ below (QI γ ad σ (b2i r)) ([.ref (gS γ 7 0), va_rf (Option.map (Ad γ ad 2) a1)] : List Value).toArray s 0 0 (gA γ)) (F0 m 2 ls []) := by
    intro x1 n2
    induction n2 with
    | zero => intro s9 cells slots hc1 hc2 H locs ls hw hR hl; exact (lp_zero hw).elim
    | succ n2 ih2 =>
      intro x2 cells slots hc1 hc2 H locs ls hw hR hl
      obtain ⟨o2, hw1, hb2, ho2⟩ := lp_succ hw
      replace hw := hw1
      clear hw1
      replace hw : f7_isLineFree_b2 fu x1 x2 σ = some o2 := hw
      replace hl : lh ls 4 [(0, .ref (gS γ 7 0)), (1, va_rf (Option.map (Ad γ ad 2) x1)), (2, .int x2)] := hl
      unfold f7_isLineFree_b2 at hw
      have J52 : ∀ (x2 : Int32) (cells slots : Nat), cells ≤ 0 → slots ≤ 0 → ∀ (H : Heap) (locs : List Loc) (ls : Array Slot), f7_isLineFree_j52 fu x1 x2 σ = some o2 → RS γ ad σ s H locs → lh ls 4 [(0, .ref (gS γ 7 0)), (1, va_rf (Option.map (Ad γ ad 2) x1)), (2, .int x2)] → W p l e (rmo 15 0 0) s m ([.ref (gS γ 7 0), va_rf (Option.map (Ad γ ad 2) a1)] : List Value).toArray below meth c H locs cells slots (MQ below (QI γ ad σ (b2i r)) ([.ref (gS γ 7 0), va_rf (Option.map (Ad γ ad 2) a1)] : List Value).toArray s 0 0 (gA γ)) (F0 m 52 ls []) := by
        intro x2 cells slots hc1 hc2 H locs ls hw hR hl
        unfold f7_isLineFree_j52 at hw
        refine rw_iinc (k := 2) (v := (x2 + 1)) (lv' := [(2, .int (x2 + 1)), (0, .ref (gS γ 7 0)), (1, va_rf (Option.map (Ad γ ad 2) x1))]) hX hl rfl (congrArg (fun q => x2 + q) (show Int32.ofInt 1 = 1 by decide)) (by decide) rfl dX6_isLineFree_52 (fun ls hl1 => ?_)
        replace hl := hl1
        clear hl1
        refine lv_goto (tgt := 2) hX.1.1 hX.1.2.1 dX6_isLineFree_55 (by decide) ?_
        exact ih2 _ _ _ (by omega) (by omega) _ _ _ (lp_back hw hb2) hR (lh_sub hl [1, 2, 0] rfl)
      refine rw_iload_n hX hl 2 rfl dX6_isLineFree_2 rfl ?_
      refine rw_aload_n hX hl 0 rfl (Or.inr ⟨_, rfl⟩) dX6_isLineFree_3 rfl ?_
      refine rw_get hX hR 7 1 0 (C := RX6) (T := TX6) (N := 11) rfl (by decide) (Nat.le_of_ble_eq_true rfl) rfl (v := .ref (gS γ 0 1)) rfl uw_X6 gw_150 rfl dX6_isLineFree_4 ?_
      refine rw_cVi hX hR pk_lsize (mc := 0) (ms := 0) ⟨rfl, rfl, Nat.le_of_ble_eq_true rfl, Nat.le_of_ble_eq_true rfl⟩ (As := []) (rest := [.int x2]) rfl (C_lsize l γ ad σ 1 (by decide)) gw_209 gw_210 gw_211 (rs_recvL hX hR 1 (by decide)) rfl hl.1 (ca1 rfl ca0) (Nat.le_of_ble_eq_true rfl) dX6_isLineFree_7 ⟨(show cells + 0 ≤ 0 by omega), (show slots + 0 ≤ 0 by omega)⟩ (fun H locs hR1 => ?_)
      replace hR := hR1
      clear hR1
      refine lv_icmp_ge (x := x2) (y := (nI (gl σ 1).length)) (tgt := 58) hX.1.1 hX.1.2.1 dX6_isLineFree_10 (by decide) (fun c1 => ?_) (fun c1 => ?_)
      · replace hw := if_t hw c1
        replace hw := lp_out hw ho2
        refine lv_iconst (v := 1) hX.1.1 hX.1.2.1 dX6_isLineFree_58 (by decide) ?_
        refine W.widen (k := 0) (n := 0) (by omega) (by omega) ?_
        exact rq_z hX hR hr (v := true) rfl hw dX6_isLineFree_59 hlocks
      · replace hw := if_f hw c1
        refine rw_aload_n hX hl 0 rfl (Or.inr ⟨_, rfl⟩) dX6_isLineFree_13 rfl ?_
        refine rw_get hX hR 7 1 0 (C := RX6) (T := TX6) (N := 11) rfl (by decide) (Nat.le_of_ble_eq_true rfl) rfl (v := .ref (gS γ 0 1)) rfl uw_X6 gw_150 rfl dX6_isLineFree_14 ?_
        refine rw_iload_n hX hl 2 rfl dX6_isLineFree_17 rfl ?_
        obtain ⟨h3, k2, h4, h5, hw1⟩ := lg_some hw
        replace hw := hw1
        clear hw1
        refine rw_cVq (r := some k2) (k := 2) hX hR pk_lget (mc := 0) (ms := 0) ⟨rfl, rfl, Nat.le_of_ble_eq_true rfl, Nat.le_of_ble_eq_true rfl⟩ (As := [.int x2]) (rest := []) rfl (C_lget l γ ad σ 1 x2 k2 (by decide) h3 h4) gw_281 gw_282 gw_283 (rs_recvL hX hR 1 (by decide)) rfl hl.1 ca0 (Nat.le_of_ble_eq_true rfl) dX6_isLineFree_18 ⟨(show (cells + 0) + 0 ≤ 0 by omega), (show (slots + 0) + 0 ≤ 0 by omega)⟩ (fun H locs hR1 => ?_)
        replace hR := hR1
        clear hR1
        refine va_castS (a := Ad γ ad 2 k2) (nm := RX1) hX.1.1 hX.1.2.1 hX.1.2.2.2.1 (hX.1.2.2.2.2 _ gw_295) (hX.2.1.1 2 (RX1, TX1, 18) rfl).2 (rs_recv hX hR 2 k2 (C := RX1) (T := TX1) (N := 18) rfl (by decide) h5 rfl) dX6_isLineFree_21 ?_
        refine rw_astore_n (lv' := [(3, .ref (Ad γ ad 2 k2)), (0, .ref (gS γ 7 0)), (1, va_rf (Option.map (Ad γ ad 2) x1)), (2, .int x2)]) hX hl (by decide) rfl (Or.inr ⟨_, rfl⟩) dX6_isLineFree_24 rfl (fun ls hl1 => ?_)
        replace hl := hl1
        clear hl1
        refine rw_aload_n hX hl 0 rfl (Or.inr ⟨_, rfl⟩) dX6_isLineFree_25 rfl ?_
        refine rw_getN hX hR 2 3 k2 (C := RX1) (T := TX1) (N := 18) rfl (by decide) h5 rfl (v := .int (gi σ 203 k2)) rfl uw_X1 nw_348 rfl dX6_isLineFree_26 ?_
        refine rw_aload_n hX hl 2 rfl (va_rf_or _) dX6_isLineFree_29 rfl ?_
        obtain ⟨i6, e7, h8, hw1⟩ := dr_some hw
        replace hw := hw1
        clear hw1
        subst e7
        refine rw_getN hX hR 2 3 i6 (C := RX1) (T := TX1) (N := 18) rfl (by decide) h8 rfl (v := .int (gi σ 203 i6)) rfl uw_X1 nw_348 rfl dX6_isLineFree_30 ?_
        refine lv_icmp_ne (x := (gi σ 203 k2)) (y := (gi σ 203 i6)) (tgt := 52) hX.1.1 hX.1.2.1 dX6_isLineFree_33 (by decide) (fun c9 => ?_) (fun c9 => ?_)
        · replace hw := if_f hw c9
          exact J52 x2 _ _ (by omega) (by omega) _ _ _ hw hR (lh_sub hl [1, 2, 3] rfl)
        · replace hw := if_t hw c9
          refine rw_aload_n hX hl 0 rfl (Or.inr ⟨_, rfl⟩) dX6_isLineFree_36 rfl ?_
          refine rw_getN hX hR 2 4 k2 (C := RX1) (T := TX1) (N := 18) rfl (by decide) h5 rfl (v := .int (b2i (gb σ 204 k2))) rfl uw_X1 nw_350 rfl dX6_isLineFree_37 ?_
          refine rw_ifeqZ (b := (gb σ 204 k2)) (tgt := 50) hX dX6_isLineFree_40 (by decide) (fun c10 => ?_) (fun c10 => ?_)
          · replace hw := if_f hw c10
            replace hw := lp_out hw ho2
            refine lv_iconst (v := 0) hX.1.1 hX.1.2.1 dX6_isLineFree_50 (by decide) ?_
            refine W.widen (k := 0) (n := 0) (by omega) (by omega) ?_
            exact rq_z hX hR hr (v := false) rfl hw dX6_isLineFree_51 hlocks
          · replace hw := if_t hw c10
            refine rw_aload_n hX hl 2 rfl (Or.inr ⟨_, rfl⟩) dX6_isLineFree_43 rfl ?_
            refine rw_getN hX hR 2 4 i6 (C := RX1) (T := TX1) (N := 18) rfl (by decide) h8 rfl (v := .int (b2i (gb σ 204 i6))) rfl uw_X1 nw_350 rfl dX6_isLineFree_44 ?_
            refine rw_ifneZ (b := (gb σ 204 i6)) (tgt := 52) hX dX6_isLineFree_47 (by decide) (fun c11 => ?_) (fun c11 => ?_)
            · replace hw := if_t hw c11
              exact J52 x2 _ _ (by omega) (by omega) _ _ _ hw hR (lh_sub hl [1, 2, 3] rfl)
            · replace hw := if_f hw c11
              replace hw := lp_out hw ho2
              refine lv_iconst (v := 0) hX.1.1 hX.1.2.1 dX6_isLineFree_50 (by decide) ?_
              refine W.widen (k := 0) (n := 0) (by omega) (by omega) ?_
              exact rq_z hX hR hr (v := false) rfl hw dX6_isLineFree_51 hlocks
  refine rw_entry (ca1 rfl (ca1 (rf_cat _) ca0)) (Nat.le_of_ble_eq_true rfl) (fun ls hl1 => ?_)
  replace hl := hl1
  clear hl1
  refine lv_iconst (v := 0) hX.1.1 hX.1.2.1 dX6_isLineFree_0 (by decide) ?_
  refine rw_istore_n (lv' := [(2, .int 0), (0, .ref (gS γ 7 0)), (1, va_rf (Option.map (Ad γ ad 2) a1))]) hX hl (by decide) rfl dX6_isLineFree_1 rfl (fun ls hl1 => ?_)
  replace hl := hl1
  clear hl1
  exact L2 a1 _ _ _ _ (by omega) (by omega) _ _ _ hw hR (lh_sub hl [1, 2, 0] rfl)
set_option maxHeartbeats 8000000 in
set_option maxRecDepth 100000 in
theorem C_f7_refusalOf (l : Launch) (γ : GT) (ad : Nat → Nat → Nat) {fu : Nat} (a1 : (Option Nat)) (σ : St) (r : Int32) (hw : f7_refusalOf fu a1 σ = some r) : Met l yX6_refusalOf (Cond.code yX6_refusalOf cX6_refusalOf 3 (Option.some Jvm.ClassFile.FieldType.int) :: GW) (rmo 17 0 0) (va_Pc [.ref (gS γ 7 0), va_rf (Option.map (Ad γ ad 2) a1)] (RU γ ad σ)) (QI γ ad σ r) 0 0 (gA γ) := by
  refine Met.ofW (cc := cX6_refusalOf) (maxL := 3) (ret := (Option.some Jvm.ClassFile.FieldType.int)) (by decide +kernel) rfl ?_
  intro p e s m args below meth c s₁ B hml hv
  obtain ⟨rfl, hU⟩ := hv
  obtain ⟨hX, hR⟩ := cx_of (own := RX6) B hml rfl hU
  have hr := B.returns
  have hlocks := B.notSynchronized
  have hc0 : (0 : Nat) ≤ 0 := Nat.le_refl 0
  show W p l e (rmo 17 0 0) s m ([.ref (gS γ 7 0), va_rf (Option.map (Ad γ ad 2) a1)] : List Value).toArray below meth c s.heap [] 0 0 (MQ below (QI γ ad σ r) ([.ref (gS γ 7 0), va_rf (Option.map (Ad γ ad 2) a1)] : List Value).toArray s 0 0 (gA γ)) (entryFrame m ([.ref (gS γ 7 0), va_rf (Option.map (Ad γ ad 2) a1)] : List Value).toArray 3)
  unfold f7_refusalOf at hw
  have J99 : ∀ (x1 : (Option Nat)) (cells slots : Nat), cells ≤ 0 → slots ≤ 0 → ∀ (H : Heap) (locs : List Loc) (ls : Array Slot), f7_refusalOf_j99 fu x1 σ = some r → RS γ ad σ s H locs → lh ls 3 [(1, va_rf (Option.map (Ad γ ad 2) x1))] → W p l e (rmo 17 0 0) s m ([.ref (gS γ 7 0), va_rf (Option.map (Ad γ ad 2) a1)] : List Value).toArray below meth c H locs cells slots (MQ below (QI γ ad σ r) ([.ref (gS γ 7 0), va_rf (Option.map (Ad γ ad 2) a1)] : List Value).toArray s 0 0 (gA γ)) (F0 m 99 ls []) := by
    intro x1 cells slots hc1 hc2 H locs ls hw hR hl
    unfold f7_refusalOf_j99 at hw
    refine rw_aload_n hX hl 0 rfl (va_rf_or _) dX6_refusalOf_99 rfl ?_
    obtain ⟨i35, e36, h37, hw1⟩ := dr_some hw
    replace hw := hw1
    clear hw1
    subst e36
    refine rw_getN hX hR 2 9 i35 (C := RX1) (T := TX1) (N := 18) rfl (by decide) h37 rfl (v := .int (b2i (gb σ 209 i35))) rfl uw_X1 nw_359 rfl dX6_refusalOf_100 ?_
    refine rw_ifeqZ (b := (gb σ 209 i35)) (tgt := 111) hX dX6_refusalOf_103 (by decide) (fun c38 => ?_) (fun c38 => ?_)
    · replace hw := if_f hw c38
      refine lv_iconst (v := 0) hX.1.1 hX.1.2.1 dX6_refusalOf_111 (by decide) ?_
      refine W.widen (k := 0) (n := 0) (by omega) (by omega) ?_
      exact rq_i hX hR hr hw dX6_refusalOf_112 hlocks
    · replace hw := if_t hw c38
      refine lv_bipush (v := 7) hX.1.1 hX.1.2.1 dX6_refusalOf_106 (by decide) ?_
      refine lv_goto (tgt := 112) hX.1.1 hX.1.2.1 dX6_refusalOf_108 (by decide) ?_
      refine W.widen (k := 0) (n := 0) (by omega) (by omega) ?_
      exact rq_i hX hR hr hw dX6_refusalOf_112 hlocks
  have J80 : ∀ (x1 : (Option Nat)) (cells slots : Nat), cells ≤ 0 → slots ≤ 0 → ∀ (H : Heap) (locs : List Loc) (ls : Array Slot), f7_refusalOf_j80 fu x1 σ = some r → RS γ ad σ s H locs → lh ls 3 [(0, .ref (gS γ 7 0)), (1, va_rf (Option.map (Ad γ ad 2) x1))] → W p l e (rmo 17 0 0) s m ([.ref (gS γ 7 0), va_rf (Option.map (Ad γ ad 2) a1)] : List Value).toArray below meth c H locs cells slots (MQ below (QI γ ad σ r) ([.ref (gS γ 7 0), va_rf (Option.map (Ad γ ad 2) a1)] : List Value).toArray s 0 0 (gA γ)) (F0 m 80 ls []) := by
    intro x1 cells slots hc1 hc2 H locs ls hw hR hl
    unfold f7_refusalOf_j80 at hw
    refine rw_aload_n hX hl 1 rfl (va_rf_or _) dX6_refusalOf_80 rfl ?_
    obtain ⟨i31, e32, h33, hw1⟩ := dr_some hw
    replace hw := hw1
    clear hw1
    subst e32
    refine rw_getN hX hR 2 3 i31 (C := RX1) (T := TX1) (N := 18) rfl (by decide) h33 rfl (v := .int (gi σ 203 i31)) rfl uw_X1 nw_348 rfl dX6_refusalOf_81 ?_
    refine lv_iconst (v := (-1)) hX.1.1 hX.1.2.1 dX6_refusalOf_84 (by decide) ?_
    refine lv_icmp_eq (x := (gi σ 203 i31)) (y := (-1)) (tgt := 99) hX.1.1 hX.1.2.1 dX6_refusalOf_85 (by decide) (fun c34 => ?_) (fun c34 => ?_)
    · replace hw := if_t hw c34
      exact J99 (some i31) _ _ (by omega) (by omega) _ _ _ hw hR (lh_sub hl [1] rfl)
    · replace hw := if_f hw c34
      refine rw_aload_n hX hl 0 rfl (Or.inr ⟨_, rfl⟩) dX6_refusalOf_88 rfl ?_
      refine rw_aload_n hX hl 1 rfl (Or.inr ⟨_, rfl⟩) dX6_refusalOf_89 rfl ?_
      obtain ⟨v39, g41, hw1⟩ := ob1_some hw
      replace hw := hw1
      clear hw1
      refine rw_cVi hX hR pk_f7_isLineFree (mc := 0) (ms := 0) ⟨rfl, rfl, (show 15 + 1 ≤ 17 by omega), (show 8 + (4 + 11) + 64 * 15 ≤ 64 * 17 by omega)⟩ (As := [va_rf (Option.map (Ad γ ad 2) (some i31))]) (rest := []) rfl (C_f7_isLineFree l γ ad (some i31) σ v39 g41) gw_449 gw_451 gs_15 (rs_recv hX hR 7 0 (C := RX6) (T := TX6) (N := 11) rfl (by decide) (Nat.le_of_ble_eq_true rfl) rfl) rfl hl.1 ca0 (Nat.le_of_ble_eq_true rfl) dX6_refusalOf_90 ⟨(show cells + 0 ≤ 0 by omega), (show slots + 0 ≤ 0 by omega)⟩ (fun H locs hR1 => ?_)
      replace hR := hR1
      clear hR1
      refine rw_ifneZ (b := v39) (tgt := 99) hX dX6_refusalOf_93 (by decide) (fun c42 => ?_) (fun c42 => ?_)
      · replace hw := if_t hw c42
        exact J99 (some i31) _ _ (by omega) (by omega) _ _ _ hw hR (lh_sub hl [1] rfl)
      · replace hw := if_f hw c42
        refine lv_bipush (v := 6) hX.1.1 hX.1.2.1 dX6_refusalOf_96 (by decide) ?_
        refine W.widen (k := 0) (n := 0) (by omega) (by omega) ?_
        exact rq_i hX hR hr hw dX6_refusalOf_98 hlocks
  refine rw_entry (ca1 rfl (ca1 (rf_cat _) ca0)) (Nat.le_of_ble_eq_true rfl) (fun ls hl1 => ?_)
  replace hl := hl1
  clear hl1
  refine rw_aload_n hX hl 0 rfl (Or.inr ⟨_, rfl⟩) dX6_refusalOf_0 rfl ?_
  refine rw_aload_n hX hl 1 rfl (va_rf_or _) dX6_refusalOf_1 rfl ?_
  obtain ⟨i1, e2, h3, hw1⟩ := dr_some hw
  replace hw := hw1
  clear hw1
  subst e2
  refine rw_getN hX hR 2 1 i1 (C := RX1) (T := TX1) (N := 18) rfl (by decide) h3 rfl (v := .int (gi σ 201 i1)) rfl uw_X1 nw_344 rfl dX6_refusalOf_2 ?_
  obtain ⟨v4, g6, hw1⟩ := ob1_some hw
  replace hw := hw1
  clear hw1
  refine rw_cVq hX hR pk_f7_bestDriver (mc := 0) (ms := 0) ⟨rfl, rfl, (show 15 + 1 ≤ 17 by omega), (show 8 + (5 + 11) + 64 * 15 ≤ 64 * 17 by omega)⟩ (As := [.int (gi σ 201 i1)]) (rest := []) rfl (C_f7_bestDriver l γ ad (gi σ 201 i1) σ v4 g6) gw_424 gw_426 gs_10 (rs_recv hX hR 7 0 (C := RX6) (T := TX6) (N := 11) rfl (by decide) (Nat.le_of_ble_eq_true rfl) rfl) rfl hl.1 ca0 (Nat.le_of_ble_eq_true rfl) dX6_refusalOf_5 ⟨(show 0 + 0 ≤ 0 by omega), (show 0 + 0 ≤ 0 by omega)⟩ (fun H locs hR1 => ?_)
  replace hR := hR1
  clear hR1
  refine rw_astore_n (lv' := [(2, va_rf (Option.map (Ad γ ad 3) v4)), (0, .ref (gS γ 7 0)), (1, .ref (Ad γ ad 2 i1))]) hX hl (by decide) rfl (va_rf_or _) dX6_refusalOf_8 rfl (fun ls hl1 => ?_)
  replace hl := hl1
  clear hl1
  refine rw_aload_n hX hl 0 rfl (va_rf_or _) dX6_refusalOf_9 rfl ?_
  refine rw_ifnonnull hX (o := v4) (g := Ad γ ad 3) (tgt := 15) dX6_refusalOf_10 (by decide) (fun c7 => ?_) (fun c7 => ?_)
  · replace hw := if_f hw c7
    refine rw_aload_n hX hl 2 rfl (Or.inr ⟨_, rfl⟩) dX6_refusalOf_15 rfl ?_
    obtain ⟨p8, q9⟩ : ∃ o, gp σ 205 i1 = o := ⟨_, rfl⟩
    replace hw := lt_eq hw q9
    refine rw_getN hX hR 2 5 i1 (C := RX1) (T := TX1) (N := 18) rfl (by decide) h3 rfl (v := va_rf (Option.map (Ad γ ad 2) p8)) (by rw [← q9]; rfl) uw_X1 nw_351 rfl dX6_refusalOf_16 ?_
    obtain ⟨v10, g12, hw1⟩ := ob1_some hw
    replace hw := hw1
    clear hw1
    refine rw_cSi hX hR pk_f7_isLacking (mc := 0) (ms := 0) ⟨rfl, rfl, (show 2 + 1 ≤ 17 by omega), (show 8 + (1 + 11) + 64 * 2 ≤ 64 * 17 by omega)⟩ (As := [va_rf (Option.map (Ad γ ad 2) p8)]) (rest := []) rfl (C_f7_isLacking l γ ad p8 σ v10 g12) gw_434 gw_435 rfl hl.1 ca0 (Nat.le_of_ble_eq_true rfl) dX6_refusalOf_19 ⟨(show (0 + 0) + 0 ≤ 0 by omega), (show (0 + 0) + 0 ≤ 0 by omega)⟩ (fun H locs hR1 => ?_)
    replace hR := hR1
    clear hR1
    refine rw_ifeqZ (b := v10) (tgt := 27) hX dX6_refusalOf_22 (by decide) (fun c13 => ?_) (fun c13 => ?_)
    · replace hw := if_f hw c13
      refine rw_aload_n hX hl 2 rfl (Or.inr ⟨_, rfl⟩) dX6_refusalOf_27 rfl ?_
      obtain ⟨p14, q15⟩ : ∃ o, gp σ 206 i1 = o := ⟨_, rfl⟩
      replace hw := lt_eq hw q15
      refine rw_getN hX hR 2 6 i1 (C := RX1) (T := TX1) (N := 18) rfl (by decide) h3 rfl (v := va_rf (Option.map (Ad γ ad 2) p14)) (by rw [← q15]; rfl) uw_X1 nw_353 rfl dX6_refusalOf_28 ?_
      obtain ⟨v16, g18, hw1⟩ := ob1_some hw
      replace hw := hw1
      clear hw1
      refine rw_cSi hX hR pk_f7_isLacking (mc := 0) (ms := 0) ⟨rfl, rfl, (show 2 + 1 ≤ 17 by omega), (show 8 + (1 + 11) + 64 * 2 ≤ 64 * 17 by omega)⟩ (As := [va_rf (Option.map (Ad γ ad 2) p14)]) (rest := []) rfl (C_f7_isLacking l γ ad p14 σ v16 g18) gw_434 gw_435 rfl hl.1 ca0 (Nat.le_of_ble_eq_true rfl) dX6_refusalOf_31 ⟨(show ((0 + 0) + 0) + 0 ≤ 0 by omega), (show ((0 + 0) + 0) + 0 ≤ 0 by omega)⟩ (fun H locs hR1 => ?_)
      replace hR := hR1
      clear hR1
      refine rw_ifneZ (b := v16) (tgt := 47) hX dX6_refusalOf_34 (by decide) (fun c19 => ?_) (fun c19 => ?_)
      · replace hw := if_t hw c19
        refine lv_iconst (v := 3) hX.1.1 hX.1.2.1 dX6_refusalOf_47 (by decide) ?_
        refine W.widen (k := 0) (n := 0) (by omega) (by omega) ?_
        exact rq_i hX hR hr hw dX6_refusalOf_48 hlocks
      · replace hw := if_f hw c19
        refine rw_aload_n hX hl 2 rfl (Or.inr ⟨_, rfl⟩) dX6_refusalOf_37 rfl ?_
        obtain ⟨p20, q21⟩ : ∃ o, gp σ 207 i1 = o := ⟨_, rfl⟩
        replace hw := lt_eq hw q21
        refine rw_getN hX hR 2 7 i1 (C := RX1) (T := TX1) (N := 18) rfl (by decide) h3 rfl (v := va_rf (Option.map (Ad γ ad 2) p20)) (by rw [← q21]; rfl) uw_X1 nw_355 rfl dX6_refusalOf_38 ?_
        obtain ⟨v22, g24, hw1⟩ := ob1_some hw
        replace hw := hw1
        clear hw1
        refine rw_cSi hX hR pk_f7_isLacking (mc := 0) (ms := 0) ⟨rfl, rfl, (show 2 + 1 ≤ 17 by omega), (show 8 + (1 + 11) + 64 * 2 ≤ 64 * 17 by omega)⟩ (As := [va_rf (Option.map (Ad γ ad 2) p20)]) (rest := []) rfl (C_f7_isLacking l γ ad p20 σ v22 g24) gw_434 gw_435 rfl hl.1 ca0 (Nat.le_of_ble_eq_true rfl) dX6_refusalOf_41 ⟨(show (((0 + 0) + 0) + 0) + 0 ≤ 0 by omega), (show (((0 + 0) + 0) + 0) + 0 ≤ 0 by omega)⟩ (fun H locs hR1 => ?_)
        replace hR := hR1
        clear hR1
        refine rw_ifeqZ (b := v22) (tgt := 49) hX dX6_refusalOf_44 (by decide) (fun c25 => ?_) (fun c25 => ?_)
        · replace hw := if_f hw c25
          refine rw_aload_n hX hl 0 rfl (va_rf_or _) dX6_refusalOf_49 rfl ?_
          obtain ⟨i26, e27, h28, hw1⟩ := dr_some hw
          replace hw := hw1
          clear hw1
          subst e27
          refine rw_getN hX hR 3 5 i26 (C := RX2) (T := TX2) (N := 6) rfl (by decide) h28 rfl (v := .int (gi σ 305 i26)) rfl uw_X2 nw_549 rfl dX6_refusalOf_50 ?_
          refine rw_aload_n hX hl 0 rfl (Or.inr ⟨_, rfl⟩) dX6_refusalOf_53 rfl ?_
          refine rw_getN hX hR 3 3 i26 (C := RX2) (T := TX2) (N := 6) rfl (by decide) h28 rfl (v := .int (gi σ 303 i26)) rfl uw_X2 nw_546 rfl dX6_refusalOf_54 ?_
          refine lv_icmp_ge (x := (gi σ 305 i26)) (y := (gi σ 303 i26)) (tgt := 62) hX.1.1 hX.1.2.1 dX6_refusalOf_57 (by decide) (fun c29 => ?_) (fun c29 => ?_)
          · replace hw := if_t hw c29
            refine rw_aload_n hX hl 2 rfl (Or.inr ⟨_, rfl⟩) dX6_refusalOf_62 rfl ?_
            refine rw_getN hX hR 2 2 i1 (C := RX1) (T := TX1) (N := 18) rfl (by decide) h3 rfl (v := .int (gi σ 202 i1)) rfl uw_X1 nw_346 rfl dX6_refusalOf_63 ?_
            refine lv_if_le (x := (gi σ 202 i1)) (tgt := 80) hX.1.1 hX.1.2.1 dX6_refusalOf_66 (by decide) (fun c30 => ?_) (fun c30 => ?_)
            · replace hw := if_t hw c30
              exact J80 (some i1) _ _ (by omega) (by omega) _ _ _ hw hR (lh_sub hl [1, 2] rfl)
            · replace hw := if_f hw c30
              refine rw_aload_n hX hl 1 rfl (Or.inr ⟨_, rfl⟩) dX6_refusalOf_69 rfl ?_
              refine rw_aload_n hX hl 2 rfl (Or.inr ⟨_, rfl⟩) dX6_refusalOf_70 rfl ?_
              obtain ⟨v43, g45, hw1⟩ := ob1_some hw
              replace hw := hw1
              clear hw1
              refine rw_cVi hX hR pk_f7_freePlace (mc := 0) (ms := 0) ⟨rfl, rfl, (show 16 + 1 ≤ 17 by omega), (show 8 + (6 + 11) + 64 * 16 ≤ 64 * 17 by omega)⟩ (As := [va_rf (Option.map (Ad γ ad 2) (some i1))]) (rest := []) rfl (C_f7_freePlace l γ ad (some i1) σ v43 g45) gw_437 gw_439 gs_12 (rs_recv hX hR 7 0 (C := RX6) (T := TX6) (N := 11) rfl (by decide) (Nat.le_of_ble_eq_true rfl) rfl) rfl hl.1 ca0 (Nat.le_of_ble_eq_true rfl) dX6_refusalOf_71 ⟨(show ((((0 + 0) + 0) + 0) + 0) + 0 ≤ 0 by omega), (show ((((0 + 0) + 0) + 0) + 0) + 0 ≤ 0 by omega)⟩ (fun H locs hR1 => ?_)
              replace hR := hR1
              clear hR1
              refine lv_iconst (v := (-1)) hX.1.1 hX.1.2.1 dX6_refusalOf_74 (by decide) ?_
              refine lv_icmp_ne (x := v43) (y := (-1)) (tgt := 80) hX.1.1 hX.1.2.1 dX6_refusalOf_75 (by decide) (fun c46 => ?_) (fun c46 => ?_)
              · replace hw := if_f hw c46
                exact J80 (some i1) _ _ (by omega) (by omega) _ _ _ hw hR (lh_sub hl [1, 2] rfl)
              · replace hw := if_t hw c46
                refine lv_iconst (v := 5) hX.1.1 hX.1.2.1 dX6_refusalOf_78 (by decide) ?_
                refine W.widen (k := 0) (n := 0) (by omega) (by omega) ?_
                exact rq_i hX hR hr hw dX6_refusalOf_79 hlocks
          · replace hw := if_f hw c29
            refine lv_iconst (v := 4) hX.1.1 hX.1.2.1 dX6_refusalOf_60 (by decide) ?_
            refine W.widen (k := 0) (n := 0) (by omega) (by omega) ?_
            exact rq_i hX hR hr hw dX6_refusalOf_61 hlocks
        · replace hw := if_t hw c25
          refine lv_iconst (v := 3) hX.1.1 hX.1.2.1 dX6_refusalOf_47 (by decide) ?_
          refine W.widen (k := 0) (n := 0) (by omega) (by omega) ?_
          exact rq_i hX hR hr hw dX6_refusalOf_48 hlocks
    · replace hw := if_t hw c13
      refine lv_iconst (v := 2) hX.1.1 hX.1.2.1 dX6_refusalOf_25 (by decide) ?_
      refine W.widen (k := 0) (n := 0) (by omega) (by omega) ?_
      exact rq_i hX hR hr hw dX6_refusalOf_26 hlocks
  · replace hw := if_t hw c7
    refine lv_iconst (v := 1) hX.1.1 hX.1.2.1 dX6_refusalOf_13 (by decide) ?_
    refine W.widen (k := 0) (n := 0) (by omega) (by omega) ?_
    exact rq_i hX hR hr hw dX6_refusalOf_14 hlocks
set_option maxHeartbeats 8000000 in
set_option maxRecDepth 100000 in
theorem C_f7_lowestNotRefused (l : Launch) (γ : GT) (ad : Nat → Nat → Nat) {fu : Nat} (σ : St) (r : (Option Nat)) (hw : f7_lowestNotRefused fu σ = some r) : Met l yX6_lowestNotRefused (Cond.code yX6_lowestNotRefused cX6_lowestNotRefused 3 (Option.some (Jvm.ClassFile.FieldType.object "DriverMoor$Device")) :: GW) (rmo 18 0 0) (va_Pc [.ref (gS γ 7 0)] (RU γ ad σ)) (QR γ ad σ (r.map (Ad γ ad 2))) 0 0 (gA γ) := by
  refine Met.ofW (cc := cX6_lowestNotRefused) (maxL := 3) (ret := (Option.some (Jvm.ClassFile.FieldType.object "DriverMoor$Device"))) (by decide +kernel) rfl ?_
  intro p e s m args below meth c s₁ B hml hv
  obtain ⟨rfl, hU⟩ := hv
  obtain ⟨hX, hR⟩ := cx_of (own := RX6) B hml rfl hU
  have hr := B.returns
  have hlocks := B.notSynchronized
  have hc0 : (0 : Nat) ≤ 0 := Nat.le_refl 0
  show W p l e (rmo 18 0 0) s m ([.ref (gS γ 7 0)] : List Value).toArray below meth c s.heap [] 0 0 (MQ below (QR γ ad σ (r.map (Ad γ ad 2))) ([.ref (gS γ 7 0)] : List Value).toArray s 0 0 (gA γ)) (entryFrame m ([.ref (gS γ 7 0)] : List Value).toArray 3)
  unfold f7_lowestNotRefused at hw
  have L2 : ∀ (n : Nat) (s9 : Int32) (cells slots : Nat), cells ≤ 0 → slots ≤ 0 → ∀ (H : Heap) (locs : List Loc) (ls : Array Slot), lp (fun s8 => f7_lowestNotRefused_b2 fu s8 σ) n s9 = some r → RS γ ad σ s H locs → lh ls 3 [(0, .ref (gS γ 7 0)), (1, .int s9)] → W p l e (rmo 18 0 0) s m ([.ref (gS γ 7 0)] : List Value).toArray below meth c H locs cells slots (MQ below (QR γ ad σ (r.map (Ad γ ad 2))) ([.ref (gS γ 7 0)] : List Value).toArray s 0 0 (gA γ)) (F0 m 2 ls []) := by
    intro n2
    induction n2 with
    | zero => intro s9 cells slots hc1 hc2 H locs ls hw hR hl; exact (lp_zero hw).elim
    | succ n2 ih2 =>
      intro x1 cells slots hc1 hc2 H locs ls hw hR hl
      obtain ⟨o2, hw1, hb2, ho2⟩ := lp_succ hw
      replace hw := hw1
      clear hw1
      replace hw : f7_lowestNotRefused_b2 fu x1 σ = some o2 := hw
      replace hl : lh ls 3 [(0, .ref (gS γ 7 0)), (1, .int x1)] := hl
      unfold f7_lowestNotRefused_b2 at hw
      have J49 : ∀ (x1 : Int32) (cells slots : Nat), cells ≤ 0 → slots ≤ 0 → ∀ (H : Heap) (locs : List Loc) (ls : Array Slot), f7_lowestNotRefused_j49 fu x1 σ = some o2 → RS γ ad σ s H locs → lh ls 3 [(0, .ref (gS γ 7 0)), (1, .int x1)] → W p l e (rmo 18 0 0) s m ([.ref (gS γ 7 0)] : List Value).toArray below meth c H locs cells slots (MQ below (QR γ ad σ (r.map (Ad γ ad 2))) ([.ref (gS γ 7 0)] : List Value).toArray s 0 0 (gA γ)) (F0 m 49 ls []) := by
        intro x1 cells slots hc1 hc2 H locs ls hw hR hl
        unfold f7_lowestNotRefused_j49 at hw
        refine rw_iinc (k := 1) (v := (x1 + 1)) (lv' := [(1, .int (x1 + 1)), (0, .ref (gS γ 7 0))]) hX hl rfl (congrArg (fun q => x1 + q) (show Int32.ofInt 1 = 1 by decide)) (by decide) rfl dX6_lowestNotRefused_49 (fun ls hl1 => ?_)
        replace hl := hl1
        clear hl1
        refine lv_goto (tgt := 2) hX.1.1 hX.1.2.1 dX6_lowestNotRefused_52 (by decide) ?_
        exact ih2 _ _ _ (by omega) (by omega) _ _ _ (lp_back hw hb2) hR (lh_sub hl [1, 0] rfl)
      refine rw_iload_n hX hl 1 rfl dX6_lowestNotRefused_2 rfl ?_
      refine rw_aload_n hX hl 0 rfl (Or.inr ⟨_, rfl⟩) dX6_lowestNotRefused_3 rfl ?_
      refine rw_get hX hR 7 0 0 (C := RX6) (T := TX6) (N := 11) rfl (by decide) (Nat.le_of_ble_eq_true rfl) rfl (v := .ref (gS γ 0 0)) rfl uw_X6 gw_149 rfl dX6_lowestNotRefused_4 ?_
      refine rw_cVi hX hR pk_lsize (mc := 0) (ms := 0) ⟨rfl, rfl, Nat.le_of_ble_eq_true rfl, Nat.le_of_ble_eq_true rfl⟩ (As := []) (rest := [.int x1]) rfl (C_lsize l γ ad σ 0 (by decide)) gw_209 gw_210 gw_211 (rs_recvL hX hR 0 (by decide)) rfl hl.1 (ca1 rfl ca0) (Nat.le_of_ble_eq_true rfl) dX6_lowestNotRefused_7 ⟨(show cells + 0 ≤ 0 by omega), (show slots + 0 ≤ 0 by omega)⟩ (fun H locs hR1 => ?_)
      replace hR := hR1
      clear hR1
      refine lv_icmp_ge (x := x1) (y := (nI (gl σ 0).length)) (tgt := 55) hX.1.1 hX.1.2.1 dX6_lowestNotRefused_10 (by decide) (fun c1 => ?_) (fun c1 => ?_)
      · replace hw := if_t hw c1
        replace hw := lp_out hw ho2
        refine lv_null hX.1.1 hX.1.2.1 dX6_lowestNotRefused_55 ?_
        refine W.widen (k := 0) (n := 0) (by omega) (by omega) ?_
        exact rq_q hX hR hr (k := 2) hw dX6_lowestNotRefused_56 hlocks
      · replace hw := if_f hw c1
        refine rw_aload_n hX hl 0 rfl (Or.inr ⟨_, rfl⟩) dX6_lowestNotRefused_13 rfl ?_
        refine rw_get hX hR 7 0 0 (C := RX6) (T := TX6) (N := 11) rfl (by decide) (Nat.le_of_ble_eq_true rfl) rfl (v := .ref (gS γ 0 0)) rfl uw_X6 gw_149 rfl dX6_lowestNotRefused_14 ?_
        refine rw_iload_n hX hl 1 rfl dX6_lowestNotRefused_17 rfl ?_
        obtain ⟨h3, k2, h4, h5, hw1⟩ := lg_some hw
        replace hw := hw1
        clear hw1
        refine rw_cVq (r := some k2) (k := 2) hX hR pk_lget (mc := 0) (ms := 0) ⟨rfl, rfl, Nat.le_of_ble_eq_true rfl, Nat.le_of_ble_eq_true rfl⟩ (As := [.int x1]) (rest := []) rfl (C_lget l γ ad σ 0 x1 k2 (by decide) h3 h4) gw_281 gw_282 gw_283 (rs_recvL hX hR 0 (by decide)) rfl hl.1 ca0 (Nat.le_of_ble_eq_true rfl) dX6_lowestNotRefused_18 ⟨(show (cells + 0) + 0 ≤ 0 by omega), (show (slots + 0) + 0 ≤ 0 by omega)⟩ (fun H locs hR1 => ?_)
        replace hR := hR1
        clear hR1
        refine va_castS (a := Ad γ ad 2 k2) (nm := RX1) hX.1.1 hX.1.2.1 hX.1.2.2.2.1 (hX.1.2.2.2.2 _ gw_295) (hX.2.1.1 2 (RX1, TX1, 18) rfl).2 (rs_recv hX hR 2 k2 (C := RX1) (T := TX1) (N := 18) rfl (by decide) h5 rfl) dX6_lowestNotRefused_21 ?_
        refine rw_astore_n (lv' := [(2, .ref (Ad γ ad 2 k2)), (0, .ref (gS γ 7 0)), (1, .int x1)]) hX hl (by decide) rfl (Or.inr ⟨_, rfl⟩) dX6_lowestNotRefused_24 rfl (fun ls hl1 => ?_)
        replace hl := hl1
        clear hl1
        refine rw_aload_n hX hl 0 rfl (Or.inr ⟨_, rfl⟩) dX6_lowestNotRefused_25 rfl ?_
        refine rw_getN hX hR 2 8 k2 (C := RX1) (T := TX1) (N := 18) rfl (by decide) h5 rfl (v := .int (b2i (gb σ 208 k2))) rfl uw_X1 nw_358 rfl dX6_lowestNotRefused_26 ?_
        refine rw_ifeqZ (b := (gb σ 208 k2)) (tgt := 49) hX dX6_lowestNotRefused_29 (by decide) (fun c6 => ?_) (fun c6 => ?_)
        · replace hw := if_f hw c6
          exact J49 x1 _ _ (by omega) (by omega) _ _ _ hw hR (lh_sub hl [1, 2] rfl)
        · replace hw := if_t hw c6
          refine rw_aload_n hX hl 0 rfl (Or.inr ⟨_, rfl⟩) dX6_lowestNotRefused_32 rfl ?_
          obtain ⟨v7, g9, hw1⟩ := ob1_some hw
          replace hw := hw1
          clear hw1
          refine rw_cVNi hX hR pk_f2_isBound (mc := 0) (ms := 0) ⟨rfl, rfl, (show 1 + 1 ≤ 18 by omega), (show 8 + (1 + 11) + 64 * 1 ≤ 64 * 18 by omega)⟩ (As := []) (rest := []) rfl (C_f2_isBound l γ ad k2 σ v7 g9) nw_416 gw_418 gs_8 (rs_recv hX hR 2 k2 (C := RX1) (T := TX1) (N := 18) rfl (by decide) h5 rfl) rfl hl.1 ca0 (Nat.le_of_ble_eq_true rfl) dX6_lowestNotRefused_33 ⟨(show ((cells + 0) + 0) + 0 ≤ 0 by omega), (show ((slots + 0) + 0) + 0 ≤ 0 by omega)⟩ (fun H locs hR1 => ?_)
          replace hR := hR1
          clear hR1
          refine rw_ifneZ (b := v7) (tgt := 49) hX dX6_lowestNotRefused_36 (by decide) (fun c10 => ?_) (fun c10 => ?_)
          · replace hw := if_t hw c10
            exact J49 x1 _ _ (by omega) (by omega) _ _ _ hw hR (lh_sub hl [1, 2] rfl)
          · replace hw := if_f hw c10
            refine rw_aload_n hX hl 1 rfl (Or.inr ⟨_, rfl⟩) dX6_lowestNotRefused_39 rfl ?_
            refine rw_aload_n hX hl 0 rfl (Or.inr ⟨_, rfl⟩) dX6_lowestNotRefused_40 rfl ?_
            obtain ⟨v11, g13, hw1⟩ := ob1_some hw
            replace hw := hw1
            clear hw1
            refine rw_cVi hX hR pk_f7_refusalOf (mc := 0) (ms := 0) ⟨rfl, rfl, (show 17 + 1 ≤ 18 by omega), (show 8 + (3 + 11) + 64 * 17 ≤ 64 * 18 by omega)⟩ (As := [va_rf (Option.map (Ad γ ad 2) (some k2))]) (rest := []) rfl (C_f7_refusalOf l γ ad (some k2) σ v11 g13) gw_420 gw_422 gs_9 (rs_recv hX hR 7 0 (C := RX6) (T := TX6) (N := 11) rfl (by decide) (Nat.le_of_ble_eq_true rfl) rfl) rfl hl.1 ca0 (Nat.le_of_ble_eq_true rfl) dX6_lowestNotRefused_41 ⟨(show (((cells + 0) + 0) + 0) + 0 ≤ 0 by omega), (show (((slots + 0) + 0) + 0) + 0 ≤ 0 by omega)⟩ (fun H locs hR1 => ?_)
            replace hR := hR1
            clear hR1
            refine lv_if_ne (x := v11) (tgt := 49) hX.1.1 hX.1.2.1 dX6_lowestNotRefused_44 (by decide) (fun c14 => ?_) (fun c14 => ?_)
            · replace hw := if_f hw c14
              exact J49 x1 _ _ (by omega) (by omega) _ _ _ hw hR (lh_sub hl [1, 2] rfl)
            · replace hw := if_t hw c14
              replace hw := lp_out hw ho2
              refine rw_aload_n hX hl 0 rfl (Or.inr ⟨_, rfl⟩) dX6_lowestNotRefused_47 rfl ?_
              refine W.widen (k := 0) (n := 0) (by omega) (by omega) ?_
              exact rq_q hX hR hr (k := 2) hw dX6_lowestNotRefused_48 hlocks
  refine rw_entry (ca1 rfl ca0) (Nat.le_of_ble_eq_true rfl) (fun ls hl1 => ?_)
  replace hl := hl1
  clear hl1
  refine lv_iconst (v := 0) hX.1.1 hX.1.2.1 dX6_lowestNotRefused_0 (by decide) ?_
  refine rw_istore_n (lv' := [(1, .int 0), (0, .ref (gS γ 7 0))]) hX hl (by decide) rfl dX6_lowestNotRefused_1 rfl (fun ls hl1 => ?_)
  replace hl := hl1
  clear hl1
  exact L2 _ _ _ _ (by omega) (by omega) _ _ _ hw hR (lh_sub hl [1, 0] rfl)
set_option maxHeartbeats 8000000 in
set_option maxRecDepth 100000 in
theorem C_f2_isSaved (l : Launch) (γ : GT) (ad : Nat → Nat → Nat) {fu : Nat} (a0 : Nat) (σ : St) (r : Bool) (hw : f2_isSaved fu a0 σ = some r) : Met l yX1_isSaved (Cond.code yX1_isSaved cX1_isSaved 1 (Option.some Jvm.ClassFile.FieldType.boolean) :: GW) (rmo 1 0 0) (va_Pc [.ref (Ad γ ad 2 a0)] (RU γ ad σ)) (QI γ ad σ (b2i r)) 0 0 (gA γ) := by
  refine Met.ofW (cc := cX1_isSaved) (maxL := 1) (ret := (Option.some Jvm.ClassFile.FieldType.boolean)) (by decide +kernel) rfl ?_
  intro p e s m args below meth c s₁ B hml hv
  obtain ⟨rfl, hU⟩ := hv
  obtain ⟨hX, hR⟩ := cx_of (own := RX1) B hml rfl hU
  have hr := B.returns
  have hlocks := B.notSynchronized
  have hc0 : (0 : Nat) ≤ 0 := Nat.le_refl 0
  show W p l e (rmo 1 0 0) s m ([.ref (Ad γ ad 2 a0)] : List Value).toArray below meth c s.heap [] 0 0 (MQ below (QI γ ad σ (b2i r)) ([.ref (Ad γ ad 2 a0)] : List Value).toArray s 0 0 (gA γ)) (entryFrame m ([.ref (Ad γ ad 2 a0)] : List Value).toArray 1)
  unfold f2_isSaved at hw
  refine rw_entry (ca1 rfl ca0) (Nat.le_of_ble_eq_true rfl) (fun ls hl1 => ?_)
  replace hl := hl1
  clear hl1
  refine rw_aload_n hX hl 0 rfl (Or.inr ⟨_, rfl⟩) dX1_isSaved_0 rfl ?_
  obtain ⟨h1, hw1⟩ := ck_lt hw
  replace hw := hw1
  clear hw1
  obtain ⟨p2, q3⟩ : ∃ o, gp σ 210 a0 = o := ⟨_, rfl⟩
  replace hw := lt_eq hw q3
  refine rw_get hX hR 2 10 a0 (C := RX1) (T := TX1) (N := 18) rfl (by decide) h1 rfl (v := va_rf (Option.map (Ad γ ad 3) p2)) (by rw [← q3]; rfl) uw_X1 gw_360 rfl dX1_isSaved_1 ?_
  refine rw_ifnull hX (o := p2) (g := Ad γ ad 3) (tgt := 21) dX1_isSaved_4 (by decide) (fun c4 => ?_) (fun c4 => ?_)
  · replace hw := if_t hw c4
    refine lv_iconst (v := 0) hX.1.1 hX.1.2.1 dX1_isSaved_21 (by decide) ?_
    exact rq_z hX hR hr (v := false) rfl hw dX1_isSaved_22 hlocks
  · replace hw := if_f hw c4
    refine rw_aload_n hX hl 0 rfl (Or.inr ⟨_, rfl⟩) dX1_isSaved_7 rfl ?_
    obtain ⟨p5, q6⟩ : ∃ o, gp σ 210 a0 = o := ⟨_, rfl⟩
    replace hw := lt_eq hw q6
    refine rw_get hX hR 2 10 a0 (C := RX1) (T := TX1) (N := 18) rfl (by decide) h1 rfl (v := va_rf (Option.map (Ad γ ad 3) p5)) (by rw [← q6]; rfl) uw_X1 gw_360 rfl dX1_isSaved_8 ?_
    obtain ⟨i7, e8, h9, hw1⟩ := dr_some hw
    replace hw := hw1
    clear hw1
    subst e8
    refine rw_getN hX hR 3 4 i7 (C := RX2) (T := TX2) (N := 6) rfl (by decide) h9 rfl (v := .int (b2i (gb σ 304 i7))) rfl uw_X2 nw_548 rfl dX1_isSaved_11 ?_
    refine rw_ifeqZ (b := (gb σ 304 i7)) (tgt := 21) hX dX1_isSaved_14 (by decide) (fun c10 => ?_) (fun c10 => ?_)
    · replace hw := if_f hw c10
      refine lv_iconst (v := 0) hX.1.1 hX.1.2.1 dX1_isSaved_21 (by decide) ?_
      exact rq_z hX hR hr (v := false) rfl hw dX1_isSaved_22 hlocks
    · replace hw := if_t hw c10
      refine lv_iconst (v := 1) hX.1.1 hX.1.2.1 dX1_isSaved_17 (by decide) ?_
      refine lv_goto (tgt := 22) hX.1.1 hX.1.2.1 dX1_isSaved_18 (by decide) ?_
      exact rq_z hX hR hr (v := true) rfl hw dX1_isSaved_22 hlocks
set_option maxHeartbeats 8000000 in
set_option maxRecDepth 100000 in
theorem C_f90_floorMod (l : Launch) (γ : GT) (ad : Nat → Nat → Nat) {fu : Nat} (a0 : Int32) (a1 : Int32) (σ : St) (r : Int32) (hw : f90_floorMod fu a0 a1 σ = some r) : Met l yJ9_floorMod_7cf53 (Cond.code yJ9_floorMod_7cf53 cJ9_floorMod_7cf53 3 (Option.some Jvm.ClassFile.FieldType.int) :: GW) (rmo 1 0 0) (va_Pc [.int a0, .int a1] (RU γ ad σ)) (QI γ ad σ r) 0 0 (gA γ) := by
  refine va_MetF (cc := cJ9_floorMod_7cf53) (maxL := 3) (ret := (Option.some Jvm.ClassFile.FieldType.int)) (by decide +kernel) rfl ?_
  intro p e s m args below meth c s₁ B hml hv
  obtain ⟨rfl, hU⟩ := hv
  obtain ⟨hX, hR⟩ := cx_of (own := RJ9) B hml rfl hU
  have hr := B.returns
  have hlocks := B.notSynchronized
  have hc0 : (0 : Nat) ≤ 0 := Nat.le_refl 0
  show W p l e (rmo 1 0 0) s m ([.int a0, .int a1] : List Value).toArray below meth c s.heap [] 0 0 (MQ below (QI γ ad σ r) ([.int a0, .int a1] : List Value).toArray s 0 0 (gA γ)) (entryFrame m ([.int a0, .int a1] : List Value).toArray 3)
  unfold f90_floorMod at hw
  have J18 : ∀ (x2 : Int32) (cells slots : Nat), cells ≤ 0 → slots ≤ 0 → ∀ (H : Heap) (locs : List Loc) (ls : Array Slot), f90_floorMod_j18 fu x2 σ = some r → RS γ ad σ s H locs → lh ls 3 [(2, .int x2)] → W p l e (rmo 1 0 0) s m ([.int a0, .int a1] : List Value).toArray below meth c H locs cells slots (MQ below (QI γ ad σ r) ([.int a0, .int a1] : List Value).toArray s 0 0 (gA γ)) (F0 m 18 ls []) := by
    intro x2 cells slots hc1 hc2 H locs ls hw hR hl
    unfold f90_floorMod_j18 at hw
    refine rw_iload_n hX hl 0 rfl dJ9_floorMod_7cf53_18 rfl ?_
    refine W.widen (k := 0) (n := 0) (by omega) (by omega) ?_
    exact rq_i hX hR hr hw dJ9_floorMod_7cf53_19 hlocks
  refine rw_entry (ca1 rfl (ca1 rfl ca0)) (Nat.le_of_ble_eq_true rfl) (fun ls hl1 => ?_)
  replace hl := hl1
  clear hl1
  refine rw_iload_n hX hl 0 rfl dJ9_floorMod_7cf53_0 rfl ?_
  refine rw_iload_n hX hl 1 rfl dJ9_floorMod_7cf53_1 rfl ?_
  obtain ⟨h1, hw1⟩ := ck_some hw
  replace hw := hw1
  clear hw1
  refine lv_irem (x := a0) (y := a1) hX.1.1 hX.1.2.1 dJ9_floorMod_7cf53_2 (of_decide_eq_true h1) ?_
  refine rw_istore_n (lv' := [(2, .int (a0 - a0 / a1 * a1)), (0, .int a0), (1, .int a1)]) hX hl (by decide) rfl dJ9_floorMod_7cf53_3 rfl (fun ls hl1 => ?_)
  replace hl := hl1
  clear hl1
  refine rw_iload_n hX hl 1 rfl dJ9_floorMod_7cf53_4 rfl ?_
  refine rw_iload_n hX hl 2 rfl dJ9_floorMod_7cf53_5 rfl ?_
  refine lv_ixor (x := a0) (y := a1) hX.1.1 hX.1.2.1 dJ9_floorMod_7cf53_6 ?_
  refine lv_if_ge (x := (a0 ^^^ a1)) (tgt := 18) hX.1.1 hX.1.2.1 dJ9_floorMod_7cf53_7 (by decide) (fun c2 => ?_) (fun c2 => ?_)
  · replace hw := if_t hw c2
    exact J18 (a0 - a0 / a1 * a1) _ _ (by omega) (by omega) _ _ _ hw hR (lh_sub hl [0] rfl)
  · replace hw := if_f hw c2
    refine rw_iload_n hX hl 0 rfl dJ9_floorMod_7cf53_10 rfl ?_
    refine lv_if_eq (x := (a0 - a0 / a1 * a1)) (tgt := 18) hX.1.1 hX.1.2.1 dJ9_floorMod_7cf53_11 (by decide) (fun c3 => ?_) (fun c3 => ?_)
    · replace hw := if_t hw c3
      exact J18 (a0 - a0 / a1 * a1) _ _ (by omega) (by omega) _ _ _ hw hR (lh_sub hl [0] rfl)
    · replace hw := if_f hw c3
      refine rw_iload_n hX hl 0 rfl dJ9_floorMod_7cf53_14 rfl ?_
      refine rw_iload_n hX hl 2 rfl dJ9_floorMod_7cf53_15 rfl ?_
      refine lv_iadd (x := (a0 - a0 / a1 * a1)) (y := a1) hX.1.1 hX.1.2.1 dJ9_floorMod_7cf53_16 ?_
      exact rq_i hX hR hr hw dJ9_floorMod_7cf53_17 hlocks
set_option maxHeartbeats 8000000 in
set_option maxRecDepth 100000 in
theorem C_f4_note (l : Launch) (γ : GT) (ad : Nat → Nat → Nat) {fu : Nat} (a1 : Int32) (a2 : Int32) (σ : St) (σ' : St) (hw : f4_note fu a1 a2 σ = some σ') : Met l yX3_note (Cond.code yX3_note cX3_note 4 (Option.none : Option Jvm.ClassFile.FieldType) :: GW) (rmo 2 0 0) (va_Pc [.ref (gS γ 4 0), .int a1, .int a2] (RU γ ad σ)) (QV γ ad σ') 0 0 (gA γ) := by
  refine Met.ofW (cc := cX3_note) (maxL := 4) (ret := (Option.none : Option Jvm.ClassFile.FieldType)) (by decide +kernel) rfl ?_
  intro p e s m args below meth c s₁ B hml hv
  obtain ⟨rfl, hU⟩ := hv
  obtain ⟨hX, hR⟩ := cx_of (own := RX3) B hml rfl hU
  have hr := B.returns
  have hlocks := B.notSynchronized
  have hc0 : (0 : Nat) ≤ 0 := Nat.le_refl 0
  show W p l e (rmo 2 0 0) s m ([.ref (gS γ 4 0), .int a1, .int a2] : List Value).toArray below meth c s.heap [] 0 0 (MQ below (QV γ ad σ') ([.ref (gS γ 4 0), .int a1, .int a2] : List Value).toArray s 0 0 (gA γ)) (entryFrame m ([.ref (gS γ 4 0), .int a1, .int a2] : List Value).toArray 4)
  unfold f4_note at hw
  refine rw_entry (ca1 rfl (ca1 rfl (ca1 rfl ca0))) (Nat.le_of_ble_eq_true rfl) (fun ls hl1 => ?_)
  replace hl := hl1
  clear hl1
  refine rw_aload_n hX hl 0 rfl (Or.inr ⟨_, rfl⟩) dX3_note_0 rfl ?_
  refine rw_get hX hR 4 2 0 (C := RX3) (T := TX3) (N := 3) rfl (by decide) (Nat.le_of_ble_eq_true rfl) rfl (v := .int (gi σ 402 0)) rfl uw_X3 gw_67 rfl dX3_note_1 ?_
  refine lv_bipush (v := 20) hX.1.1 hX.1.2.1 dX3_note_4 (by decide) ?_
  obtain ⟨v1, g3, hw1⟩ := ob1_some hw
  replace hw := hw1
  clear hw1
  refine rw_cSi hX hR pk_f90_floorMod (mc := 0) (ms := 0) ⟨rfl, rfl, (show 1 + 1 ≤ 2 by omega), (show 8 + (3 + 11) + 64 * 1 ≤ 64 * 2 by omega)⟩ (As := [.int (gi σ 402 0), .int 20]) (rest := []) rfl (C_f90_floorMod l γ ad (gi σ 402 0) 20 σ v1 g3) gw_473 gw_474 rfl hl.1 ca0 (Nat.le_of_ble_eq_true rfl) dX3_note_6 ⟨(show 0 + 0 ≤ 0 by omega), (show 0 + 0 ≤ 0 by omega)⟩ (fun H locs hR1 => ?_)
  replace hR := hR1
  clear hR1
  refine rw_istore_n (lv' := [(3, .int v1), (0, .ref (gS γ 4 0)), (1, .int a1), (2, .int a2)]) hX hl (by decide) rfl dX3_note_9 rfl (fun ls hl1 => ?_)
  replace hl := hl1
  clear hl1
  refine rw_aload_n hX hl 1 rfl (Or.inr ⟨_, rfl⟩) dX3_note_10 rfl ?_
  refine rw_get hX hR 4 0 0 (C := RX3) (T := TX3) (N := 3) rfl (by decide) (Nat.le_of_ble_eq_true rfl) rfl (v := .ref (gS γ 1400 0)) rfl uw_X3 gw_65 rfl dX3_note_11 ?_
  refine rw_iload_n hX hl 0 rfl dX3_note_14 rfl ?_
  refine rw_iload_n hX hl 2 rfl dX3_note_15 rfl ?_
  obtain ⟨h5, hw1⟩ := ar_some hw
  replace hw := hw1
  clear hw1
  obtain ⟨j4, ej4⟩ : ∃ j, (v1 : Int32).toNatClampNeg = j := ⟨_, rfl⟩
  rw [ej4] at hw
  refine rw_iast hX hR 400 (n := 20) (i := v1) (x := a1) rfl (by decide) rfl rfl h5 dX3_note_16 (fun σ1 H locs e1 hR1 => ?_)
  replace hR := hR1
  clear hR1
  rw [ej4] at e1
  subst e1
  refine rw_aload_n hX hl 1 rfl (Or.inr ⟨_, rfl⟩) dX3_note_17 rfl ?_
  refine rw_get hX hR 4 1 0 (C := RX3) (T := TX3) (N := 3) rfl (by decide) (Nat.le_of_ble_eq_true rfl) rfl (v := .ref (gS γ 1401 0)) rfl uw_X3 gw_66 rfl dX3_note_18 ?_
  refine rw_iload_n hX hl 0 rfl dX3_note_21 rfl ?_
  refine rw_iload_n hX hl 3 rfl dX3_note_22 rfl ?_
  obtain ⟨h7, hw1⟩ := ar_some hw
  replace hw := hw1
  clear hw1
  obtain ⟨j6, ej6⟩ : ∃ j, (v1 : Int32).toNatClampNeg = j := ⟨_, rfl⟩
  rw [ej6] at hw
  refine rw_iast hX hR 401 (n := 20) (i := v1) (x := a2) rfl (by decide) rfl rfl h7 dX3_note_23 (fun σ1 H locs e1 hR1 => ?_)
  replace hR := hR1
  clear hR1
  rw [ej6] at e1
  subst e1
  refine rw_aload_n hX hl 1 rfl (Or.inr ⟨_, rfl⟩) dX3_note_24 rfl ?_
  refine lv_dup hX.1.1 hX.1.2.1 dX3_note_25 rfl ?_
  refine rw_get hX hR 4 2 0 (C := RX3) (T := TX3) (N := 3) rfl (by decide) (Nat.le_of_ble_eq_true rfl) rfl (v := .int (gi (zi (zi σ 400 j4 a1) 401 j6 a2) 402 0)) rfl uw_X3 gw_67 rfl dX3_note_26 ?_
  refine lv_iconst (v := 1) hX.1.1 hX.1.2.1 dX3_note_29 (by decide) ?_
  refine lv_iadd (x := (gi (zi (zi σ 400 j4 a1) 401 j6 a2) 402 0)) (y := 1) hX.1.1 hX.1.2.1 dX3_note_30 ?_
  refine rw_puti (x := ((gi (zi (zi σ 400 j4 a1) 401 j6 a2) 402 0) + 1)) hX hR 4 2 0 402 (C := RX3) (T := TX3) (N := 3) rfl (by decide) rfl rfl (Nat.le_of_ble_eq_true rfl) rfl uw_X3 tyX3 tyX3_ok nmX3 gw_67 rfl rfl (by decide) dX3_note_31 (fun σ1 H locs e1 hR1 => ?_)
  replace hR := hR1
  clear hR1
  subst e1
  refine W.widen (k := 0) (n := 0) (by omega) (by omega) ?_
  exact rq_ve hX hR hr hw dX3_note_34 hlocks
set_option maxHeartbeats 8000000 in
set_option maxRecDepth 100000 in
theorem C_f7_wakeNeedsB (l : Launch) (γ : GT) (ad : Nat → Nat → Nat) {fu : Nat} {wk : (Option Nat) → Int32 → St → Option St} {dd : Nat} (hwk : ∀ (o : Option Nat) (x : Int32) (σ σ' : St), wk o x σ = some σ' → Met l yX6_wake (Cond.code yX6_wake cX6_wake 3 (Option.none : Option Jvm.ClassFile.FieldType) :: GW) (rmo (20 + 2 * dd) 0 0) (va_Pc [.ref (gS γ 7 0), va_rf (Option.map (Ad γ ad 2) o), .int x] (RU γ ad σ)) (QV γ ad σ') 0 0 (gA γ)) (a1 : (Option Nat)) (a2 : Int32) (σ : St) (σ' : St) (hw : f7_wakeNeedsB fu wk a1 a2 σ = some σ') : Met l yX6_wakeNeeds (Cond.code yX6_wakeNeeds cX6_wakeNeeds 3 (Option.none : Option Jvm.ClassFile.FieldType) :: GW) (rmo (20 + 2 * dd + 1) 0 0) (va_Pc [.ref (gS γ 7 0), va_rf (Option.map (Ad γ ad 2) a1), .int a2] (RU γ ad σ)) (QV γ ad σ') 0 0 (gA γ) := by
  refine Met.ofW (cc := cX6_wakeNeeds) (maxL := 3) (ret := (Option.none : Option Jvm.ClassFile.FieldType)) (by decide +kernel) rfl ?_
  intro p e s m args below meth c s₁ B hml hv
  obtain ⟨rfl, hU⟩ := hv
  obtain ⟨hX, hR⟩ := cx_of (own := RX6) B hml rfl hU
  have hr := B.returns
  have hlocks := B.notSynchronized
  have hc0 : (0 : Nat) ≤ 0 := Nat.le_refl 0
  show W p l e (rmo (20 + 2 * dd + 1) 0 0) s m ([.ref (gS γ 7 0), va_rf (Option.map (Ad γ ad 2) a1), .int a2] : List Value).toArray below meth c s.heap [] 0 0 (MQ below (QV γ ad σ') ([.ref (gS γ 7 0), va_rf (Option.map (Ad γ ad 2) a1), .int a2] : List Value).toArray s 0 0 (gA γ)) (entryFrame m ([.ref (gS γ 7 0), va_rf (Option.map (Ad γ ad 2) a1), .int a2] : List Value).toArray 3)
  unfold f7_wakeNeedsB at hw
  refine rw_entry (ca1 rfl (ca1 (rf_cat _) (ca1 rfl ca0))) (Nat.le_of_ble_eq_true rfl) (fun ls hl1 => ?_)
  replace hl := hl1
  clear hl1
  refine rw_aload_n hX hl 0 rfl (Or.inr ⟨_, rfl⟩) dX6_wakeNeeds_0 rfl ?_
  refine rw_aload_n hX hl 1 rfl (va_rf_or _) dX6_wakeNeeds_1 rfl ?_
  obtain ⟨i1, e2, h3, hw1⟩ := dr_some hw
  replace hw := hw1
  clear hw1
  subst e2
  obtain ⟨p4, q5⟩ : ∃ o, gp σ 205 i1 = o := ⟨_, rfl⟩
  replace hw := lt_eq hw q5
  refine rw_getN hX hR 2 5 i1 (C := RX1) (T := TX1) (N := 18) rfl (by decide) h3 rfl (v := va_rf (Option.map (Ad γ ad 2) p4)) (by rw [← q5]; rfl) uw_X1 nw_351 rfl dX6_wakeNeeds_2 ?_
  refine rw_iload_n hX hl 2 rfl dX6_wakeNeeds_5 rfl ?_
  obtain ⟨σ7, g8, hw1⟩ := ob1_some hw
  replace hw := hw1
  clear hw1
  refine rw_cVv hX hR pk_f7_wake (mc := 0) (ms := 0) ⟨rfl, rfl, (show (20 + 2 * dd) + 1 ≤ (20 + 2 * dd + 1) by omega), (show 8 + (3 + 11) + 64 * (20 + 2 * dd) ≤ 64 * (20 + 2 * dd + 1) by omega)⟩ (As := [va_rf (Option.map (Ad γ ad 2) p4), .int a2]) (rest := []) rfl (hwk p4 a2 σ σ7 g8) gw_461 gw_463 gs_18 (rs_recv hX hR 7 0 (C := RX6) (T := TX6) (N := 11) rfl (by decide) (Nat.le_of_ble_eq_true rfl) rfl) rfl hl.1 ca0 (Nat.le_of_ble_eq_true rfl) dX6_wakeNeeds_6 ⟨(show 0 + 0 ≤ 0 by omega), (show 0 + 0 ≤ 0 by omega)⟩ (fun H locs hR1 => ?_)
  replace hR := hR1
  clear hR1
  refine rw_aload_n hX hl 0 rfl (Or.inr ⟨_, rfl⟩) dX6_wakeNeeds_9 rfl ?_
  refine rw_aload_n hX hl 1 rfl (Or.inr ⟨_, rfl⟩) dX6_wakeNeeds_10 rfl ?_
  obtain ⟨h9, hw1⟩ := ck_lt hw
  replace hw := hw1
  clear hw1
  obtain ⟨p10, q11⟩ : ∃ o, gp σ7 206 i1 = o := ⟨_, rfl⟩
  replace hw := lt_eq hw q11
  refine rw_getN hX hR 2 6 i1 (C := RX1) (T := TX1) (N := 18) rfl (by decide) h9 rfl (v := va_rf (Option.map (Ad γ ad 2) p10)) (by rw [← q11]; rfl) uw_X1 nw_353 rfl dX6_wakeNeeds_11 ?_
  refine rw_iload_n hX hl 2 rfl dX6_wakeNeeds_14 rfl ?_
  obtain ⟨σ13, g14, hw1⟩ := ob1_some hw
  replace hw := hw1
  clear hw1
  refine rw_cVv hX hR pk_f7_wake (mc := 0) (ms := 0) ⟨rfl, rfl, (show (20 + 2 * dd) + 1 ≤ (20 + 2 * dd + 1) by omega), (show 8 + (3 + 11) + 64 * (20 + 2 * dd) ≤ 64 * (20 + 2 * dd + 1) by omega)⟩ (As := [va_rf (Option.map (Ad γ ad 2) p10), .int a2]) (rest := []) rfl (hwk p10 a2 σ7 σ13 g14) gw_461 gw_463 gs_18 (rs_recv hX hR 7 0 (C := RX6) (T := TX6) (N := 11) rfl (by decide) (Nat.le_of_ble_eq_true rfl) rfl) rfl hl.1 ca0 (Nat.le_of_ble_eq_true rfl) dX6_wakeNeeds_15 ⟨(show (0 + 0) + 0 ≤ 0 by omega), (show (0 + 0) + 0 ≤ 0 by omega)⟩ (fun H locs hR1 => ?_)
  replace hR := hR1
  clear hR1
  refine rw_aload_n hX hl 0 rfl (Or.inr ⟨_, rfl⟩) dX6_wakeNeeds_18 rfl ?_
  refine rw_aload_n hX hl 1 rfl (Or.inr ⟨_, rfl⟩) dX6_wakeNeeds_19 rfl ?_
  obtain ⟨h15, hw1⟩ := ck_lt hw
  replace hw := hw1
  clear hw1
  obtain ⟨p16, q17⟩ : ∃ o, gp σ13 207 i1 = o := ⟨_, rfl⟩
  replace hw := lt_eq hw q17
  refine rw_getN hX hR 2 7 i1 (C := RX1) (T := TX1) (N := 18) rfl (by decide) h15 rfl (v := va_rf (Option.map (Ad γ ad 2) p16)) (by rw [← q17]; rfl) uw_X1 nw_355 rfl dX6_wakeNeeds_20 ?_
  refine rw_iload_n hX hl 2 rfl dX6_wakeNeeds_23 rfl ?_
  obtain ⟨σ19, g20, hw1⟩ := ob1_some hw
  replace hw := hw1
  clear hw1
  refine rw_cVv hX hR pk_f7_wake (mc := 0) (ms := 0) ⟨rfl, rfl, (show (20 + 2 * dd) + 1 ≤ (20 + 2 * dd + 1) by omega), (show 8 + (3 + 11) + 64 * (20 + 2 * dd) ≤ 64 * (20 + 2 * dd + 1) by omega)⟩ (As := [va_rf (Option.map (Ad γ ad 2) p16), .int a2]) (rest := []) rfl (hwk p16 a2 σ13 σ19 g20) gw_461 gw_463 gs_18 (rs_recv hX hR 7 0 (C := RX6) (T := TX6) (N := 11) rfl (by decide) (Nat.le_of_ble_eq_true rfl) rfl) rfl hl.1 ca0 (Nat.le_of_ble_eq_true rfl) dX6_wakeNeeds_24 ⟨(show ((0 + 0) + 0) + 0 ≤ 0 by omega), (show ((0 + 0) + 0) + 0 ≤ 0 by omega)⟩ (fun H locs hR1 => ?_)
  replace hR := hR1
  clear hR1
  refine W.widen (k := 0) (n := 0) (by omega) (by omega) ?_
  exact rq_ve hX hR hr hw dX6_wakeNeeds_27 hlocks
set_option maxHeartbeats 8000000 in
set_option maxRecDepth 100000 in
theorem C_f7_wakeB (l : Launch) (γ : GT) (ad : Nat → Nat → Nat) {fu : Nat} {wn : (Option Nat) → Int32 → St → Option St} {dd : Nat} (hwn : ∀ (o : Option Nat) (x : Int32) (σ σ' : St), wn o x σ = some σ' → Met l yX6_wakeNeeds (Cond.code yX6_wakeNeeds cX6_wakeNeeds 3 (Option.none : Option Jvm.ClassFile.FieldType) :: GW) (rmo (20 + 2 * dd + 1) 0 0) (va_Pc [.ref (gS γ 7 0), va_rf (Option.map (Ad γ ad 2) o), .int x] (RU γ ad σ)) (QV γ ad σ') 0 0 (gA γ)) (a1 : (Option Nat)) (a2 : Int32) (σ : St) (σ' : St) (hw : f7_wakeB fu wn a1 a2 σ = some σ') : Met l yX6_wake (Cond.code yX6_wake cX6_wake 3 (Option.none : Option Jvm.ClassFile.FieldType) :: GW) (rmo (20 + 2 * dd + 2) 0 0) (va_Pc [.ref (gS γ 7 0), va_rf (Option.map (Ad γ ad 2) a1), .int a2] (RU γ ad σ)) (QV γ ad σ') 0 0 (gA γ) := by
  refine Met.ofW (cc := cX6_wake) (maxL := 3) (ret := (Option.none : Option Jvm.ClassFile.FieldType)) (by decide +kernel) rfl ?_
  intro p e s m args below meth c s₁ B hml hv
  obtain ⟨rfl, hU⟩ := hv
  obtain ⟨hX, hR⟩ := cx_of (own := RX6) B hml rfl hU
  have hr := B.returns
  have hlocks := B.notSynchronized
  have hc0 : (0 : Nat) ≤ 0 := Nat.le_refl 0
  show W p l e (rmo (20 + 2 * dd + 2) 0 0) s m ([.ref (gS γ 7 0), va_rf (Option.map (Ad γ ad 2) a1), .int a2] : List Value).toArray below meth c s.heap [] 0 0 (MQ below (QV γ ad σ') ([.ref (gS γ 7 0), va_rf (Option.map (Ad γ ad 2) a1), .int a2] : List Value).toArray s 0 0 (gA γ)) (entryFrame m ([.ref (gS γ 7 0), va_rf (Option.map (Ad γ ad 2) a1), .int a2] : List Value).toArray 3)
  unfold f7_wakeB at hw
  have J51 : ∀ (x1 : (Option Nat)) (σ : St) (cells slots : Nat), cells ≤ 0 → slots ≤ 0 → ∀ (H : Heap) (locs : List Loc) (ls : Array Slot), f7_wake_j51 fu x1 σ = some σ' → RS γ ad σ s H locs → lh ls 3 [(0, .ref (gS γ 7 0)), (1, va_rf (Option.map (Ad γ ad 2) x1))] → W p l e (rmo (20 + 2 * dd + 2) 0 0) s m ([.ref (gS γ 7 0), va_rf (Option.map (Ad γ ad 2) a1), .int a2] : List Value).toArray below meth c H locs cells slots (MQ below (QV γ ad σ') ([.ref (gS γ 7 0), va_rf (Option.map (Ad γ ad 2) a1), .int a2] : List Value).toArray s 0 0 (gA γ)) (F0 m 51 ls []) := by
    intro x1 σ cells slots hc1 hc2 H locs ls hw hR hl
    unfold f7_wake_j51 at hw
    refine rw_aload_n hX hl 0 rfl (Or.inr ⟨_, rfl⟩) dX6_wake_51 rfl ?_
    refine rw_get hX hR 7 7 0 (C := RX6) (T := TX6) (N := 11) rfl (by decide) (Nat.le_of_ble_eq_true rfl) rfl (v := .ref (gS γ 4 0)) rfl uw_X6 gw_156 rfl dX6_wake_52 ?_
    refine lv_iconst (v := 4) hX.1.1 hX.1.2.1 dX6_wake_55 (by decide) ?_
    refine rw_aload_n hX hl 1 rfl (va_rf_or _) dX6_wake_56 rfl ?_
    obtain ⟨i15, e16, h17, hw1⟩ := dr_some hw
    replace hw := hw1
    clear hw1
    subst e16
    refine rw_getN hX hR 2 0 i15 (C := RX1) (T := TX1) (N := 18) rfl (by decide) h17 rfl (v := .int (gi σ 200 i15)) rfl uw_X1 nw_342 rfl dX6_wake_57 ?_
    obtain ⟨σ19, g20, hw1⟩ := ob1_some hw
    replace hw := hw1
    clear hw1
    refine rw_cVNv hX hR pk_f4_note (mc := 0) (ms := 0) ⟨rfl, rfl, (show 2 + 1 ≤ (20 + 2 * dd + 2) by omega), (show 8 + (4 + 11) + 64 * 2 ≤ 64 * (20 + 2 * dd + 2) by omega)⟩ (As := [.int 4, .int (gi σ 200 i15)]) (rest := []) rfl (C_f4_note l γ ad 4 (gi σ 200 i15) σ σ19 g20) nw_469 gw_471 gs_20 (rs_recv hX hR 4 0 (C := RX3) (T := TX3) (N := 3) rfl (by decide) (Nat.le_of_ble_eq_true rfl) rfl) rfl hl.1 ca0 (Nat.le_of_ble_eq_true rfl) dX6_wake_60 ⟨(show cells + 0 ≤ 0 by omega), (show slots + 0 ≤ 0 by omega)⟩ (fun H locs hR1 => ?_)
    replace hR := hR1
    clear hR1
    refine W.widen (k := 0) (n := 0) (by omega) (by omega) ?_
    exact rq_ve hX hR hr hw dX6_wake_63 hlocks
  refine rw_entry (ca1 rfl (ca1 (rf_cat _) (ca1 rfl ca0))) (Nat.le_of_ble_eq_true rfl) (fun ls hl1 => ?_)
  replace hl := hl1
  clear hl1
  refine rw_aload_n hX hl 1 rfl (va_rf_or _) dX6_wake_0 rfl ?_
  refine rw_ifnull hX (o := a1) (g := Ad γ ad 2) (tgt := 17) dX6_wake_1 (by decide) (fun c1 => ?_) (fun c1 => ?_)
  · replace hw := if_t hw c1
    exact rq_ve hX hR hr hw dX6_wake_17 hlocks
  · replace hw := if_f hw c1
    refine rw_aload_n hX hl 1 rfl (va_rf_or _) dX6_wake_4 rfl ?_
    obtain ⟨i2, e3, h4, hw1⟩ := dr_some hw
    replace hw := hw1
    clear hw1
    subst e3
    refine rw_getN hX hR 2 12 i2 (C := RX1) (T := TX1) (N := 18) rfl (by decide) h4 rfl (v := .int (b2i (gb σ 212 i2))) rfl uw_X1 nw_364 rfl dX6_wake_5 ?_
    refine rw_ifneZ (b := (gb σ 212 i2)) (tgt := 17) hX dX6_wake_8 (by decide) (fun c5 => ?_) (fun c5 => ?_)
    · replace hw := if_t hw c5
      exact rq_ve hX hR hr hw dX6_wake_17 hlocks
    · replace hw := if_f hw c5
      refine rw_iload_n hX hl 2 rfl dX6_wake_11 rfl ?_
      refine lv_bipush (v := 24) hX.1.1 hX.1.2.1 dX6_wake_12 (by decide) ?_
      refine lv_icmp_le (x := a2) (y := 24) (tgt := 18) hX.1.1 hX.1.2.1 dX6_wake_14 (by decide) (fun c6 => ?_) (fun c6 => ?_)
      · replace hw := if_t hw c6
        refine rw_aload_n hX hl 0 rfl (Or.inr ⟨_, rfl⟩) dX6_wake_18 rfl ?_
        refine rw_aload_n hX hl 1 rfl (Or.inr ⟨_, rfl⟩) dX6_wake_19 rfl ?_
        refine rw_iload_n hX hl 2 rfl dX6_wake_20 rfl ?_
        refine lv_iconst (v := 1) hX.1.1 hX.1.2.1 dX6_wake_21 (by decide) ?_
        refine lv_iadd (x := a2) (y := 1) hX.1.1 hX.1.2.1 dX6_wake_22 ?_
        obtain ⟨σ8, g9, hw1⟩ := ob1_some hw
        replace hw := hw1
        clear hw1
        refine rw_cVv hX hR pk_f7_wakeNeeds (mc := 0) (ms := 0) ⟨rfl, rfl, (show (20 + 2 * dd + 1) + 1 ≤ (20 + 2 * dd + 2) by omega), (show 8 + (3 + 11) + 64 * (20 + 2 * dd + 1) ≤ 64 * (20 + 2 * dd + 2) by omega)⟩ (As := [va_rf (Option.map (Ad γ ad 2) (some i2)), .int (a2 + 1)]) (rest := []) rfl (hwn (some i2) (a2 + 1) σ σ8 g9) gw_457 gw_459 gs_17 (rs_recv hX hR 7 0 (C := RX6) (T := TX6) (N := 11) rfl (by decide) (Nat.le_of_ble_eq_true rfl) rfl) rfl hl.1 ca0 (Nat.le_of_ble_eq_true rfl) dX6_wake_23 ⟨(show 0 + 0 ≤ 0 by omega), (show 0 + 0 ≤ 0 by omega)⟩ (fun H locs hR1 => ?_)
        replace hR := hR1
        clear hR1
        refine rw_aload_n hX hl 1 rfl (Or.inr ⟨_, rfl⟩) dX6_wake_26 rfl ?_
        refine lv_iconst (v := 1) hX.1.1 hX.1.2.1 dX6_wake_27 (by decide) ?_
        obtain ⟨h10, hw1⟩ := ck_lt hw
        replace hw := hw1
        clear hw1
        refine rw_putbN (x := true) hX hR 2 12 i2 212 (C := RX1) (T := TX1) (N := 18) rfl (by decide) rfl rfl h10 rfl uw_X1 tyX1 tyX1_ok nmX1 nw_364 rfl rfl (by decide) dX6_wake_28 (fun σ1 H locs e1 hR1 => ?_)
        replace hR := hR1
        clear hR1
        subst e1
        refine rw_aload_n hX hl 1 rfl (Or.inr ⟨_, rfl⟩) dX6_wake_31 rfl ?_
        refine rw_aload_n hX hl 0 rfl (Or.inr ⟨_, rfl⟩) dX6_wake_32 rfl ?_
        refine rw_get hX hR 7 8 0 (C := RX6) (T := TX6) (N := 11) rfl (by decide) (Nat.le_of_ble_eq_true rfl) rfl (v := .int (gi (zb σ8 212 i2 true) 708 0)) rfl uw_X6 gw_157 rfl dX6_wake_33 ?_
        refine rw_putiN (x := (gi (zb σ8 212 i2 true) 708 0)) hX hR 2 14 i2 214 (C := RX1) (T := TX1) (N := 18) rfl (by decide) rfl rfl h10 rfl uw_X1 tyX1 tyX1_ok nmX1 nw_366 rfl rfl (by decide) dX6_wake_36 (fun σ1 H locs e1 hR1 => ?_)
        replace hR := hR1
        clear hR1
        subst e1
        refine rw_aload_n hX hl 1 rfl (Or.inr ⟨_, rfl⟩) dX6_wake_39 rfl ?_
        obtain ⟨v11, g13, hw1⟩ := ob1_some hw
        replace hw := hw1
        clear hw1
        refine rw_cVNi hX hR pk_f2_isSaved (mc := 0) (ms := 0) ⟨rfl, rfl, (show 1 + 1 ≤ (20 + 2 * dd + 2) by omega), (show 8 + (1 + 11) + 64 * 1 ≤ 64 * (20 + 2 * dd + 2) by omega)⟩ (As := []) (rest := []) rfl (C_f2_isSaved l γ ad i2 (zi (zb σ8 212 i2 true) 214 i2 (gi (zb σ8 212 i2 true) 708 0)) v11 g13) nw_465 gw_467 gs_19 (rs_recv hX hR 2 i2 (C := RX1) (T := TX1) (N := 18) rfl (by decide) h10 rfl) rfl hl.1 ca0 (Nat.le_of_ble_eq_true rfl) dX6_wake_40 ⟨(show (0 + 0) + 0 ≤ 0 by omega), (show (0 + 0) + 0 ≤ 0 by omega)⟩ (fun H locs hR1 => ?_)
        replace hR := hR1
        clear hR1
        refine rw_ifneZ (b := v11) (tgt := 51) hX dX6_wake_43 (by decide) (fun c14 => ?_) (fun c14 => ?_)
        · replace hw := if_t hw c14
          exact J51 (some i2) (zi (zb σ8 212 i2 true) 214 i2 (gi (zb σ8 212 i2 true) 708 0)) _ _ (by omega) (by omega) _ _ _ hw hR (lh_sub hl [0, 1] rfl)
        · replace hw := if_f hw c14
          refine rw_aload_n hX hl 1 rfl (Or.inr ⟨_, rfl⟩) dX6_wake_46 rfl ?_
          refine lv_iconst (v := 0) hX.1.1 hX.1.2.1 dX6_wake_47 (by decide) ?_
          refine rw_putiN (x := 0) hX hR 2 13 i2 213 (C := RX1) (T := TX1) (N := 18) rfl (by decide) rfl rfl h10 rfl uw_X1 tyX1 tyX1_ok nmX1 nw_365 rfl rfl (by decide) dX6_wake_48 (fun σ1 H locs e1 hR1 => ?_)
          replace hR := hR1
          clear hR1
          subst e1
          exact J51 (some i2) (zi (zi (zb σ8 212 i2 true) 214 i2 (gi (zb σ8 212 i2 true) 708 0)) 213 i2 0) _ _ (by omega) (by omega) _ _ _ hw hR (lh_sub hl [0, 1] rfl)
      · replace hw := if_f hw c6
        exact rq_ve hX hR hr hw dX6_wake_17 hlocks
theorem C_f7_wakeR (l : Launch) (γ : GT) (ad : Nat → Nat → Nat) {fu : Nat} : ∀ (dd : Nat) (a1 : (Option Nat)) (a2 : Int32) (σ σ' : St), f7_wakeR fu dd a1 a2 σ = some σ' → Met l yX6_wake (Cond.code yX6_wake cX6_wake 3 (Option.none : Option Jvm.ClassFile.FieldType) :: GW) (rmo (20 + 2 * dd) 0 0) (va_Pc [.ref (gS γ 7 0), va_rf (Option.map (Ad γ ad 2) a1), .int a2] (RU γ ad σ)) (QV γ ad σ') 0 0 (gA γ)
  | 0, _, _, _, _, hw => by cases hw
  | dd + 1, a1, a2, σ, σ', hw => C_f7_wakeB l γ ad (dd := dd) (fun o x σ σ' h => C_f7_wakeNeedsB l γ ad (C_f7_wakeR l γ ad dd) o x σ σ' h) a1 a2 σ σ' hw
theorem C_f7_wake (l : Launch) (γ : GT) (ad : Nat → Nat → Nat) {fu : Nat} (a1 : (Option Nat)) (a2 : Int32) (σ σ' : St) (hw : f7_wake fu a1 a2 σ = some σ') : Met l yX6_wake (Cond.code yX6_wake cX6_wake 3 (Option.none : Option Jvm.ClassFile.FieldType) :: GW) (rmo 80 0 0) (va_Pc [.ref (gS γ 7 0), va_rf (Option.map (Ad γ ad 2) a1), .int a2] (RU γ ad σ)) (QV γ ad σ') 0 0 (gA γ) := C_f7_wakeR l γ ad 30 a1 a2 σ σ' hw
theorem C_f7_wakeNeeds (l : Launch) (γ : GT) (ad : Nat → Nat → Nat) {fu : Nat} (a1 : (Option Nat)) (a2 : Int32) (σ σ' : St) (hw : f7_wakeNeeds fu a1 a2 σ = some σ') : Met l yX6_wakeNeeds (Cond.code yX6_wakeNeeds cX6_wakeNeeds 3 (Option.none : Option Jvm.ClassFile.FieldType) :: GW) (rmo 81 0 0) (va_Pc [.ref (gS γ 7 0), va_rf (Option.map (Ad γ ad 2) a1), .int a2] (RU γ ad σ)) (QV γ ad σ') 0 0 (gA γ) := C_f7_wakeNeedsB l γ ad (C_f7_wakeR l γ ad 30) a1 a2 σ σ' hw

set_option maxHeartbeats 8000000 in
set_option maxRecDepth 100000 in
theorem C_f7_attach (l : Launch) (γ : GT) (ad : Nat → Nat → Nat) {fu : Nat} (a1 : (Option Nat)) (σ : St) (σ' : St) (hw : f7_attach fu a1 σ = some σ') : Met l yX6_attach (Cond.code yX6_attach cX6_attach 2 (Option.none : Option Jvm.ClassFile.FieldType) :: GW) (rmo 82 1 230) (va_Pc [.ref (gS γ 7 0), va_rf (Option.map (Ad γ ad 2) a1)] (RU γ ad σ)) (QV γ ad σ') 1 230 (gA γ) := by
  refine Met.ofW (cc := cX6_attach) (maxL := 2) (ret := (Option.none : Option Jvm.ClassFile.FieldType)) (by decide +kernel) rfl ?_
  intro p e s m args below meth c s₁ B hml hv
  obtain ⟨rfl, hU⟩ := hv
  obtain ⟨hX, hR⟩ := cx_of (own := RX6) B hml rfl hU
  have hr := B.returns
  have hlocks := B.notSynchronized
  have hc0 : (0 : Nat) ≤ 0 := Nat.le_refl 0
  show W p l e (rmo 82 1 230) s m ([.ref (gS γ 7 0), va_rf (Option.map (Ad γ ad 2) a1)] : List Value).toArray below meth c s.heap [] 0 0 (MQ below (QV γ ad σ') ([.ref (gS γ 7 0), va_rf (Option.map (Ad γ ad 2) a1)] : List Value).toArray s 1 230 (gA γ)) (entryFrame m ([.ref (gS γ 7 0), va_rf (Option.map (Ad γ ad 2) a1)] : List Value).toArray 2)
  unfold f7_attach at hw
  have J23 : ∀ (x1 : (Option Nat)) (y0 : (Option Nat)) (y1 : Int32) (σ : St) (cells slots : Nat), cells ≤ 0 → slots ≤ 0 → ∀ (H : Heap) (locs : List Loc) (ls : Array Slot), f7_attach_j23 fu x1 y0 y1 σ = some σ' → RS γ ad σ s H locs → lh ls 2 [(0, .ref (gS γ 7 0)), (1, va_rf (Option.map (Ad γ ad 2) x1))] → W p l e (rmo 82 1 230) s m ([.ref (gS γ 7 0), va_rf (Option.map (Ad γ ad 2) a1)] : List Value).toArray below meth c H locs cells slots (MQ below (QV γ ad σ') ([.ref (gS γ 7 0), va_rf (Option.map (Ad γ ad 2) a1)] : List Value).toArray s 1 230 (gA γ)) (F0 m 23 ls [.int y1, va_rf (Option.map (Ad γ ad 2) y0)]) := by
    intro x1 y0 y1 σ cells slots hc1 hc2 H locs ls hw hR hl
    unfold f7_attach_j23 at hw
    obtain ⟨i8, e9, h10, hw1⟩ := dr_some hw
    replace hw := hw1
    clear hw1
    subst e9
    refine rw_putiN (x := y1) hX hR 2 11 i8 211 (C := RX1) (T := TX1) (N := 18) rfl (by decide) rfl rfl h10 rfl uw_X1 tyX1 tyX1_ok nmX1 nw_363 rfl rfl (by decide) dX6_attach_23 (fun σ1 H locs e1 hR1 => ?_)
    replace hR := hR1
    clear hR1
    subst e1
    refine rw_aload_n hX hl 1 rfl (va_rf_or _) dX6_attach_26 rfl ?_
    refine rw_aload_n hX hl 0 rfl (Or.inr ⟨_, rfl⟩) dX6_attach_27 rfl ?_
    refine rw_aload_n hX hl 1 rfl (va_rf_or _) dX6_attach_28 rfl ?_
    obtain ⟨i11, e12, h13, hw1⟩ := dr_some hw
    replace hw := hw1
    clear hw1
    subst e12
    refine rw_getN hX hR 2 1 i11 (C := RX1) (T := TX1) (N := 18) rfl (by decide) h13 rfl (v := .int (gi (zi σ 211 i8 y1) 201 i11)) rfl uw_X1 nw_344 rfl dX6_attach_29 ?_
    obtain ⟨v14, g16, hw1⟩ := ob1_some hw
    replace hw := hw1
    clear hw1
    refine rw_cVq hX hR pk_f7_bestDriver (mc := 0) (ms := 0) ⟨rfl, rfl, (show 15 + 1 ≤ 82 by omega), (show 8 + (5 + 11) + 64 * 15 ≤ 64 * 82 by omega)⟩ (As := [.int (gi (zi σ 211 i8 y1) 201 i11)]) (rest := [.ref (Ad γ ad 2 i11)]) rfl (C_f7_bestDriver l γ ad (gi (zi σ 211 i8 y1) 201 i11) (zi σ 211 i8 y1) v14 g16) gw_424 gw_426 gs_10 (rs_recv hX hR 7 0 (C := RX6) (T := TX6) (N := 11) rfl (by decide) (Nat.le_of_ble_eq_true rfl) rfl) rfl hl.1 (ca1 rfl ca0) (Nat.le_of_ble_eq_true rfl) dX6_attach_32 ⟨(show cells + 0 ≤ 1 by omega), (show slots + 0 ≤ 230 by omega)⟩ (fun H locs hR1 => ?_)
    replace hR := hR1
    clear hR1
    refine rw_putpN (E := "DriverMoor$Driver") (x := v14) hX hR 2 10 i11 210 (C := RX1) (T := TX1) (N := 18) rfl (by decide) rfl rfl h13 rfl uw_X1 tyX1 tyX1_ok nmX1 nw_361 rfl rfl (by decide) dX6_attach_35 (fun σ1 H locs e1 hR1 => ?_)
    replace hR := hR1
    clear hR1
    subst e1
    refine rw_aload_n hX hl 1 rfl (Or.inr ⟨_, rfl⟩) dX6_attach_38 rfl ?_
    refine lv_iconst (v := 1) hX.1.1 hX.1.2.1 dX6_attach_39 (by decide) ?_
    refine rw_putbN (x := true) hX hR 2 12 i11 212 (C := RX1) (T := TX1) (N := 18) rfl (by decide) rfl rfl h13 rfl uw_X1 tyX1 tyX1_ok nmX1 nw_364 rfl rfl (by decide) dX6_attach_40 (fun σ1 H locs e1 hR1 => ?_)
    replace hR := hR1
    clear hR1
    subst e1
    refine rw_aload_n hX hl 1 rfl (Or.inr ⟨_, rfl⟩) dX6_attach_43 rfl ?_
    refine lv_iconst (v := 0) hX.1.1 hX.1.2.1 dX6_attach_44 (by decide) ?_
    refine rw_putiN (x := 0) hX hR 2 13 i11 213 (C := RX1) (T := TX1) (N := 18) rfl (by decide) rfl rfl h13 rfl uw_X1 tyX1 tyX1_ok nmX1 nw_365 rfl rfl (by decide) dX6_attach_45 (fun σ1 H locs e1 hR1 => ?_)
    replace hR := hR1
    clear hR1
    subst e1
    refine rw_aload_n hX hl 1 rfl (Or.inr ⟨_, rfl⟩) dX6_attach_48 rfl ?_
    refine lv_iconst (v := 0) hX.1.1 hX.1.2.1 dX6_attach_49 (by decide) ?_
    refine rw_putbN (x := false) hX hR 2 15 i11 215 (C := RX1) (T := TX1) (N := 18) rfl (by decide) rfl rfl h13 rfl uw_X1 tyX1 tyX1_ok nmX1 nw_367 rfl rfl (by decide) dX6_attach_50 (fun σ1 H locs e1 hR1 => ?_)
    replace hR := hR1
    clear hR1
    subst e1
    refine rw_aload_n hX hl 1 rfl (Or.inr ⟨_, rfl⟩) dX6_attach_53 rfl ?_
    refine rw_aload_n hX hl 0 rfl (Or.inr ⟨_, rfl⟩) dX6_attach_54 rfl ?_
    refine rw_get hX hR 7 8 0 (C := RX6) (T := TX6) (N := 11) rfl (by decide) (Nat.le_of_ble_eq_true rfl) rfl (v := .int (gi (zb (zi (zb (zp (zi σ 211 i8 y1) 210 i11 v14) 212 i11 true) 213 i11 0) 215 i11 false) 708 0)) rfl uw_X6 gw_157 rfl dX6_attach_55 ?_
    refine rw_putiN (x := (gi (zb (zi (zb (zp (zi σ 211 i8 y1) 210 i11 v14) 212 i11 true) 213 i11 0) 215 i11 false) 708 0)) hX hR 2 14 i11 214 (C := RX1) (T := TX1) (N := 18) rfl (by decide) rfl rfl h13 rfl uw_X1 tyX1 tyX1_ok nmX1 nw_366 rfl rfl (by decide) dX6_attach_58 (fun σ1 H locs e1 hR1 => ?_)
    replace hR := hR1
    clear hR1
    subst e1
    refine rw_aload_n hX hl 0 rfl (Or.inr ⟨_, rfl⟩) dX6_attach_61 rfl ?_
    refine rw_get hX hR 7 1 0 (C := RX6) (T := TX6) (N := 11) rfl (by decide) (Nat.le_of_ble_eq_true rfl) rfl (v := .ref (gS γ 0 1)) rfl uw_X6 gw_150 rfl dX6_attach_62 ?_
    refine rw_aload_n hX hl 1 rfl (Or.inr ⟨_, rfl⟩) dX6_attach_65 rfl ?_
    obtain ⟨h17, hw1⟩ := ck_lt hw
    replace hw := hw1
    clear hw1
    obtain ⟨h18, hw1⟩ := ck_some hw
    replace hw := hw1
    clear hw1
    refine rw_cVi hX hR pk_ladd (mc := 1) (ms := 230) ⟨rfl, rfl, Nat.le_of_ble_eq_true rfl, Nat.le_of_ble_eq_true rfl⟩ (As := [.ref (Ad γ ad 2 i11)]) (rest := []) rfl (C_ladd l γ ad (zi (zb (zi (zb (zp (zi σ 211 i8 y1) 210 i11 v14) 212 i11 true) 213 i11 0) 215 i11 false) 214 i11 (gi (zb (zi (zb (zp (zi σ 211 i8 y1) 210 i11 v14) 212 i11 true) 213 i11 0) 215 i11 false) 708 0)) 1 i11 (by decide) h13 h18 h17) gw_90 gw_91 gw_92 (rs_recvL hX hR 1 (by decide)) rfl hl.1 ca0 (Nat.le_of_ble_eq_true rfl) dX6_attach_66 ⟨(show (cells + 0) + 1 ≤ 1 by omega), (show (slots + 0) + 230 ≤ 230 by omega)⟩ (fun H locs hR1 => ?_)
    replace hR := hR1
    clear hR1
    refine lv_pop hX.1.1 hX.1.2.1 dX6_attach_69 rfl ?_
    refine rw_aload_n hX hl 0 rfl (Or.inr ⟨_, rfl⟩) dX6_attach_70 rfl ?_
    refine rw_get hX hR 7 7 0 (C := RX6) (T := TX6) (N := 11) rfl (by decide) (Nat.le_of_ble_eq_true rfl) rfl (v := .ref (gS γ 4 0)) rfl uw_X6 gw_156 rfl dX6_attach_71 ?_
    refine lv_iconst (v := 0) hX.1.1 hX.1.2.1 dX6_attach_74 (by decide) ?_
    refine rw_aload_n hX hl 1 rfl (Or.inr ⟨_, rfl⟩) dX6_attach_75 rfl ?_
    refine rw_getN hX hR 2 0 i11 (C := RX1) (T := TX1) (N := 18) rfl (by decide) h13 rfl (v := .int (gi (ladd (zi (zb (zi (zb (zp (zi σ 211 i8 y1) 210 i11 v14) 212 i11 true) 213 i11 0) 215 i11 false) 214 i11 (gi (zb (zi (zb (zp (zi σ 211 i8 y1) 210 i11 v14) 212 i11 true) 213 i11 0) 215 i11 false) 708 0)) 1 i11) 200 i11)) rfl uw_X1 nw_342 rfl dX6_attach_76 ?_
    obtain ⟨σ20, g21, hw1⟩ := ob1_some hw
    replace hw := hw1
    clear hw1
    refine rw_cVNv hX hR pk_f4_note (mc := 0) (ms := 0) ⟨rfl, rfl, (show 2 + 1 ≤ 82 by omega), (show 8 + (4 + 11) + 64 * 2 ≤ 64 * 82 by omega)⟩ (As := [.int 0, .int (gi (ladd (zi (zb (zi (zb (zp (zi σ 211 i8 y1) 210 i11 v14) 212 i11 true) 213 i11 0) 215 i11 false) 214 i11 (gi (zb (zi (zb (zp (zi σ 211 i8 y1) 210 i11 v14) 212 i11 true) 213 i11 0) 215 i11 false) 708 0)) 1 i11) 200 i11)]) (rest := []) rfl (C_f4_note l γ ad 0 (gi (ladd (zi (zb (zi (zb (zp (zi σ 211 i8 y1) 210 i11 v14) 212 i11 true) 213 i11 0) 215 i11 false) 214 i11 (gi (zb (zi (zb (zp (zi σ 211 i8 y1) 210 i11 v14) 212 i11 true) 213 i11 0) 215 i11 false) 708 0)) 1 i11) 200 i11) (ladd (zi (zb (zi (zb (zp (zi σ 211 i8 y1) 210 i11 v14) 212 i11 true) 213 i11 0) 215 i11 false) 214 i11 (gi (zb (zi (zb (zp (zi σ 211 i8 y1) 210 i11 v14) 212 i11 true) 213 i11 0) 215 i11 false) 708 0)) 1 i11) σ20 g21) nw_469 gw_471 gs_20 (rs_recv hX hR 4 0 (C := RX3) (T := TX3) (N := 3) rfl (by decide) (Nat.le_of_ble_eq_true rfl) rfl) rfl hl.1 ca0 (Nat.le_of_ble_eq_true rfl) dX6_attach_79 ⟨(show ((cells + 0) + 1) + 0 ≤ 1 by omega), (show ((slots + 0) + 230) + 0 ≤ 230 by omega)⟩ (fun H locs hR1 => ?_)
    replace hR := hR1
    clear hR1
    refine W.widen (k := 1) (n := 230) (by omega) (by omega) ?_
    exact rq_ve hX hR hr hw dX6_attach_82 hlocks
  refine rw_entry (ca1 rfl (ca1 (rf_cat _) ca0)) (Nat.le_of_ble_eq_true rfl) (fun ls hl1 => ?_)
  replace hl := hl1
  clear hl1
  refine rw_aload_n hX hl 0 rfl (Or.inr ⟨_, rfl⟩) dX6_attach_0 rfl ?_
  refine rw_aload_n hX hl 1 rfl (va_rf_or _) dX6_attach_1 rfl ?_
  refine lv_iconst (v := 1) hX.1.1 hX.1.2.1 dX6_attach_2 (by decide) ?_
  obtain ⟨σ2, g3, hw1⟩ := ob1_some hw
  replace hw := hw1
  clear hw1
  refine rw_cVv hX hR pk_f7_wakeNeeds (mc := 0) (ms := 0) ⟨rfl, rfl, (show 81 + 1 ≤ 82 by omega), (show 8 + (3 + 11) + 64 * 81 ≤ 64 * 82 by omega)⟩ (As := [va_rf (Option.map (Ad γ ad 2) a1), .int 1]) (rest := []) rfl (C_f7_wakeNeeds l γ ad a1 1 σ σ2 g3) gw_457 gw_459 gs_17 (rs_recv hX hR 7 0 (C := RX6) (T := TX6) (N := 11) rfl (by decide) (Nat.le_of_ble_eq_true rfl) rfl) rfl hl.1 ca0 (Nat.le_of_ble_eq_true rfl) dX6_attach_3 ⟨(show 0 + 0 ≤ 1 by omega), (show 0 + 0 ≤ 230 by omega)⟩ (fun H locs hR1 => ?_)
  replace hR := hR1
  clear hR1
  refine rw_aload_n hX hl 1 rfl (va_rf_or _) dX6_attach_6 rfl ?_
  refine rw_aload_n hX hl 1 rfl (va_rf_or _) dX6_attach_7 rfl ?_
  obtain ⟨i4, e5, h6, hw1⟩ := dr_some hw
  replace hw := hw1
  clear hw1
  subst e5
  refine rw_getN hX hR 2 2 i4 (C := RX1) (T := TX1) (N := 18) rfl (by decide) h6 rfl (v := .int (gi σ2 202 i4)) rfl uw_X1 nw_346 rfl dX6_attach_8 ?_
  refine lv_if_le (x := (gi σ2 202 i4)) (tgt := 22) hX.1.1 hX.1.2.1 dX6_attach_11 (by decide) (fun c7 => ?_) (fun c7 => ?_)
  · replace hw := if_t hw c7
    refine lv_iconst (v := (-1)) hX.1.1 hX.1.2.1 dX6_attach_22 (by decide) ?_
    exact J23 (some i4) (some i4) (-1) σ2 _ _ (by omega) (by omega) _ _ _ hw hR (lh_sub hl [0, 1] rfl)
  · replace hw := if_f hw c7
    refine rw_aload_n hX hl 0 rfl (Or.inr ⟨_, rfl⟩) dX6_attach_14 rfl ?_
    refine rw_aload_n hX hl 1 rfl (Or.inr ⟨_, rfl⟩) dX6_attach_15 rfl ?_
    obtain ⟨v22, g24, hw1⟩ := ob1_some hw
    replace hw := hw1
    clear hw1
    refine rw_cVi hX hR pk_f7_freePlace (mc := 0) (ms := 0) ⟨rfl, rfl, (show 16 + 1 ≤ 82 by omega), (show 8 + (6 + 11) + 64 * 16 ≤ 64 * 82 by omega)⟩ (As := [va_rf (Option.map (Ad γ ad 2) (some i4))]) (rest := [.ref (Ad γ ad 2 i4)]) rfl (C_f7_freePlace l γ ad (some i4) σ2 v22 g24) gw_437 gw_439 gs_12 (rs_recv hX hR 7 0 (C := RX6) (T := TX6) (N := 11) rfl (by decide) (Nat.le_of_ble_eq_true rfl) rfl) rfl hl.1 (ca1 rfl ca0) (Nat.le_of_ble_eq_true rfl) dX6_attach_16 ⟨(show (0 + 0) + 0 ≤ 1 by omega), (show (0 + 0) + 0 ≤ 230 by omega)⟩ (fun H locs hR1 => ?_)
    replace hR := hR1
    clear hR1
    refine lv_goto (tgt := 23) hX.1.1 hX.1.2.1 dX6_attach_19 (by decide) ?_
    exact J23 (some i4) (some i4) v22 σ2 _ _ (by omega) (by omega) _ _ _ hw hR (lh_sub hl [0, 1] rfl)
set_option maxHeartbeats 8000000 in
set_option maxRecDepth 100000 in
theorem C_f7_bindWhatCanBe (l : Launch) (γ : GT) (ad : Nat → Nat → Nat) {fu : Nat} (σ : St) (σ' : St) (hw : f7_bindWhatCanBe fu σ = some σ') : Met l yX6_bindWhatCanBe (Cond.code yX6_bindWhatCanBe cX6_bindWhatCanBe 3 (Option.none : Option Jvm.ClassFile.FieldType) :: GW) (rmo 83 26 5980) (va_Pc [.ref (gS γ 7 0)] (RU γ ad σ)) (QV γ ad σ') 26 5980 (gA γ) := by
  refine Met.ofW (cc := cX6_bindWhatCanBe) (maxL := 3) (ret := (Option.none : Option Jvm.ClassFile.FieldType)) (by decide +kernel) rfl ?_
  intro p e s m args below meth c s₁ B hml hv
  obtain ⟨rfl, hU⟩ := hv
  obtain ⟨hX, hR⟩ := cx_of (own := RX6) B hml rfl hU
  have hr := B.returns
  have hlocks := B.notSynchronized
  have hc0 : (0 : Nat) ≤ 0 := Nat.le_refl 0
  show W p l e (rmo 83 26 5980) s m ([.ref (gS γ 7 0)] : List Value).toArray below meth c s.heap [] 0 0 (MQ below (QV γ ad σ') ([.ref (gS γ 7 0)] : List Value).toArray s 26 5980 (gA γ)) (entryFrame m ([.ref (gS γ 7 0)] : List Value).toArray 3)
  unfold f7_bindWhatCanBe at hw
  have L2 : ∀ (n : Nat) (s9 : (Int32 × St)) (cells slots : Nat), cells + n * 1 ≤ 26 → slots + n * 230 ≤ 5980 → ∀ (H : Heap) (locs : List Loc) (ls : Array Slot), lp (fun s8 => f7_bindWhatCanBe_b2 fu s8.1 s8.2) n s9 = some σ' → RS γ ad (s9.2) s H locs → lh ls 3 [(0, .ref (gS γ 7 0)), (1, .int s9.1)] → W p l e (rmo 83 26 5980) s m ([.ref (gS γ 7 0)] : List Value).toArray below meth c H locs cells slots (MQ below (QV γ ad σ') ([.ref (gS γ 7 0)] : List Value).toArray s 26 5980 (gA γ)) (F0 m 2 ls []) := by
    intro n2
    induction n2 with
    | zero => intro s9 cells slots hc1 hc2 H locs ls hw hR hl; exact (lp_zero hw).elim
    | succ n2 ih2 =>
      intro s9 cells slots hc1 hc2 H locs ls hw hR hl
      obtain ⟨o2, hw1, hb2, ho2⟩ := lp_succ hw
      replace hw := hw1
      clear hw1
      obtain ⟨x1, σ⟩ := s9
      replace hw : f7_bindWhatCanBe_b2 fu x1 σ = some o2 := hw
      replace hR : RS γ ad σ s H locs := hR
      replace hl : lh ls 3 [(0, .ref (gS γ 7 0)), (1, .int x1)] := hl
      unfold f7_bindWhatCanBe_b2 at hw
      refine rw_iload_n hX hl 1 rfl dX6_bindWhatCanBe_2 rfl ?_
      refine lv_bipush (v := 24) hX.1.1 hX.1.2.1 dX6_bindWhatCanBe_3 (by decide) ?_
      refine lv_icmp_ge (x := x1) (y := 24) (tgt := 36) hX.1.1 hX.1.2.1 dX6_bindWhatCanBe_5 (by decide) (fun c1 => ?_) (fun c1 => ?_)
      · replace hw := if_t hw c1
        replace hw := lp_out hw ho2
        refine W.widen (k := 26) (n := 5980) (by omega) (by omega) ?_
        exact rq_ve hX hR hr hw dX6_bindWhatCanBe_36 hlocks
      · replace hw := if_f hw c1
        refine rw_aload_n hX hl 0 rfl (Or.inr ⟨_, rfl⟩) dX6_bindWhatCanBe_8 rfl ?_
        refine rw_get hX hR 7 9 0 (C := RX6) (T := TX6) (N := 11) rfl (by decide) (Nat.le_of_ble_eq_true rfl) rfl (v := .int (b2i (gb σ 709 0))) rfl uw_X6 gw_158 rfl dX6_bindWhatCanBe_9 ?_
        refine rw_ifneZ (b := (gb σ 709 0)) (tgt := 36) hX dX6_bindWhatCanBe_12 (by decide) (fun c2 => ?_) (fun c2 => ?_)
        · replace hw := if_t hw c2
          replace hw := lp_out hw ho2
          refine W.widen (k := 26) (n := 5980) (by omega) (by omega) ?_
          exact rq_ve hX hR hr hw dX6_bindWhatCanBe_36 hlocks
        · replace hw := if_f hw c2
          refine rw_aload_n hX hl 0 rfl (Or.inr ⟨_, rfl⟩) dX6_bindWhatCanBe_15 rfl ?_
          obtain ⟨v3, g5, hw1⟩ := ob1_some hw
          replace hw := hw1
          clear hw1
          refine rw_cVq hX hR pk_f7_lowestNotRefused (mc := 0) (ms := 0) ⟨rfl, rfl, (show 18 + 1 ≤ 83 by omega), (show 8 + (3 + 11) + 64 * 18 ≤ 64 * 83 by omega)⟩ (As := []) (rest := []) rfl (C_f7_lowestNotRefused l γ ad σ v3 g5) gw_412 gw_414 gs_7 (rs_recv hX hR 7 0 (C := RX6) (T := TX6) (N := 11) rfl (by decide) (Nat.le_of_ble_eq_true rfl) rfl) rfl hl.1 ca0 (Nat.le_of_ble_eq_true rfl) dX6_bindWhatCanBe_16 ⟨(show cells + 0 ≤ 26 by omega), (show slots + 0 ≤ 5980 by omega)⟩ (fun H locs hR1 => ?_)
          replace hR := hR1
          clear hR1
          refine rw_astore_n (lv' := [(2, va_rf (Option.map (Ad γ ad 2) v3)), (0, .ref (gS γ 7 0)), (1, .int x1)]) hX hl (by decide) rfl (va_rf_or _) dX6_bindWhatCanBe_19 rfl (fun ls hl1 => ?_)
          replace hl := hl1
          clear hl1
          refine rw_aload_n hX hl 0 rfl (va_rf_or _) dX6_bindWhatCanBe_20 rfl ?_
          refine rw_ifnonnull hX (o := v3) (g := Ad γ ad 2) (tgt := 25) dX6_bindWhatCanBe_21 (by decide) (fun c6 => ?_) (fun c6 => ?_)
          · replace hw := if_f hw c6
            refine rw_aload_n hX hl 1 rfl (Or.inr ⟨_, rfl⟩) dX6_bindWhatCanBe_25 rfl ?_
            refine rw_aload_n hX hl 0 rfl (va_rf_or _) dX6_bindWhatCanBe_26 rfl ?_
            obtain ⟨σ8, g9, hw1⟩ := ob1_some hw
            replace hw := hw1
            clear hw1
            refine rw_cVv hX hR pk_f7_attach (mc := 1) (ms := 230) ⟨rfl, rfl, (show 82 + 1 ≤ 83 by omega), (show 8 + (2 + 11) + 64 * 82 ≤ 64 * 83 by omega)⟩ (As := [va_rf (Option.map (Ad γ ad 2) v3)]) (rest := []) rfl (C_f7_attach l γ ad v3 σ σ8 g9) gw_453 gw_455 gs_16 (rs_recv hX hR 7 0 (C := RX6) (T := TX6) (N := 11) rfl (by decide) (Nat.le_of_ble_eq_true rfl) rfl) rfl hl.1 ca0 (Nat.le_of_ble_eq_true rfl) dX6_bindWhatCanBe_27 ⟨(show (cells + 0) + 1 ≤ 26 by omega), (show (slots + 0) + 230 ≤ 5980 by omega)⟩ (fun H locs hR1 => ?_)
            replace hR := hR1
            clear hR1
            refine rw_iinc (k := 2) (v := (x1 + 1)) (lv' := [(1, .int (x1 + 1)), (2, va_rf (Option.map (Ad γ ad 2) v3)), (0, .ref (gS γ 7 0))]) hX hl rfl (congrArg (fun q => x1 + q) (show Int32.ofInt 1 = 1 by decide)) (by decide) rfl dX6_bindWhatCanBe_30 (fun ls hl1 => ?_)
            replace hl := hl1
            clear hl1
            refine lv_goto (tgt := 2) hX.1.1 hX.1.2.1 dX6_bindWhatCanBe_33 (by decide) ?_
            exact ih2 _ _ _ (by omega) (by omega) _ _ _ (lp_back hw hb2) hR (lh_sub hl [2, 0] rfl)
          · replace hw := if_t hw c6
            replace hw := lp_out hw ho2
            refine W.widen (k := 26) (n := 5980) (by omega) (by omega) ?_
            exact rq_ve hX hR hr hw dX6_bindWhatCanBe_24 hlocks
  refine rw_entry (ca1 rfl ca0) (Nat.le_of_ble_eq_true rfl) (fun ls hl1 => ?_)
  replace hl := hl1
  clear hl1
  refine lv_iconst (v := 0) hX.1.1 hX.1.2.1 dX6_bindWhatCanBe_0 (by decide) ?_
  refine rw_istore_n (lv' := [(1, .int 0), (0, .ref (gS γ 7 0))]) hX hl (by decide) rfl dX6_bindWhatCanBe_1 rfl (fun ls hl1 => ?_)
  replace hl := hl1
  clear hl1
  exact L2 _ _ _ _ (by omega) (by omega) _ _ _ hw hR (lh_sub hl [1, 0] rfl)
set_option maxHeartbeats 8000000 in
set_option maxRecDepth 100000 in
theorem C_f7_plug (l : Launch) (hfl : l.stackTraces = false) (γ : GT) (ad : Nat → Nat → Nat) {fu : Nat} (a1 : Int32) (a2 : Int32) (a3 : Int32) (a4 : Int32) (a5 : Bool) (a6 : Int32) (a7 : Int32) (σ : St) (r : Except Nat Int32) (σ' : St) (hw : f7_plug fu a1 a2 a3 a4 a5 a6 a7 σ = some (r, σ')) : vx_Met l yX6_plug (Cond.code yX6_plug cX6_plug 12 (Option.some Jvm.ClassFile.FieldType.int) :: GW) (rmo 84 37 6282) (va_Pc [.ref (gS γ 7 0), .int a1, .int a2, .int a3, .int a4, .int (b2i a5), .int a6, .int a7] (RU γ ad σ)) (QXN γ σ' r) (QXX γ ad σ' r) 37 6282 (gA γ) := by
  refine vx_ofW (cc := cX6_plug) (maxL := 12) (ret := (Option.some Jvm.ClassFile.FieldType.int)) (by decide) rfl ?_
  intro p e s m args below meth c s₁ B hml hxt hv
  obtain ⟨rfl, hU⟩ := hv
  obtain ⟨hX, hR⟩ := cx_of (own := RX6) B hml rfl hU
  have hr := B.returns
  have hlocks := B.notSynchronized
  have hc0 : (0 : Nat) ≤ 0 := Nat.le_refl 0
  show W p l e (rmo 84 37 6282) s m ([.ref (gS γ 7 0), .int a1, .int a2, .int a3, .int a4, .int (b2i a5), .int a6, .int a7] : List Value).toArray below meth c s.heap [] 0 0 (vx_MQ below (QXN γ σ' r) (QXX γ ad σ' r) ([.ref (gS γ 7 0), .int a1, .int a2, .int a3, .int a4, .int (b2i a5), .int a6, .int a7] : List Value).toArray s 37 6282 (gA γ)) (entryFrame m ([.ref (gS γ 7 0), .int a1, .int a2, .int a3, .int a4, .int (b2i a5), .int a6, .int a7] : List Value).toArray 12)
  unfold f7_plug at hw
  have J83 : ∀ (x2 : Int32) (x3 : Int32) (x4 : Int32) (x5 : Bool) (x8 : (Option Nat)) (x9 : (Option Nat)) (x10 : (Option Nat)) (σ : St) (cells slots : Nat), cells ≤ 8 → slots ≤ 48 → ∀ (H : Heap) (locs : List Loc) (ls : Array Slot), f7_plug_j83 fu x2 x3 x4 x5 x8 x9 x10 σ = some (r, σ') → RS γ ad σ s H locs → lh ls 12 [(0, .ref (gS γ 7 0)), (2, .int x2), (3, .int x3), (4, .int x4), (5, .int (b2i x5)), (8, va_rf (Option.map (Ad γ ad 2) x8)), (9, va_rf (Option.map (Ad γ ad 2) x9)), (10, va_rf (Option.map (Ad γ ad 2) x10))] → W p l e (rmo 84 37 6282) s m ([.ref (gS γ 7 0), .int a1, .int a2, .int a3, .int a4, .int (b2i a5), .int a6, .int a7] : List Value).toArray below meth c H locs cells slots (vx_MQ below (QXN γ σ' r) (QXX γ ad σ' r) ([.ref (gS γ 7 0), .int a1, .int a2, .int a3, .int a4, .int (b2i a5), .int a6, .int a7] : List Value).toArray s 37 6282 (gA γ)) (F0 m 83 ls []) := by
    intro x2 x3 x4 x5 x8 x9 x10 σ cells slots hc1 hc2 H locs ls hw hR hl
    unfold f7_plug_j83 at hw
    refine rw_aload_n hX hl 0 rfl (Or.inr ⟨_, rfl⟩) dX6_plug_83 rfl ?_
    refine rw_get hX hR 7 0 0 (C := RX6) (T := TX6) (N := 11) rfl (by decide) (Nat.le_of_ble_eq_true rfl) rfl (v := .ref (gS γ 0 0)) rfl uw_X6 gw_149 rfl dX6_plug_84 ?_
    refine rw_cVi hX hR pk_lsize (mc := 0) (ms := 0) ⟨rfl, rfl, Nat.le_of_ble_eq_true rfl, Nat.le_of_ble_eq_true rfl⟩ (As := []) (rest := []) rfl (C_lsize l γ ad σ 0 (by decide)) gw_209 gw_210 gw_211 (rs_recvL hX hR 0 (by decide)) rfl hl.1 ca0 (Nat.le_of_ble_eq_true rfl) dX6_plug_87 ⟨(show cells + 0 ≤ 37 by omega), (show slots + 0 ≤ 6282 by omega)⟩ (fun H locs hR1 => ?_)
    replace hR := hR1
    clear hR1
    refine lv_bipush (v := 24) hX.1.1 hX.1.2.1 dX6_plug_90 (by decide) ?_
    refine lv_icmp_lt (x := (nI (gl σ 0).length)) (y := 24) (tgt := 105) hX.1.1 hX.1.2.1 dX6_plug_92 (by decide) (fun c29 => ?_) (fun c29 => ?_)
    · replace hw := if_t hw c29
      obtain ⟨h30, hw1⟩ := ck_some hw
      replace hw := hw1
      clear hw1
      obtain ⟨h31, hw1⟩ := ck_some hw
      replace hw := hw1
      clear hw1
      obtain ⟨h32, hw1⟩ := ck_some hw
      replace hw := hw1
      clear hw1
      obtain ⟨h33, hw1⟩ := ckP_some hw
      replace hw := hw1
      clear hw1
      obtain ⟨n34, e35⟩ : ∃ i, gn σ 2 = i := ⟨_, rfl⟩
      replace hw := lt_eq hw e35
      refine rw_new hX hR 2 tyX1 h33 rfl rfl rfl uw_X1 tyX1_ok (by decide +kernel) gw_295 gw_336 gw_20 ⟨(show (cells + 0) + 1 ≤ 37 by omega), (show (slots + 0) + 18 ≤ 6282 by omega)⟩ dX6_plug_105 (fun ad36 H hR1 hag => ?_)
      replace hR := hR1
      clear hR1
      rw [e35]
      rw [agr hag (c := 2) (o := x8) h30, agr hag (c := 2) (o := x9) h31, agr hag (c := 2) (o := x10) h32] at hl
      refine lv_dup hX.1.1 hX.1.2.1 dX6_plug_108 rfl ?_
      refine rw_aload_n hX hl 0 rfl (Or.inr ⟨_, rfl⟩) dX6_plug_109 rfl ?_
      refine rw_get hX hR 7 0 0 (C := RX6) (T := TX6) (N := 11) rfl (by decide) (Nat.le_of_ble_eq_true rfl) rfl (v := .ref (gS γ 0 0)) rfl uw_X6 gw_149 rfl dX6_plug_110 ?_
      refine rw_cVi hX hR pk_lsize (mc := 0) (ms := 0) ⟨rfl, rfl, Nat.le_of_ble_eq_true rfl, Nat.le_of_ble_eq_true rfl⟩ (As := []) (rest := [.ref (Ad γ ad36 2 n34), .ref (Ad γ ad36 2 n34)]) rfl (C_lsize l γ ad36 (zw σ 2) 0 (by decide)) gw_209 gw_210 gw_211 (rs_recvL hX hR 0 (by decide)) rfl hl.1 (ca1 rfl (ca1 rfl ca0)) (Nat.le_of_ble_eq_true rfl) dX6_plug_113 ⟨(show ((cells + 0) + 1) + 0 ≤ 37 by omega), (show ((slots + 0) + 18) + 0 ≤ 6282 by omega)⟩ (fun H locs hR1 => ?_)
      replace hR := hR1
      clear hR1
      refine rw_iload_n hX hl 1 rfl dX6_plug_116 rfl ?_
      refine rw_iload_n hX hl 2 rfl dX6_plug_117 rfl ?_
      refine rw_iload hX hl 3 rfl dX6_plug_118 ?_
      refine rw_iload hX hl 4 rfl dX6_plug_120 ?_
      obtain ⟨h37, hw1⟩ := ck_lt hw
      replace hw := hw1
      clear hw1
      obtain ⟨σ39, g40, hw1⟩ := ob1_some hw
      replace hw := hw1
      clear hw1
      refine rw_cINv hX hR pk_f2_init (mc := 0) (ms := 0) ⟨rfl, rfl, (show 2 + 1 ≤ 84 by omega), (show 8 + (6 + 11) + 64 * 2 ≤ 64 * 84 by omega)⟩ (As := [.int (nI (gl (zw σ 2) 0).length), .int x2, .int x3, .int x4, .int (b2i x5)]) (rest := [.ref (Ad γ ad36 2 n34)]) rfl (C_f2_init l γ ad36 n34 (nI (gl (zw σ 2) 0).length) x2 x3 x4 x5 (zw σ 2) σ39 g40) nw_337 gw_338 rfl rfl hl.1 (ca1 rfl ca0) (Nat.le_of_ble_eq_true rfl) dX6_plug_122 ⟨(show (((cells + 0) + 1) + 0) + 0 ≤ 37 by omega), (show (((slots + 0) + 18) + 0) + 0 ≤ 6282 by omega)⟩ (fun H locs hR1 => ?_)
      replace hR := hR1
      clear hR1
      refine rw_astore (lv' := [(11, .ref (Ad γ ad36 2 n34)), (0, .ref (gS γ 7 0)), (2, .int x2), (3, .int x3), (4, .int x4), (5, .int (b2i x5)), (8, va_rf (Option.map (Ad γ ad36 2) x8)), (9, va_rf (Option.map (Ad γ ad36 2) x9)), (10, va_rf (Option.map (Ad γ ad36 2) x10))]) hX hl (by decide) rfl (Or.inr ⟨_, rfl⟩) dX6_plug_125 (fun ls hl1 => ?_)
      replace hl := hl1
      clear hl1
      refine rw_aload hX hl 0 rfl (Or.inr ⟨_, rfl⟩) dX6_plug_127 ?_
      refine rw_aload hX hl 6 rfl (va_rf_or _) dX6_plug_129 ?_
      obtain ⟨h41, hw1⟩ := ck_lt hw
      replace hw := hw1
      clear hw1
      refine rw_putpN (E := "DriverMoor$Device") (x := x8) hX hR 2 5 n34 205 (C := RX1) (T := TX1) (N := 18) rfl (by decide) rfl rfl h41 rfl uw_X1 tyX1 tyX1_ok nmX1 nw_351 rfl rfl (by decide) dX6_plug_131 (fun σ1 H locs e1 hR1 => ?_)
      replace hR := hR1
      clear hR1
      subst e1
      refine rw_aload hX hl 0 rfl (Or.inr ⟨_, rfl⟩) dX6_plug_134 ?_
      refine rw_aload hX hl 7 rfl (va_rf_or _) dX6_plug_136 ?_
      refine rw_putpN (E := "DriverMoor$Device") (x := x9) hX hR 2 6 n34 206 (C := RX1) (T := TX1) (N := 18) rfl (by decide) rfl rfl h41 rfl uw_X1 tyX1 tyX1_ok nmX1 nw_353 rfl rfl (by decide) dX6_plug_138 (fun σ1 H locs e1 hR1 => ?_)
      replace hR := hR1
      clear hR1
      subst e1
      refine rw_aload hX hl 0 rfl (Or.inr ⟨_, rfl⟩) dX6_plug_141 ?_
      refine rw_aload hX hl 8 rfl (va_rf_or _) dX6_plug_143 ?_
      refine rw_putpN (E := "DriverMoor$Device") (x := x10) hX hR 2 7 n34 207 (C := RX1) (T := TX1) (N := 18) rfl (by decide) rfl rfl h41 rfl uw_X1 tyX1 tyX1_ok nmX1 nw_355 rfl rfl (by decide) dX6_plug_145 (fun σ1 H locs e1 hR1 => ?_)
      replace hR := hR1
      clear hR1
      subst e1
      refine rw_aload_n hX hl 1 rfl (Or.inr ⟨_, rfl⟩) dX6_plug_148 rfl ?_
      refine rw_get hX hR 7 0 0 (C := RX6) (T := TX6) (N := 11) rfl (by decide) (Nat.le_of_ble_eq_true rfl) rfl (v := .ref (gS γ 0 0)) rfl uw_X6 gw_149 rfl dX6_plug_149 ?_
      refine rw_aload hX hl 0 rfl (Or.inr ⟨_, rfl⟩) dX6_plug_152 ?_
      obtain ⟨h42, hw1⟩ := ck_lt hw
      replace hw := hw1
      clear hw1
      obtain ⟨h43, hw1⟩ := ck_some hw
      replace hw := hw1
      clear hw1
      refine rw_cVi hX hR pk_ladd (mc := 1) (ms := 230) ⟨rfl, rfl, Nat.le_of_ble_eq_true rfl, Nat.le_of_ble_eq_true rfl⟩ (As := [.ref (Ad γ ad36 2 n34)]) (rest := []) rfl (C_ladd l γ ad36 (zp (zp (zp σ39 205 n34 x8) 206 n34 x9) 207 n34 x10) 0 n34 (by decide) h41 h43 h42) gw_90 gw_91 gw_92 (rs_recvL hX hR 0 (by decide)) rfl hl.1 ca0 (Nat.le_of_ble_eq_true rfl) dX6_plug_154 ⟨(show ((((cells + 0) + 1) + 0) + 0) + 1 ≤ 37 by omega), (show ((((slots + 0) + 18) + 0) + 0) + 230 ≤ 6282 by omega)⟩ (fun H locs hR1 => ?_)
      replace hR := hR1
      clear hR1
      refine lv_pop hX.1.1 hX.1.2.1 dX6_plug_157 rfl ?_
      refine rw_aload_n hX hl 1 rfl (Or.inr ⟨_, rfl⟩) dX6_plug_158 rfl ?_
      obtain ⟨σ45, g46, hw1⟩ := ob1_some hw
      replace hw := hw1
      clear hw1
      refine rw_cVv hX hR pk_f7_bindWhatCanBe (mc := 26) (ms := 5980) ⟨rfl, rfl, (show 83 + 1 ≤ 84 by omega), (show 8 + (3 + 11) + 64 * 83 ≤ 64 * 84 by omega)⟩ (As := []) (rest := []) rfl (C_f7_bindWhatCanBe l γ ad36 (ladd (zp (zp (zp σ39 205 n34 x8) 206 n34 x9) 207 n34 x10) 0 n34) σ45 g46) gw_408 gw_410 gs_6 (rs_recv hX hR 7 0 (C := RX6) (T := TX6) (N := 11) rfl (by decide) (Nat.le_of_ble_eq_true rfl) rfl) rfl hl.1 ca0 (Nat.le_of_ble_eq_true rfl) dX6_plug_159 ⟨(show (((((cells + 0) + 1) + 0) + 0) + 1) + 26 ≤ 37 by omega), (show (((((slots + 0) + 18) + 0) + 0) + 230) + 5980 ≤ 6282 by omega)⟩ (fun H locs hR1 => ?_)
      replace hR := hR1
      clear hR1
      refine rw_aload hX hl 0 rfl (Or.inr ⟨_, rfl⟩) dX6_plug_162 ?_
      obtain ⟨h47, hw1⟩ := ck_lt hw
      replace hw := hw1
      clear hw1
      refine rw_getN hX hR 2 0 n34 (C := RX1) (T := TX1) (N := 18) rfl (by decide) h47 rfl (v := .int (gi σ45 200 n34)) rfl uw_X1 nw_342 rfl dX6_plug_164 ?_
      refine W.widen (k := 37) (n := 6282) (by omega) (by omega) ?_
      exact ry_n hX hR hr hw dX6_plug_167 hlocks
    · replace hw := if_f hw c29
      cases hw
      exact rw_throw (lv := [(0, .ref (gS γ 7 0)), (2, .int x2), (3, .int x3), (4, .int x4), (5, .int (b2i x5)), (8, va_rf (Option.map (Ad γ ad 2) x8)), (9, va_rf (Option.map (Ad γ ad 2) x9)), (10, va_rf (Option.map (Ad γ ad 2) x10))]) (text := "there were 24 devices") hX hR hfl 3 74 76 78 rfl XN_fit3 XNS_fit gw_320 gw_19 (by decide +kernel) xa_3 xg_3 hl.1 hxt dX6_plug_95 dX6_plug_98 dX6_plug_99 dX6_plug_101 dX6_plug_104 (Nat.le_of_ble_eq_true rfl) (Nat.le_of_ble_eq_true rfl) ⟨(show (cells + 0) + 1 ≤ 37 by omega), (show (slots + 0) + 6 ≤ 6282 by omega)⟩ hlocks ⟨by omega, by omega⟩
  refine rw_entry (ca1 rfl (ca1 rfl (ca1 rfl (ca1 rfl (ca1 rfl (ca1 rfl (ca1 rfl (ca1 rfl ca0)))))))) (Nat.le_of_ble_eq_true rfl) (fun ls hl1 => ?_)
  replace hl := hl1
  clear hl1
  refine rw_aload_n hX hl 0 rfl (Or.inr ⟨_, rfl⟩) dX6_plug_0 rfl ?_
  refine rw_iload_n hX hl 1 rfl dX6_plug_1 rfl ?_
  obtain ⟨v1, g3, h4, h5⟩ := xb1_some hw
  refine rw_xVq hX hR pk_f7_presentOrNone (mc := 2) (ms := 12) ⟨rfl, rfl, (show 16 + 1 ≤ 84 by omega), (show 8 + (3 + 11) + 64 * 16 ≤ 64 * 84 by omega)⟩ (As := [.int a1]) (rest := []) rfl (C_f7_presentOrNone l hfl γ ad a1 σ v1 g3) gw_201 gw_203 gs_3 (rs_recv hX hR 7 0 (C := RX6) (T := TX6) (N := 11) rfl (by decide) (Nat.le_of_ble_eq_true rfl) rfl) rfl hl.1 ca0 (Nat.le_of_ble_eq_true rfl) dX6_plug_2 ⟨(show 0 + 2 ≤ 37 by omega), (show 0 + 12 ≤ 6282 by omega)⟩ (fun x ce q9 H locs hx hR1 h1 h2 h3 => ?_) (fun v1 H locs hx hR1 => ?_)
  · replace hR := hR1
    clear hR1
    replace hw := h4 x hx
    cases hw
    exact rx_out hX hR hxt rfl h1 h2 h3 hlocks (by omega) (by omega)
  replace hR := hR1
  clear hR1
  replace hw := h5 v1 hx
  refine rw_astore (lv' := [(8, va_rf (Option.map (Ad γ ad 2) v1)), (0, .ref (gS γ 7 0)), (1, .int a1), (2, .int a2), (3, .int a3), (4, .int a4), (5, .int (b2i a5)), (6, .int a6), (7, .int a7)]) hX hl (by decide) rfl (va_rf_or _) dX6_plug_5 (fun ls hl1 => ?_)
  replace hl := hl1
  clear hl1
  refine rw_aload_n hX hl 1 rfl (Or.inr ⟨_, rfl⟩) dX6_plug_7 rfl ?_
  refine rw_iload hX hl 7 rfl dX6_plug_8 ?_
  obtain ⟨v6, g8, h9, h10⟩ := xb1_some hw
  refine rw_xVq hX hR pk_f7_presentOrNone (mc := 2) (ms := 12) ⟨rfl, rfl, (show 16 + 1 ≤ 84 by omega), (show 8 + (3 + 11) + 64 * 16 ≤ 64 * 84 by omega)⟩ (As := [.int a6]) (rest := []) rfl (C_f7_presentOrNone l hfl γ ad a6 σ v6 g8) gw_201 gw_203 gs_3 (rs_recv hX hR 7 0 (C := RX6) (T := TX6) (N := 11) rfl (by decide) (Nat.le_of_ble_eq_true rfl) rfl) rfl hl.1 ca0 (Nat.le_of_ble_eq_true rfl) dX6_plug_10 ⟨(show (0 + 2) + 2 ≤ 37 by omega), (show (0 + 12) + 12 ≤ 6282 by omega)⟩ (fun x ce q9 H locs hx hR1 h1 h2 h3 => ?_) (fun v6 H locs hx hR1 => ?_)
  · replace hR := hR1
    clear hR1
    replace hw := h9 x hx
    cases hw
    exact rx_out hX hR hxt rfl h1 h2 h3 hlocks (by omega) (by omega)
  replace hR := hR1
  clear hR1
  replace hw := h10 v6 hx
  refine rw_astore (lv' := [(9, va_rf (Option.map (Ad γ ad 2) v6)), (8, va_rf (Option.map (Ad γ ad 2) v1)), (0, .ref (gS γ 7 0)), (1, .int a1), (2, .int a2), (3, .int a3), (4, .int a4), (5, .int (b2i a5)), (6, .int a6), (7, .int a7)]) hX hl (by decide) rfl (va_rf_or _) dX6_plug_13 (fun ls hl1 => ?_)
  replace hl := hl1
  clear hl1
  refine rw_aload_n hX hl 2 rfl (Or.inr ⟨_, rfl⟩) dX6_plug_15 rfl ?_
  refine rw_iload hX hl 9 rfl dX6_plug_16 ?_
  obtain ⟨v11, g13, h14, h15⟩ := xb1_some hw
  refine rw_xVq hX hR pk_f7_presentOrNone (mc := 2) (ms := 12) ⟨rfl, rfl, (show 16 + 1 ≤ 84 by omega), (show 8 + (3 + 11) + 64 * 16 ≤ 64 * 84 by omega)⟩ (As := [.int a7]) (rest := []) rfl (C_f7_presentOrNone l hfl γ ad a7 σ v11 g13) gw_201 gw_203 gs_3 (rs_recv hX hR 7 0 (C := RX6) (T := TX6) (N := 11) rfl (by decide) (Nat.le_of_ble_eq_true rfl) rfl) rfl hl.1 ca0 (Nat.le_of_ble_eq_true rfl) dX6_plug_18 ⟨(show ((0 + 2) + 2) + 2 ≤ 37 by omega), (show ((0 + 12) + 12) + 12 ≤ 6282 by omega)⟩ (fun x ce q9 H locs hx hR1 h1 h2 h3 => ?_) (fun v11 H locs hx hR1 => ?_)
  · replace hR := hR1
    clear hR1
    replace hw := h14 x hx
    cases hw
    exact rx_out hX hR hxt rfl h1 h2 h3 hlocks (by omega) (by omega)
  replace hR := hR1
  clear hR1
  replace hw := h15 v11 hx
  refine rw_astore (lv' := [(10, va_rf (Option.map (Ad γ ad 2) v11)), (9, va_rf (Option.map (Ad γ ad 2) v6)), (8, va_rf (Option.map (Ad γ ad 2) v1)), (0, .ref (gS γ 7 0)), (1, .int a1), (2, .int a2), (3, .int a3), (4, .int a4), (5, .int (b2i a5)), (6, .int a6), (7, .int a7)]) hX hl (by decide) rfl (va_rf_or _) dX6_plug_21 (fun ls hl1 => ?_)
  replace hl := hl1
  clear hl1
  refine rw_iload_n hX hl 5 rfl dX6_plug_23 rfl ?_
  refine lv_iconst (v := 0) hX.1.1 hX.1.2.1 dX6_plug_24 (by decide) ?_
  refine lv_bipush (v := 31) hX.1.1 hX.1.2.1 dX6_plug_25 (by decide) ?_
  obtain ⟨v16, g18, hw1⟩ := ob1_some hw
  replace hw := hw1
  clear hw1
  refine rw_cSi hX hR pk_f7_isWithin (mc := 0) (ms := 0) ⟨rfl, rfl, (show 1 + 1 ≤ 84 by omega), (show 8 + (3 + 11) + 64 * 1 ≤ 64 * 84 by omega)⟩ (As := [.int a2, .int 0, .int 31]) (rest := []) rfl (C_f7_isWithin l γ ad a2 0 31 σ v16 g18) gw_297 gw_298 rfl hl.1 ca0 (Nat.le_of_ble_eq_true rfl) dX6_plug_27 ⟨(show (((0 + 2) + 2) + 2) + 0 ≤ 37 by omega), (show (((0 + 12) + 12) + 12) + 0 ≤ 6282 by omega)⟩ (fun H locs hR1 => ?_)
  replace hR := hR1
  clear hR1
  refine rw_ifeqZ (b := v16) (tgt := 51) hX dX6_plug_30 (by decide) (fun c19 => ?_) (fun c19 => ?_)
  · replace hw := if_f hw c19
    cases hw
    exact rw_throw (lv := [(10, va_rf (Option.map (Ad γ ad 2) v11)), (9, va_rf (Option.map (Ad γ ad 2) v6)), (8, va_rf (Option.map (Ad γ ad 2) v1)), (0, .ref (gS γ 7 0)), (1, .int a1), (2, .int a2), (3, .int a3), (4, .int a4), (5, .int (b2i a5)), (6, .int a6), (7, .int a7)]) (text := "id, size or line is out of range") hX hR hfl 2 61 63 65 rfl XN_fit2 XNS_fit gw_303 gw_18 (by decide +kernel) xa_2 xg_2 hl.1 hxt dX6_plug_51 dX6_plug_54 dX6_plug_55 dX6_plug_57 dX6_plug_60 (Nat.le_of_ble_eq_true rfl) (Nat.le_of_ble_eq_true rfl) ⟨(show ((((0 + 2) + 2) + 2) + 0) + 1 ≤ 37 by omega), (show ((((0 + 12) + 12) + 12) + 0) + 6 ≤ 6282 by omega)⟩ hlocks ⟨by omega, by omega⟩
  · replace hw := if_t hw c19
    refine rw_iload_n hX hl 6 rfl dX6_plug_33 rfl ?_
    obtain ⟨v20, g22, hw1⟩ := ob1_some hw
    replace hw := hw1
    clear hw1
    refine rw_cSi hX hR pk_f7_isSize (mc := 0) (ms := 0) ⟨rfl, rfl, (show 1 + 1 ≤ 84 by omega), (show 8 + (1 + 11) + 64 * 1 ≤ 64 * 84 by omega)⟩ (As := [.int a3]) (rest := []) rfl (C_f7_isSize l γ ad a3 σ v20 g22) gw_300 gw_301 rfl hl.1 ca0 (Nat.le_of_ble_eq_true rfl) dX6_plug_34 ⟨(show ((((0 + 2) + 2) + 2) + 0) + 0 ≤ 37 by omega), (show ((((0 + 12) + 12) + 12) + 0) + 0 ≤ 6282 by omega)⟩ (fun H locs hR1 => ?_)
    replace hR := hR1
    clear hR1
    refine rw_ifeqZ (b := v20) (tgt := 51) hX dX6_plug_37 (by decide) (fun c23 => ?_) (fun c23 => ?_)
    · replace hw := if_f hw c23
      cases hw
      exact rw_throw (lv := [(10, va_rf (Option.map (Ad γ ad 2) v11)), (9, va_rf (Option.map (Ad γ ad 2) v6)), (8, va_rf (Option.map (Ad γ ad 2) v1)), (0, .ref (gS γ 7 0)), (1, .int a1), (2, .int a2), (3, .int a3), (4, .int a4), (5, .int (b2i a5)), (6, .int a6), (7, .int a7)]) (text := "id, size or line is out of range") hX hR hfl 2 61 63 65 rfl XN_fit2 XNS_fit gw_303 gw_18 (by decide +kernel) xa_2 xg_2 hl.1 hxt dX6_plug_51 dX6_plug_54 dX6_plug_55 dX6_plug_57 dX6_plug_60 (Nat.le_of_ble_eq_true rfl) (Nat.le_of_ble_eq_true rfl) ⟨(show (((((0 + 2) + 2) + 2) + 0) + 0) + 1 ≤ 37 by omega), (show (((((0 + 12) + 12) + 12) + 0) + 0) + 6 ≤ 6282 by omega)⟩ hlocks ⟨by omega, by omega⟩
    · replace hw := if_t hw c23
      refine rw_iload hX hl 7 rfl dX6_plug_40 ?_
      refine lv_iconst (v := (-1)) hX.1.1 hX.1.2.1 dX6_plug_42 (by decide) ?_
      refine lv_bipush (v := 7) hX.1.1 hX.1.2.1 dX6_plug_43 (by decide) ?_
      obtain ⟨v24, g26, hw1⟩ := ob1_some hw
      replace hw := hw1
      clear hw1
      refine rw_cSi hX hR pk_f7_isWithin (mc := 0) (ms := 0) ⟨rfl, rfl, (show 1 + 1 ≤ 84 by omega), (show 8 + (3 + 11) + 64 * 1 ≤ 64 * 84 by omega)⟩ (As := [.int a4, .int (-1), .int 7]) (rest := []) rfl (C_f7_isWithin l γ ad a4 (-1) 7 σ v24 g26) gw_297 gw_298 rfl hl.1 ca0 (Nat.le_of_ble_eq_true rfl) dX6_plug_45 ⟨(show (((((0 + 2) + 2) + 2) + 0) + 0) + 0 ≤ 37 by omega), (show (((((0 + 12) + 12) + 12) + 0) + 0) + 0 ≤ 6282 by omega)⟩ (fun H locs hR1 => ?_)
      replace hR := hR1
      clear hR1
      refine rw_ifneZ (b := v24) (tgt := 61) hX dX6_plug_48 (by decide) (fun c27 => ?_) (fun c27 => ?_)
      · replace hw := if_t hw c27
        refine rw_aload hX hl 1 rfl (va_rf_or _) dX6_plug_61 ?_
        refine rw_ifnull hX (o := v6) (g := Ad γ ad 2) (tgt := 83) dX6_plug_63 (by decide) (fun c28 => ?_) (fun c28 => ?_)
        · replace hw := if_t hw c28
          exact J83 a2 a3 a4 a5 v1 v6 v11 σ _ _ (by omega) (by omega) _ _ _ hw hR (lh_sub hl [3, 5, 6, 7, 8, 2, 1, 0] rfl)
        · replace hw := if_f hw c28
          refine rw_aload hX hl 1 rfl (va_rf_or _) dX6_plug_66 ?_
          refine rw_aload hX hl 0 rfl (va_rf_or _) dX6_plug_68 ?_
          obtain ⟨h48, hw1⟩ := ck_some hw
          replace hw := hw1
          clear hw1
          obtain ⟨h49, hw1⟩ := ck_some hw
          replace hw := hw1
          clear hw1
          refine rw_acmpne hX hR 2 (by decide) (o1 := v6) (o2 := v11) h48 h49 (tgt := 83) dX6_plug_70 (by decide) (fun c50 => ?_) (fun c50 => ?_)
          · replace hw := if_f hw c50
            exact J83 a2 a3 a4 a5 v1 v6 v11 σ _ _ (by omega) (by omega) _ _ _ hw hR (lh_sub hl [3, 5, 6, 7, 8, 2, 1, 0] rfl)
          · replace hw := if_t hw c50
            cases hw
            exact rw_throw (lv := [(10, va_rf (Option.map (Ad γ ad 2) v11)), (9, va_rf (Option.map (Ad γ ad 2) v6)), (8, va_rf (Option.map (Ad γ ad 2) v1)), (0, .ref (gS γ 7 0)), (1, .int a1), (2, .int a2), (3, .int a3), (4, .int a4), (5, .int (b2i a5)), (6, .int a6), (7, .int a7)]) (text := "both suppliers are the same device") hX hR hfl 2 61 68 65 rfl XN_fit2 XNS_fit gw_303 gw_18 (by decide +kernel) xa_2 xg_2 hl.1 hxt dX6_plug_73 dX6_plug_76 dX6_plug_77 dX6_plug_79 dX6_plug_82 (Nat.le_of_ble_eq_true rfl) (Nat.le_of_ble_eq_true rfl) ⟨(show ((((((0 + 2) + 2) + 2) + 0) + 0) + 0) + 1 ≤ 37 by omega), (show ((((((0 + 12) + 12) + 12) + 0) + 0) + 0) + 6 ≤ 6282 by omega)⟩ hlocks ⟨by omega, by omega⟩
      · replace hw := if_f hw c27
        cases hw
        exact rw_throw (lv := [(10, va_rf (Option.map (Ad γ ad 2) v11)), (9, va_rf (Option.map (Ad γ ad 2) v6)), (8, va_rf (Option.map (Ad γ ad 2) v1)), (0, .ref (gS γ 7 0)), (1, .int a1), (2, .int a2), (3, .int a3), (4, .int a4), (5, .int (b2i a5)), (6, .int a6), (7, .int a7)]) (text := "id, size or line is out of range") hX hR hfl 2 61 63 65 rfl XN_fit2 XNS_fit gw_303 gw_18 (by decide +kernel) xa_2 xg_2 hl.1 hxt dX6_plug_51 dX6_plug_54 dX6_plug_55 dX6_plug_57 dX6_plug_60 (Nat.le_of_ble_eq_true rfl) (Nat.le_of_ble_eq_true rfl) ⟨(show ((((((0 + 2) + 2) + 2) + 0) + 0) + 0) + 1 ≤ 37 by omega), (show ((((((0 + 12) + 12) + 12) + 0) + 0) + 0) + 6 ≤ 6282 by omega)⟩ hlocks ⟨by omega, by omega⟩
set_option maxHeartbeats 8000000 in
set_option maxRecDepth 100000 in
theorem C_f2_isAtOrBelow (l : Launch) (γ : GT) (ad : Nat → Nat → Nat) {fu : Nat} (a0 : Nat) (a1 : (Option Nat)) (σ : St) (r : Bool) (hw : f2_isAtOrBelow fu a0 a1 σ = some r) : Met l yX1_isAtOrBelow (Cond.code yX1_isAtOrBelow cX1_isAtOrBelow 3 (Option.some Jvm.ClassFile.FieldType.boolean) :: GW) (rmo 1 0 0) (va_Pc [.ref (Ad γ ad 2 a0), va_rf (Option.map (Ad γ ad 2) a1)] (RU γ ad σ)) (QI γ ad σ (b2i r)) 0 0 (gA γ) := by
  refine Met.ofW (cc := cX1_isAtOrBelow) (maxL := 3) (ret := (Option.some Jvm.ClassFile.FieldType.boolean)) (by decide +kernel) rfl ?_
  intro p e s m args below meth c s₁ B hml hv
  obtain ⟨rfl, hU⟩ := hv
  obtain ⟨hX, hR⟩ := cx_of (own := RX1) B hml rfl hU
  have hr := B.returns
  have hlocks := B.notSynchronized
  have hc0 : (0 : Nat) ≤ 0 := Nat.le_refl 0
  show W p l e (rmo 1 0 0) s m ([.ref (Ad γ ad 2 a0), va_rf (Option.map (Ad γ ad 2) a1)] : List Value).toArray below meth c s.heap [] 0 0 (MQ below (QI γ ad σ (b2i r)) ([.ref (Ad γ ad 2 a0), va_rf (Option.map (Ad γ ad 2) a1)] : List Value).toArray s 0 0 (gA γ)) (entryFrame m ([.ref (Ad γ ad 2 a0), va_rf (Option.map (Ad γ ad 2) a1)] : List Value).toArray 3)
  unfold f2_isAtOrBelow at hw
  have L2 : ∀ (x1 : (Option Nat)) (n : Nat) (s9 : (Option Nat)) (cells slots : Nat), cells ≤ 0 → slots ≤ 0 → ∀ (H : Heap) (locs : List Loc) (ls : Array Slot), lp (fun s8 => f2_isAtOrBelow_b2 fu x1 s8 σ) n s9 = some r → RS γ ad σ s H locs → lh ls 3 [(1, va_rf (Option.map (Ad γ ad 2) x1)), (2, va_rf (Option.map (Ad γ ad 2) s9))] → W p l e (rmo 1 0 0) s m ([.ref (Ad γ ad 2 a0), va_rf (Option.map (Ad γ ad 2) a1)] : List Value).toArray below meth c H locs cells slots (MQ below (QI γ ad σ (b2i r)) ([.ref (Ad γ ad 2 a0), va_rf (Option.map (Ad γ ad 2) a1)] : List Value).toArray s 0 0 (gA γ)) (F0 m 2 ls []) := by
    intro x1 n2
    induction n2 with
    | zero => intro s9 cells slots hc1 hc2 H locs ls hw hR hl; exact (lp_zero hw).elim
    | succ n2 ih2 =>
      intro x2 cells slots hc1 hc2 H locs ls hw hR hl
      obtain ⟨o2, hw1, hb2, ho2⟩ := lp_succ hw
      replace hw := hw1
      clear hw1
      replace hw : f2_isAtOrBelow_b2 fu x1 x2 σ = some o2 := hw
      replace hl : lh ls 3 [(1, va_rf (Option.map (Ad γ ad 2) x1)), (2, va_rf (Option.map (Ad γ ad 2) x2))] := hl
      unfold f2_isAtOrBelow_b2 at hw
      refine rw_aload_n hX hl 1 rfl (va_rf_or _) dX1_isAtOrBelow_2 rfl ?_
      refine rw_ifnull hX (o := x2) (g := Ad γ ad 2) (tgt := 21) dX1_isAtOrBelow_3 (by decide) (fun c1 => ?_) (fun c1 => ?_)
      · replace hw := if_t hw c1
        replace hw := lp_out hw ho2
        refine lv_iconst (v := 0) hX.1.1 hX.1.2.1 dX1_isAtOrBelow_21 (by decide) ?_
        refine W.widen (k := 0) (n := 0) (by omega) (by omega) ?_
        exact rq_z hX hR hr (v := false) rfl hw dX1_isAtOrBelow_22 hlocks
      · replace hw := if_f hw c1
        refine rw_aload_n hX hl 1 rfl (va_rf_or _) dX1_isAtOrBelow_6 rfl ?_
        refine rw_aload_n hX hl 0 rfl (va_rf_or _) dX1_isAtOrBelow_7 rfl ?_
        obtain ⟨h2, hw1⟩ := ck_some hw
        replace hw := hw1
        clear hw1
        obtain ⟨h3, hw1⟩ := ck_some hw
        replace hw := hw1
        clear hw1
        refine rw_acmpne hX hR 2 (by decide) (o1 := x2) (o2 := x1) h2 h3 (tgt := 13) dX1_isAtOrBelow_8 (by decide) (fun c4 => ?_) (fun c4 => ?_)
        · replace hw := if_f hw c4
          refine rw_aload_n hX hl 1 rfl (va_rf_or _) dX1_isAtOrBelow_13 rfl ?_
          obtain ⟨i5, e6, h7, hw1⟩ := dr_some hw
          replace hw := hw1
          clear hw1
          subst e6
          obtain ⟨p8, q9⟩ : ∃ o, gp σ 205 i5 = o := ⟨_, rfl⟩
          replace hw := lt_eq hw q9
          refine rw_get hX hR 2 5 i5 (C := RX1) (T := TX1) (N := 18) rfl (by decide) h7 rfl (v := va_rf (Option.map (Ad γ ad 2) p8)) (by rw [← q9]; rfl) uw_X1 gw_352 rfl dX1_isAtOrBelow_14 ?_
          refine rw_astore_n (lv' := [(2, va_rf (Option.map (Ad γ ad 2) p8)), (1, va_rf (Option.map (Ad γ ad 2) x1))]) hX hl (by decide) rfl (va_rf_or _) dX1_isAtOrBelow_17 rfl (fun ls hl1 => ?_)
          replace hl := hl1
          clear hl1
          refine lv_goto (tgt := 2) hX.1.1 hX.1.2.1 dX1_isAtOrBelow_18 (by decide) ?_
          exact ih2 _ _ _ (by omega) (by omega) _ _ _ (lp_back hw hb2) hR (lh_sub hl [1, 0] rfl)
        · replace hw := if_t hw c4
          replace hw := lp_out hw ho2
          refine lv_iconst (v := 1) hX.1.1 hX.1.2.1 dX1_isAtOrBelow_11 (by decide) ?_
          refine W.widen (k := 0) (n := 0) (by omega) (by omega) ?_
          exact rq_z hX hR hr (v := true) rfl hw dX1_isAtOrBelow_12 hlocks
  refine rw_entry (ca1 rfl (ca1 (rf_cat _) ca0)) (Nat.le_of_ble_eq_true rfl) (fun ls hl1 => ?_)
  replace hl := hl1
  clear hl1
  refine rw_aload_n hX hl 0 rfl (Or.inr ⟨_, rfl⟩) dX1_isAtOrBelow_0 rfl ?_
  refine rw_astore_n (lv' := [(2, .ref (Ad γ ad 2 a0)), (0, .ref (Ad γ ad 2 a0)), (1, va_rf (Option.map (Ad γ ad 2) a1))]) hX hl (by decide) rfl (Or.inr ⟨_, rfl⟩) dX1_isAtOrBelow_1 rfl (fun ls hl1 => ?_)
  replace hl := hl1
  clear hl1
  exact L2 a1 _ _ _ _ (by omega) (by omega) _ _ _ hw hR (lh_sub hl [2, 0] rfl)
set_option maxHeartbeats 8000000 in
set_option maxRecDepth 100000 in
theorem C_f2_hasLeavingNeed (l : Launch) (γ : GT) (ad : Nat → Nat → Nat) {fu : Nat} (a0 : Nat) (σ : St) (r : Bool) (hw : f2_hasLeavingNeed fu a0 σ = some r) : Met l yX1_hasLeavingNeed (Cond.code yX1_hasLeavingNeed cX1_hasLeavingNeed 1 (Option.some Jvm.ClassFile.FieldType.boolean) :: GW) (rmo 1 0 0) (va_Pc [.ref (Ad γ ad 2 a0)] (RU γ ad σ)) (QI γ ad σ (b2i r)) 0 0 (gA γ) := by
  refine Met.ofW (cc := cX1_hasLeavingNeed) (maxL := 1) (ret := (Option.some Jvm.ClassFile.FieldType.boolean)) (by decide +kernel) rfl ?_
  intro p e s m args below meth c s₁ B hml hv
  obtain ⟨rfl, hU⟩ := hv
  obtain ⟨hX, hR⟩ := cx_of (own := RX1) B hml rfl hU
  have hr := B.returns
  have hlocks := B.notSynchronized
  have hc0 : (0 : Nat) ≤ 0 := Nat.le_refl 0
  show W p l e (rmo 1 0 0) s m ([.ref (Ad γ ad 2 a0)] : List Value).toArray below meth c s.heap [] 0 0 (MQ below (QI γ ad σ (b2i r)) ([.ref (Ad γ ad 2 a0)] : List Value).toArray s 0 0 (gA γ)) (entryFrame m ([.ref (Ad γ ad 2 a0)] : List Value).toArray 1)
  unfold f2_hasLeavingNeed at hw
  have J34 : ∀ (x0 : Nat) (cells slots : Nat), cells ≤ 0 → slots ≤ 0 → ∀ (H : Heap) (locs : List Loc) (ls : Array Slot), f2_hasLeavingNeed_j34 fu x0 σ = some r → RS γ ad σ s H locs → lh ls 1 [(0, .ref (Ad γ ad 2 x0))] → W p l e (rmo 1 0 0) s m ([.ref (Ad γ ad 2 a0)] : List Value).toArray below meth c H locs cells slots (MQ below (QI γ ad σ (b2i r)) ([.ref (Ad γ ad 2 a0)] : List Value).toArray s 0 0 (gA γ)) (F0 m 34 ls []) := by
    intro x0 cells slots hc1 hc2 H locs ls hw hR hl
    unfold f2_hasLeavingNeed_j34 at hw
    refine rw_aload_n hX hl 0 rfl (Or.inr ⟨_, rfl⟩) dX1_hasLeavingNeed_34 rfl ?_
    obtain ⟨h9, hw1⟩ := ck_lt hw
    replace hw := hw1
    clear hw1
    obtain ⟨p10, q11⟩ : ∃ o, gp σ 207 x0 = o := ⟨_, rfl⟩
    replace hw := lt_eq hw q11
    refine rw_get hX hR 2 7 x0 (C := RX1) (T := TX1) (N := 18) rfl (by decide) h9 rfl (v := va_rf (Option.map (Ad γ ad 2) p10)) (by rw [← q11]; rfl) uw_X1 gw_356 rfl dX1_hasLeavingNeed_35 ?_
    refine rw_ifnull hX (o := p10) (g := Ad γ ad 2) (tgt := 55) dX1_hasLeavingNeed_38 (by decide) (fun c12 => ?_) (fun c12 => ?_)
    · replace hw := if_t hw c12
      refine lv_iconst (v := 0) hX.1.1 hX.1.2.1 dX1_hasLeavingNeed_55 (by decide) ?_
      refine W.widen (k := 0) (n := 0) (by omega) (by omega) ?_
      exact rq_z hX hR hr (v := false) rfl hw dX1_hasLeavingNeed_56 hlocks
    · replace hw := if_f hw c12
      refine rw_aload_n hX hl 0 rfl (Or.inr ⟨_, rfl⟩) dX1_hasLeavingNeed_41 rfl ?_
      obtain ⟨p13, q14⟩ : ∃ o, gp σ 207 x0 = o := ⟨_, rfl⟩
      replace hw := lt_eq hw q14
      refine rw_get hX hR 2 7 x0 (C := RX1) (T := TX1) (N := 18) rfl (by decide) h9 rfl (v := va_rf (Option.map (Ad γ ad 2) p13)) (by rw [← q14]; rfl) uw_X1 gw_356 rfl dX1_hasLeavingNeed_42 ?_
      obtain ⟨i15, e16, h17, hw1⟩ := dr_some hw
      replace hw := hw1
      clear hw1
      subst e16
      refine rw_get hX hR 2 17 i15 (C := RX1) (T := TX1) (N := 18) rfl (by decide) h17 rfl (v := .int (b2i (gb σ 217 i15))) rfl uw_X1 gw_370 rfl dX1_hasLeavingNeed_45 ?_
      refine rw_ifeqZ (b := (gb σ 217 i15)) (tgt := 55) hX dX1_hasLeavingNeed_48 (by decide) (fun c18 => ?_) (fun c18 => ?_)
      · replace hw := if_f hw c18
        refine lv_iconst (v := 0) hX.1.1 hX.1.2.1 dX1_hasLeavingNeed_55 (by decide) ?_
        refine W.widen (k := 0) (n := 0) (by omega) (by omega) ?_
        exact rq_z hX hR hr (v := false) rfl hw dX1_hasLeavingNeed_56 hlocks
      · replace hw := if_t hw c18
        refine lv_iconst (v := 1) hX.1.1 hX.1.2.1 dX1_hasLeavingNeed_51 (by decide) ?_
        refine lv_goto (tgt := 56) hX.1.1 hX.1.2.1 dX1_hasLeavingNeed_52 (by decide) ?_
        refine W.widen (k := 0) (n := 0) (by omega) (by omega) ?_
        exact rq_z hX hR hr (v := true) rfl hw dX1_hasLeavingNeed_56 hlocks
  have J17 : ∀ (x0 : Nat) (cells slots : Nat), cells ≤ 0 → slots ≤ 0 → ∀ (H : Heap) (locs : List Loc) (ls : Array Slot), f2_hasLeavingNeed_j17 fu x0 σ = some r → RS γ ad σ s H locs → lh ls 1 [(0, .ref (Ad γ ad 2 x0))] → W p l e (rmo 1 0 0) s m ([.ref (Ad γ ad 2 a0)] : List Value).toArray below meth c H locs cells slots (MQ below (QI γ ad σ (b2i r)) ([.ref (Ad γ ad 2 a0)] : List Value).toArray s 0 0 (gA γ)) (F0 m 17 ls []) := by
    intro x0 cells slots hc1 hc2 H locs ls hw hR hl
    unfold f2_hasLeavingNeed_j17 at hw
    refine rw_aload_n hX hl 0 rfl (Or.inr ⟨_, rfl⟩) dX1_hasLeavingNeed_17 rfl ?_
    obtain ⟨h5, hw1⟩ := ck_lt hw
    replace hw := hw1
    clear hw1
    obtain ⟨p6, q7⟩ : ∃ o, gp σ 206 x0 = o := ⟨_, rfl⟩
    replace hw := lt_eq hw q7
    refine rw_get hX hR 2 6 x0 (C := RX1) (T := TX1) (N := 18) rfl (by decide) h5 rfl (v := va_rf (Option.map (Ad γ ad 2) p6)) (by rw [← q7]; rfl) uw_X1 gw_354 rfl dX1_hasLeavingNeed_18 ?_
    refine rw_ifnull hX (o := p6) (g := Ad γ ad 2) (tgt := 34) dX1_hasLeavingNeed_21 (by decide) (fun c8 => ?_) (fun c8 => ?_)
    · replace hw := if_t hw c8
      exact J34 x0 _ _ (by omega) (by omega) _ _ _ hw hR (lh_sub hl [0] rfl)
    · replace hw := if_f hw c8
      refine rw_aload_n hX hl 0 rfl (Or.inr ⟨_, rfl⟩) dX1_hasLeavingNeed_24 rfl ?_
      obtain ⟨p19, q20⟩ : ∃ o, gp σ 206 x0 = o := ⟨_, rfl⟩
      replace hw := lt_eq hw q20
      refine rw_get hX hR 2 6 x0 (C := RX1) (T := TX1) (N := 18) rfl (by decide) h5 rfl (v := va_rf (Option.map (Ad γ ad 2) p19)) (by rw [← q20]; rfl) uw_X1 gw_354 rfl dX1_hasLeavingNeed_25 ?_
      obtain ⟨i21, e22, h23, hw1⟩ := dr_some hw
      replace hw := hw1
      clear hw1
      subst e22
      refine rw_get hX hR 2 17 i21 (C := RX1) (T := TX1) (N := 18) rfl (by decide) h23 rfl (v := .int (b2i (gb σ 217 i21))) rfl uw_X1 gw_370 rfl dX1_hasLeavingNeed_28 ?_
      refine rw_ifneZ (b := (gb σ 217 i21)) (tgt := 51) hX dX1_hasLeavingNeed_31 (by decide) (fun c24 => ?_) (fun c24 => ?_)
      · replace hw := if_t hw c24
        refine lv_iconst (v := 1) hX.1.1 hX.1.2.1 dX1_hasLeavingNeed_51 (by decide) ?_
        refine lv_goto (tgt := 56) hX.1.1 hX.1.2.1 dX1_hasLeavingNeed_52 (by decide) ?_
        refine W.widen (k := 0) (n := 0) (by omega) (by omega) ?_
        exact rq_z hX hR hr (v := true) rfl hw dX1_hasLeavingNeed_56 hlocks
      · replace hw := if_f hw c24
        exact J34 x0 _ _ (by omega) (by omega) _ _ _ hw hR (lh_sub hl [0] rfl)
  refine rw_entry (ca1 rfl ca0) (Nat.le_of_ble_eq_true rfl) (fun ls hl1 => ?_)
  replace hl := hl1
  clear hl1
  refine rw_aload_n hX hl 0 rfl (Or.inr ⟨_, rfl⟩) dX1_hasLeavingNeed_0 rfl ?_
  obtain ⟨h1, hw1⟩ := ck_lt hw
  replace hw := hw1
  clear hw1
  obtain ⟨p2, q3⟩ : ∃ o, gp σ 205 a0 = o := ⟨_, rfl⟩
  replace hw := lt_eq hw q3
  refine rw_get hX hR 2 5 a0 (C := RX1) (T := TX1) (N := 18) rfl (by decide) h1 rfl (v := va_rf (Option.map (Ad γ ad 2) p2)) (by rw [← q3]; rfl) uw_X1 gw_352 rfl dX1_hasLeavingNeed_1 ?_
  refine rw_ifnull hX (o := p2) (g := Ad γ ad 2) (tgt := 17) dX1_hasLeavingNeed_4 (by decide) (fun c4 => ?_) (fun c4 => ?_)
  · replace hw := if_t hw c4
    exact J17 a0 _ _ (by omega) (by omega) _ _ _ hw hR (lh_sub hl [0] rfl)
  · replace hw := if_f hw c4
    refine rw_aload_n hX hl 0 rfl (Or.inr ⟨_, rfl⟩) dX1_hasLeavingNeed_7 rfl ?_
    obtain ⟨p25, q26⟩ : ∃ o, gp σ 205 a0 = o := ⟨_, rfl⟩
    replace hw := lt_eq hw q26
    refine rw_get hX hR 2 5 a0 (C := RX1) (T := TX1) (N := 18) rfl (by decide) h1 rfl (v := va_rf (Option.map (Ad γ ad 2) p25)) (by rw [← q26]; rfl) uw_X1 gw_352 rfl dX1_hasLeavingNeed_8 ?_
    obtain ⟨i27, e28, h29, hw1⟩ := dr_some hw
    replace hw := hw1
    clear hw1
    subst e28
    refine rw_get hX hR 2 17 i27 (C := RX1) (T := TX1) (N := 18) rfl (by decide) h29 rfl (v := .int (b2i (gb σ 217 i27))) rfl uw_X1 gw_370 rfl dX1_hasLeavingNeed_11 ?_
    refine rw_ifneZ (b := (gb σ 217 i27)) (tgt := 51) hX dX1_hasLeavingNeed_14 (by decide) (fun c30 => ?_) (fun c30 => ?_)
    · replace hw := if_t hw c30
      refine lv_iconst (v := 1) hX.1.1 hX.1.2.1 dX1_hasLeavingNeed_51 (by decide) ?_
      refine lv_goto (tgt := 56) hX.1.1 hX.1.2.1 dX1_hasLeavingNeed_52 (by decide) ?_
      exact rq_z hX hR hr (v := true) rfl hw dX1_hasLeavingNeed_56 hlocks
    · replace hw := if_f hw c30
      exact J17 a0 _ _ (by omega) (by omega) _ _ _ hw hR (lh_sub hl [0] rfl)
set_option maxHeartbeats 8000000 in
set_option maxRecDepth 100000 in
theorem C_f1_abortIfGoing (l : Launch) (γ : GT) (ad : Nat → Nat → Nat) {fu : Nat} (a0 : Nat) (σ : St) (r : Bool) (σ' : St) (hw : f1_abortIfGoing fu a0 σ = some (r, σ')) : Met l yX0_abortIfGoing (Cond.code yX0_abortIfGoing cX0_abortIfGoing 1 (Option.some Jvm.ClassFile.FieldType.boolean) :: GW) (rmo 1 0 0) (va_Pc [.ref (Ad γ ad 1 a0)] (RU γ ad σ)) (QI γ ad σ' (b2i r)) 0 0 (gA γ) := by
  refine Met.ofW (cc := cX0_abortIfGoing) (maxL := 1) (ret := (Option.some Jvm.ClassFile.FieldType.boolean)) (by decide +kernel) rfl ?_
  intro p e s m args below meth c s₁ B hml hv
  obtain ⟨rfl, hU⟩ := hv
  obtain ⟨hX, hR⟩ := cx_of (own := RX0) B hml rfl hU
  have hr := B.returns
  have hlocks := B.notSynchronized
  have hc0 : (0 : Nat) ≤ 0 := Nat.le_refl 0
  show W p l e (rmo 1 0 0) s m ([.ref (Ad γ ad 1 a0)] : List Value).toArray below meth c s.heap [] 0 0 (MQ below (QI γ ad σ' (b2i r)) ([.ref (Ad γ ad 1 a0)] : List Value).toArray s 0 0 (gA γ)) (entryFrame m ([.ref (Ad γ ad 1 a0)] : List Value).toArray 1)
  unfold f1_abortIfGoing at hw
  refine rw_entry (ca1 rfl ca0) (Nat.le_of_ble_eq_true rfl) (fun ls hl1 => ?_)
  replace hl := hl1
  clear hl1
  refine rw_aload_n hX hl 0 rfl (Or.inr ⟨_, rfl⟩) dX0_abortIfGoing_0 rfl ?_
  obtain ⟨h1, hw1⟩ := ck_lt hw
  replace hw := hw1
  clear hw1
  refine rw_get hX hR 1 2 a0 (C := RX0) (T := TX0) (N := 3) rfl (by decide) h1 rfl (v := .int (gi σ 102 a0)) rfl uw_X0 gw_664 rfl dX0_abortIfGoing_1 ?_
  refine lv_if_eq (x := (gi σ 102 a0)) (tgt := 9) hX.1.1 hX.1.2.1 dX0_abortIfGoing_4 (by decide) (fun c2 => ?_) (fun c2 => ?_)
  · replace hw := if_t hw c2
    refine rw_aload_n hX hl 0 rfl (Or.inr ⟨_, rfl⟩) dX0_abortIfGoing_9 rfl ?_
    refine lv_iconst (v := 2) hX.1.1 hX.1.2.1 dX0_abortIfGoing_10 (by decide) ?_
    refine rw_puti (x := 2) hX hR 1 2 a0 102 (C := RX0) (T := TX0) (N := 3) rfl (by decide) rfl rfl h1 rfl uw_X0 tyX0 tyX0_ok nmX0 gw_664 rfl rfl (by decide) dX0_abortIfGoing_11 (fun σ1 H locs e1 hR1 => ?_)
    replace hR := hR1
    clear hR1
    subst e1
    refine lv_iconst (v := 1) hX.1.1 hX.1.2.1 dX0_abortIfGoing_14 (by decide) ?_
    exact rq_ze hX hR hr (v := true) rfl hw dX0_abortIfGoing_15 hlocks
  · replace hw := if_f hw c2
    refine lv_iconst (v := 0) hX.1.1 hX.1.2.1 dX0_abortIfGoing_7 (by decide) ?_
    exact rq_ze hX hR hr (v := false) rfl hw dX0_abortIfGoing_8 hlocks
set_option maxHeartbeats 8000000 in
set_option maxRecDepth 100000 in
theorem C_f7_abortCallsOf (l : Launch) (γ : GT) (ad : Nat → Nat → Nat) {fu : Nat} (a1 : (Option Nat)) (σ : St) (r : Int32) (σ' : St) (hw : f7_abortCallsOf fu a1 σ = some (r, σ')) : Met l yX6_abortCallsOf (Cond.code yX6_abortCallsOf cX6_abortCallsOf 5 (Option.some Jvm.ClassFile.FieldType.int) :: GW) (rmo 15 0 0) (va_Pc [.ref (gS γ 7 0), va_rf (Option.map (Ad γ ad 2) a1)] (RU γ ad σ)) (QI γ ad σ' r) 0 0 (gA γ) := by
  refine Met.ofW (cc := cX6_abortCallsOf) (maxL := 5) (ret := (Option.some Jvm.ClassFile.FieldType.int)) (by decide +kernel) rfl ?_
  intro p e s m args below meth c s₁ B hml hv
  obtain ⟨rfl, hU⟩ := hv
  obtain ⟨hX, hR⟩ := cx_of (own := RX6) B hml rfl hU
  have hr := B.returns
  have hlocks := B.notSynchronized
  have hc0 : (0 : Nat) ≤ 0 := Nat.le_refl 0
  show W p l e (rmo 15 0 0) s m ([.ref (gS γ 7 0), va_rf (Option.map (Ad γ ad 2) a1)] : List Value).toArray below meth c s.heap [] 0 0 (MQ below (QI γ ad σ' r) ([.ref (gS γ 7 0), va_rf (Option.map (Ad γ ad 2) a1)] : List Value).toArray s 0 0 (gA γ)) (entryFrame m ([.ref (gS γ 7 0), va_rf (Option.map (Ad γ ad 2) a1)] : List Value).toArray 5)
  unfold f7_abortCallsOf at hw
  have L4 : ∀ (x1 : (Option Nat)) (n : Nat) (s9 : (Int32 × Int32 × St)) (cells slots : Nat), cells ≤ 0 → slots ≤ 0 → ∀ (H : Heap) (locs : List Loc) (ls : Array Slot), lp (fun s8 => f7_abortCallsOf_b4 fu x1 s8.1 s8.2.1 s8.2.2) n s9 = some (r, σ') → RS γ ad (s9.2.2) s H locs → lh ls 5 [(0, .ref (gS γ 7 0)), (1, va_rf (Option.map (Ad γ ad 2) x1)), (2, .int s9.1), (3, .int s9.2.1)] → W p l e (rmo 15 0 0) s m ([.ref (gS γ 7 0), va_rf (Option.map (Ad γ ad 2) a1)] : List Value).toArray below meth c H locs cells slots (MQ below (QI γ ad σ' r) ([.ref (gS γ 7 0), va_rf (Option.map (Ad γ ad 2) a1)] : List Value).toArray s 0 0 (gA γ)) (F0 m 4 ls []) := by
    intro x1 n4
    induction n4 with
    | zero => intro s9 cells slots hc1 hc2 H locs ls hw hR hl; exact (lp_zero hw).elim
    | succ n4 ih4 =>
      intro s9 cells slots hc1 hc2 H locs ls hw hR hl
      obtain ⟨o4, hw1, hb4, ho4⟩ := lp_succ hw
      replace hw := hw1
      clear hw1
      obtain ⟨x2, x3, σ⟩ := s9
      replace hw : f7_abortCallsOf_b4 fu x1 x2 x3 σ = some o4 := hw
      replace hR : RS γ ad σ s H locs := hR
      replace hl : lh ls 5 [(0, .ref (gS γ 7 0)), (1, va_rf (Option.map (Ad γ ad 2) x1)), (2, .int x2), (3, .int x3)] := hl
      unfold f7_abortCallsOf_b4 at hw
      have J51 : ∀ (x2 : Int32) (x3 : Int32) (σ : St) (cells slots : Nat), cells ≤ 0 → slots ≤ 0 → ∀ (H : Heap) (locs : List Loc) (ls : Array Slot), f7_abortCallsOf_j51 fu x1 x2 x3 σ = some o4 → RS γ ad σ s H locs → lh ls 5 [(0, .ref (gS γ 7 0)), (1, va_rf (Option.map (Ad γ ad 2) x1)), (2, .int x2), (3, .int x3)] → W p l e (rmo 15 0 0) s m ([.ref (gS γ 7 0), va_rf (Option.map (Ad γ ad 2) a1)] : List Value).toArray below meth c H locs cells slots (MQ below (QI γ ad σ' r) ([.ref (gS γ 7 0), va_rf (Option.map (Ad γ ad 2) a1)] : List Value).toArray s 0 0 (gA γ)) (F0 m 51 ls []) := by
        intro x2 x3 σ cells slots hc1 hc2 H locs ls hw hR hl
        unfold f7_abortCallsOf_j51 at hw
        refine rw_iinc (k := 3) (v := (x3 + 1)) (lv' := [(3, .int (x3 + 1)), (0, .ref (gS γ 7 0)), (1, va_rf (Option.map (Ad γ ad 2) x1)), (2, .int x2)]) hX hl rfl (congrArg (fun q => x3 + q) (show Int32.ofInt 1 = 1 by decide)) (by decide) rfl dX6_abortCallsOf_51 (fun ls hl1 => ?_)
        replace hl := hl1
        clear hl1
        refine lv_goto (tgt := 4) hX.1.1 hX.1.2.1 dX6_abortCallsOf_54 (by decide) ?_
        exact ih4 _ _ _ (by omega) (by omega) _ _ _ (lp_back hw hb4) hR (lh_sub hl [1, 2, 3, 0] rfl)
      refine rw_iload_n hX hl 3 rfl dX6_abortCallsOf_4 rfl ?_
      refine rw_aload_n hX hl 0 rfl (Or.inr ⟨_, rfl⟩) dX6_abortCallsOf_5 rfl ?_
      refine rw_get hX hR 7 4 0 (C := RX6) (T := TX6) (N := 11) rfl (by decide) (Nat.le_of_ble_eq_true rfl) rfl (v := .ref (gS γ 0 4)) rfl uw_X6 gw_153 rfl dX6_abortCallsOf_6 ?_
      refine rw_cVi hX hR pk_lsize (mc := 0) (ms := 0) ⟨rfl, rfl, Nat.le_of_ble_eq_true rfl, Nat.le_of_ble_eq_true rfl⟩ (As := []) (rest := [.int x3]) rfl (C_lsize l γ ad σ 4 (by decide)) gw_209 gw_210 gw_211 (rs_recvL hX hR 4 (by decide)) rfl hl.1 (ca1 rfl ca0) (Nat.le_of_ble_eq_true rfl) dX6_abortCallsOf_9 ⟨(show cells + 0 ≤ 0 by omega), (show slots + 0 ≤ 0 by omega)⟩ (fun H locs hR1 => ?_)
      replace hR := hR1
      clear hR1
      refine lv_icmp_ge (x := x3) (y := (nI (gl σ 4).length)) (tgt := 57) hX.1.1 hX.1.2.1 dX6_abortCallsOf_12 (by decide) (fun c1 => ?_) (fun c1 => ?_)
      · replace hw := if_t hw c1
        replace hw := lp_out hw ho4
        refine rw_iload_n hX hl 2 rfl dX6_abortCallsOf_57 rfl ?_
        refine W.widen (k := 0) (n := 0) (by omega) (by omega) ?_
        exact rq_ie hX hR hr hw dX6_abortCallsOf_58 hlocks
      · replace hw := if_f hw c1
        refine rw_aload_n hX hl 0 rfl (Or.inr ⟨_, rfl⟩) dX6_abortCallsOf_15 rfl ?_
        refine rw_get hX hR 7 4 0 (C := RX6) (T := TX6) (N := 11) rfl (by decide) (Nat.le_of_ble_eq_true rfl) rfl (v := .ref (gS γ 0 4)) rfl uw_X6 gw_153 rfl dX6_abortCallsOf_16 ?_
        refine rw_iload_n hX hl 3 rfl dX6_abortCallsOf_19 rfl ?_
        obtain ⟨h3, k2, h4, h5, hw1⟩ := lg_some hw
        replace hw := hw1
        clear hw1
        refine rw_cVq (r := some k2) (k := 1) hX hR pk_lget (mc := 0) (ms := 0) ⟨rfl, rfl, Nat.le_of_ble_eq_true rfl, Nat.le_of_ble_eq_true rfl⟩ (As := [.int x3]) (rest := []) rfl (C_lget l γ ad σ 4 x3 k2 (by decide) h3 h4) gw_281 gw_282 gw_283 (rs_recvL hX hR 4 (by decide)) rfl hl.1 ca0 (Nat.le_of_ble_eq_true rfl) dX6_abortCallsOf_20 ⟨(show (cells + 0) + 0 ≤ 0 by omega), (show (slots + 0) + 0 ≤ 0 by omega)⟩ (fun H locs hR1 => ?_)
        replace hR := hR1
        clear hR1
        refine va_castS (a := Ad γ ad 1 k2) (nm := RX0) hX.1.1 hX.1.2.1 hX.1.2.2.2.1 (hX.1.2.2.2.2 _ gw_512) (hX.2.1.1 1 (RX0, TX0, 3) rfl).2 (rs_recv hX hR 1 k2 (C := RX0) (T := TX0) (N := 3) rfl (by decide) h5 rfl) dX6_abortCallsOf_23 ?_
        refine rw_astore (lv' := [(4, .ref (Ad γ ad 1 k2)), (0, .ref (gS γ 7 0)), (1, va_rf (Option.map (Ad γ ad 2) x1)), (2, .int x2), (3, .int x3)]) hX hl (by decide) rfl (Or.inr ⟨_, rfl⟩) dX6_abortCallsOf_26 (fun ls hl1 => ?_)
        replace hl := hl1
        clear hl1
        refine rw_aload hX hl 0 rfl (Or.inr ⟨_, rfl⟩) dX6_abortCallsOf_28 ?_
        obtain ⟨p6, q7⟩ : ∃ o, gp σ 100 k2 = o := ⟨_, rfl⟩
        replace hw := lt_eq hw q7
        refine rw_getN hX hR 1 0 k2 (C := RX0) (T := TX0) (N := 3) rfl (by decide) h5 rfl (v := va_rf (Option.map (Ad γ ad 5) p6)) (by rw [← q7]; rfl) uw_X0 nw_661 rfl dX6_abortCallsOf_30 ?_
        obtain ⟨i8, e9, h10, hw1⟩ := dr_some hw
        replace hw := hw1
        clear hw1
        subst e9
        obtain ⟨p11, q12⟩ : ∃ o, gp σ 500 i8 = o := ⟨_, rfl⟩
        replace hw := lt_eq hw q12
        refine rw_getN hX hR 5 0 i8 (C := RX4) (T := TX4) (N := 3) rfl (by decide) h10 rfl (v := va_rf (Option.map (Ad γ ad 2) p11)) (by rw [← q12]; rfl) uw_X4 nw_610 rfl dX6_abortCallsOf_33 ?_
        refine rw_aload_n hX hl 2 rfl (va_rf_or _) dX6_abortCallsOf_36 rfl ?_
        obtain ⟨h13, hw1⟩ := ck_some hw
        replace hw := hw1
        clear hw1
        obtain ⟨h14, hw1⟩ := ck_some hw
        replace hw := hw1
        clear hw1
        refine rw_acmpne hX hR 2 (by decide) (o1 := p11) (o2 := x1) h13 h14 (tgt := 51) dX6_abortCallsOf_37 (by decide) (fun c15 => ?_) (fun c15 => ?_)
        · replace hw := if_f hw c15
          exact J51 x2 x3 σ _ _ (by omega) (by omega) _ _ _ hw hR (lh_sub hl [1, 2, 3, 4] rfl)
        · replace hw := if_t hw c15
          refine rw_aload hX hl 0 rfl (Or.inr ⟨_, rfl⟩) dX6_abortCallsOf_40 ?_
          obtain ⟨v16, σ17, g18, hw1⟩ := ob2_some hw
          replace hw := hw1
          clear hw1
          refine rw_cVNi hX hR pk_f1_abortIfGoing (mc := 0) (ms := 0) ⟨rfl, rfl, (show 1 + 1 ≤ 15 by omega), (show 8 + (1 + 11) + 64 * 1 ≤ 64 * 15 by omega)⟩ (As := []) (rest := []) rfl (C_f1_abortIfGoing l γ ad k2 σ v16 σ17 g18) nw_513 gw_515 gs_27 (rs_recv hX hR 1 k2 (C := RX0) (T := TX0) (N := 3) rfl (by decide) h5 rfl) rfl hl.1 ca0 (Nat.le_of_ble_eq_true rfl) dX6_abortCallsOf_42 ⟨(show ((cells + 0) + 0) + 0 ≤ 0 by omega), (show ((slots + 0) + 0) + 0 ≤ 0 by omega)⟩ (fun H locs hR1 => ?_)
          replace hR := hR1
          clear hR1
          refine rw_ifeqZ (b := v16) (tgt := 51) hX dX6_abortCallsOf_45 (by decide) (fun c19 => ?_) (fun c19 => ?_)
          · replace hw := if_f hw c19
            exact J51 x2 x3 σ17 _ _ (by omega) (by omega) _ _ _ hw hR (lh_sub hl [1, 2, 3, 4] rfl)
          · replace hw := if_t hw c19
            refine rw_iinc (k := 3) (v := (x2 + 1)) (lv' := [(2, .int (x2 + 1)), (4, .ref (Ad γ ad 1 k2)), (0, .ref (gS γ 7 0)), (1, va_rf (Option.map (Ad γ ad 2) x1)), (3, .int x3)]) hX hl rfl (congrArg (fun q => x2 + q) (show Int32.ofInt 1 = 1 by decide)) (by decide) rfl dX6_abortCallsOf_48 (fun ls hl1 => ?_)
            replace hl := hl1
            clear hl1
            exact J51 (x2 + 1) x3 σ17 _ _ (by omega) (by omega) _ _ _ hw hR (lh_sub hl [2, 3, 0, 4] rfl)
  refine rw_entry (ca1 rfl (ca1 (rf_cat _) ca0)) (Nat.le_of_ble_eq_true rfl) (fun ls hl1 => ?_)
  replace hl := hl1
  clear hl1
  refine lv_iconst (v := 0) hX.1.1 hX.1.2.1 dX6_abortCallsOf_0 (by decide) ?_
  refine rw_istore_n (lv' := [(2, .int 0), (0, .ref (gS γ 7 0)), (1, va_rf (Option.map (Ad γ ad 2) a1))]) hX hl (by decide) rfl dX6_abortCallsOf_1 rfl (fun ls hl1 => ?_)
  replace hl := hl1
  clear hl1
  refine lv_iconst (v := 0) hX.1.1 hX.1.2.1 dX6_abortCallsOf_2 (by decide) ?_
  refine rw_istore_n (lv' := [(3, .int 0), (2, .int 0), (0, .ref (gS γ 7 0)), (1, va_rf (Option.map (Ad γ ad 2) a1))]) hX hl (by decide) rfl dX6_abortCallsOf_3 rfl (fun ls hl1 => ?_)
  replace hl := hl1
  clear hl1
  exact L4 a1 _ _ _ _ (by omega) (by omega) _ _ _ hw hR (lh_sub hl [2, 3, 1, 0] rfl)
set_option maxHeartbeats 8000000 in
set_option maxRecDepth 100000 in
theorem C_f7_letMapsGo (l : Launch) (γ : GT) (ad : Nat → Nat → Nat) {fu : Nat} (a1 : (Option Nat)) (σ : St) (σ' : St) (hw : f7_letMapsGo fu a1 σ = some σ') : Met l yX6_letMapsGo (Cond.code yX6_letMapsGo cX6_letMapsGo 4 (Option.none : Option Jvm.ClassFile.FieldType) :: GW) (rmo 15 0 0) (va_Pc [.ref (gS γ 7 0), va_rf (Option.map (Ad γ ad 2) a1)] (RU γ ad σ)) (QV γ ad σ') 0 0 (gA γ) := by
  refine Met.ofW (cc := cX6_letMapsGo) (maxL := 4) (ret := (Option.none : Option Jvm.ClassFile.FieldType)) (by decide +kernel) rfl ?_
  intro p e s m args below meth c s₁ B hml hv
  obtain ⟨rfl, hU⟩ := hv
  obtain ⟨hX, hR⟩ := cx_of (own := RX6) B hml rfl hU
  have hr := B.returns
  have hlocks := B.notSynchronized
  have hc0 : (0 : Nat) ≤ 0 := Nat.le_refl 0
  show W p l e (rmo 15 0 0) s m ([.ref (gS γ 7 0), va_rf (Option.map (Ad γ ad 2) a1)] : List Value).toArray below meth c s.heap [] 0 0 (MQ below (QV γ ad σ') ([.ref (gS γ 7 0), va_rf (Option.map (Ad γ ad 2) a1)] : List Value).toArray s 0 0 (gA γ)) (entryFrame m ([.ref (gS γ 7 0), va_rf (Option.map (Ad γ ad 2) a1)] : List Value).toArray 4)
  unfold f7_letMapsGo at hw
  have L2 : ∀ (x1 : (Option Nat)) (n : Nat) (s9 : (Int32 × St)) (cells slots : Nat), cells ≤ 0 → slots ≤ 0 → ∀ (H : Heap) (locs : List Loc) (ls : Array Slot), lp (fun s8 => f7_letMapsGo_b2 fu x1 s8.1 s8.2) n s9 = some σ' → RS γ ad (s9.2) s H locs → lh ls 4 [(0, .ref (gS γ 7 0)), (1, va_rf (Option.map (Ad γ ad 2) x1)), (2, .int s9.1)] → W p l e (rmo 15 0 0) s m ([.ref (gS γ 7 0), va_rf (Option.map (Ad γ ad 2) a1)] : List Value).toArray below meth c H locs cells slots (MQ below (QV γ ad σ') ([.ref (gS γ 7 0), va_rf (Option.map (Ad γ ad 2) a1)] : List Value).toArray s 0 0 (gA γ)) (F0 m 2 ls []) := by
    intro x1 n2
    induction n2 with
    | zero => intro s9 cells slots hc1 hc2 H locs ls hw hR hl; exact (lp_zero hw).elim
    | succ n2 ih2 =>
      intro s9 cells slots hc1 hc2 H locs ls hw hR hl
      obtain ⟨o2, hw1, hb2, ho2⟩ := lp_succ hw
      replace hw := hw1
      clear hw1
      obtain ⟨x2, σ⟩ := s9
      replace hw : f7_letMapsGo_b2 fu x1 x2 σ = some o2 := hw
      replace hR : RS γ ad σ s H locs := hR
      replace hl : lh ls 4 [(0, .ref (gS γ 7 0)), (1, va_rf (Option.map (Ad γ ad 2) x1)), (2, .int x2)] := hl
      unfold f7_letMapsGo_b2 at hw
      have J38 : ∀ (x2 : Int32) (σ : St) (cells slots : Nat), cells ≤ 0 → slots ≤ 0 → ∀ (H : Heap) (locs : List Loc) (ls : Array Slot), f7_letMapsGo_j38 fu x1 x2 σ = some o2 → RS γ ad σ s H locs → lh ls 4 [(0, .ref (gS γ 7 0)), (1, va_rf (Option.map (Ad γ ad 2) x1)), (2, .int x2)] → W p l e (rmo 15 0 0) s m ([.ref (gS γ 7 0), va_rf (Option.map (Ad γ ad 2) a1)] : List Value).toArray below meth c H locs cells slots (MQ below (QV γ ad σ') ([.ref (gS γ 7 0), va_rf (Option.map (Ad γ ad 2) a1)] : List Value).toArray s 0 0 (gA γ)) (F0 m 38 ls []) := by
        intro x2 σ cells slots hc1 hc2 H locs ls hw hR hl
        unfold f7_letMapsGo_j38 at hw
        refine rw_iinc (k := 2) (v := (x2 + 1)) (lv' := [(2, .int (x2 + 1)), (0, .ref (gS γ 7 0)), (1, va_rf (Option.map (Ad γ ad 2) x1))]) hX hl rfl (congrArg (fun q => x2 + q) (show Int32.ofInt 1 = 1 by decide)) (by decide) rfl dX6_letMapsGo_38 (fun ls hl1 => ?_)
        replace hl := hl1
        clear hl1
        refine lv_goto (tgt := 2) hX.1.1 hX.1.2.1 dX6_letMapsGo_41 (by decide) ?_
        exact ih2 _ _ _ (by omega) (by omega) _ _ _ (lp_back hw hb2) hR (lh_sub hl [1, 2, 0] rfl)
      refine rw_iload_n hX hl 2 rfl dX6_letMapsGo_2 rfl ?_
      refine rw_aload_n hX hl 0 rfl (Or.inr ⟨_, rfl⟩) dX6_letMapsGo_3 rfl ?_
      refine rw_get hX hR 7 5 0 (C := RX6) (T := TX6) (N := 11) rfl (by decide) (Nat.le_of_ble_eq_true rfl) rfl (v := .ref (gS γ 0 5)) rfl uw_X6 gw_154 rfl dX6_letMapsGo_4 ?_
      refine rw_cVi hX hR pk_lsize (mc := 0) (ms := 0) ⟨rfl, rfl, Nat.le_of_ble_eq_true rfl, Nat.le_of_ble_eq_true rfl⟩ (As := []) (rest := [.int x2]) rfl (C_lsize l γ ad σ 5 (by decide)) gw_209 gw_210 gw_211 (rs_recvL hX hR 5 (by decide)) rfl hl.1 (ca1 rfl ca0) (Nat.le_of_ble_eq_true rfl) dX6_letMapsGo_7 ⟨(show cells + 0 ≤ 0 by omega), (show slots + 0 ≤ 0 by omega)⟩ (fun H locs hR1 => ?_)
      replace hR := hR1
      clear hR1
      refine lv_icmp_ge (x := x2) (y := (nI (gl σ 5).length)) (tgt := 44) hX.1.1 hX.1.2.1 dX6_letMapsGo_10 (by decide) (fun c1 => ?_) (fun c1 => ?_)
      · replace hw := if_t hw c1
        replace hw := lp_out hw ho2
        refine W.widen (k := 0) (n := 0) (by omega) (by omega) ?_
        exact rq_ve hX hR hr hw dX6_letMapsGo_44 hlocks
      · replace hw := if_f hw c1
        refine rw_aload_n hX hl 0 rfl (Or.inr ⟨_, rfl⟩) dX6_letMapsGo_13 rfl ?_
        refine rw_get hX hR 7 5 0 (C := RX6) (T := TX6) (N := 11) rfl (by decide) (Nat.le_of_ble_eq_true rfl) rfl (v := .ref (gS γ 0 5)) rfl uw_X6 gw_154 rfl dX6_letMapsGo_14 ?_
        refine rw_iload_n hX hl 2 rfl dX6_letMapsGo_17 rfl ?_
        obtain ⟨h3, k2, h4, h5, hw1⟩ := lg_some hw
        replace hw := hw1
        clear hw1
        refine rw_cVq (r := some k2) (k := 6) hX hR pk_lget (mc := 0) (ms := 0) ⟨rfl, rfl, Nat.le_of_ble_eq_true rfl, Nat.le_of_ble_eq_true rfl⟩ (As := [.int x2]) (rest := []) rfl (C_lget l γ ad σ 5 x2 k2 (by decide) h3 h4) gw_281 gw_282 gw_283 (rs_recvL hX hR 5 (by decide)) rfl hl.1 ca0 (Nat.le_of_ble_eq_true rfl) dX6_letMapsGo_18 ⟨(show (cells + 0) + 0 ≤ 0 by omega), (show (slots + 0) + 0 ≤ 0 by omega)⟩ (fun H locs hR1 => ?_)
        replace hR := hR1
        clear hR1
        refine va_castS (a := Ad γ ad 6 k2) (nm := RX5) hX.1.1 hX.1.2.1 hX.1.2.2.2.1 (hX.1.2.2.2.2 _ gw_77) (hX.2.1.1 6 (RX5, TX5, 2) rfl).2 (rs_recv hX hR 6 k2 (C := RX5) (T := TX5) (N := 2) rfl (by decide) h5 rfl) dX6_letMapsGo_21 ?_
        refine rw_astore_n (lv' := [(3, .ref (Ad γ ad 6 k2)), (0, .ref (gS γ 7 0)), (1, va_rf (Option.map (Ad γ ad 2) x1)), (2, .int x2)]) hX hl (by decide) rfl (Or.inr ⟨_, rfl⟩) dX6_letMapsGo_24 rfl (fun ls hl1 => ?_)
        replace hl := hl1
        clear hl1
        refine rw_aload_n hX hl 0 rfl (Or.inr ⟨_, rfl⟩) dX6_letMapsGo_25 rfl ?_
        obtain ⟨p6, q7⟩ : ∃ o, gp σ 600 k2 = o := ⟨_, rfl⟩
        replace hw := lt_eq hw q7
        refine rw_getN hX hR 6 0 k2 (C := RX5) (T := TX5) (N := 2) rfl (by decide) h5 rfl (v := va_rf (Option.map (Ad γ ad 2) p6)) (by rw [← q7]; rfl) uw_X5 nw_83 rfl dX6_letMapsGo_26 ?_
        refine rw_aload_n hX hl 2 rfl (va_rf_or _) dX6_letMapsGo_29 rfl ?_
        obtain ⟨h8, hw1⟩ := ck_some hw
        replace hw := hw1
        clear hw1
        obtain ⟨h9, hw1⟩ := ck_some hw
        replace hw := hw1
        clear hw1
        refine rw_acmpne hX hR 2 (by decide) (o1 := p6) (o2 := x1) h8 h9 (tgt := 38) dX6_letMapsGo_30 (by decide) (fun c10 => ?_) (fun c10 => ?_)
        · replace hw := if_f hw c10
          exact J38 x2 σ _ _ (by omega) (by omega) _ _ _ hw hR (lh_sub hl [1, 2, 3] rfl)
        · replace hw := if_t hw c10
          refine rw_aload_n hX hl 0 rfl (Or.inr ⟨_, rfl⟩) dX6_letMapsGo_33 rfl ?_
          refine lv_null hX.1.1 hX.1.2.1 dX6_letMapsGo_34 ?_
          refine rw_putpN (E := "DriverMoor$Device") (x := none) hX hR 6 0 k2 600 (C := RX5) (T := TX5) (N := 2) rfl (by decide) rfl rfl h5 rfl uw_X5 tyX5 tyX5_ok nmX5 nw_83 rfl rfl (by decide) dX6_letMapsGo_35 (fun σ1 H locs e1 hR1 => ?_)
          replace hR := hR1
          clear hR1
          subst e1
          exact J38 x2 (zp σ 600 k2 none) _ _ (by omega) (by omega) _ _ _ hw hR (lh_sub hl [1, 2, 3] rfl)
  refine rw_entry (ca1 rfl (ca1 (rf_cat _) ca0)) (Nat.le_of_ble_eq_true rfl) (fun ls hl1 => ?_)
  replace hl := hl1
  clear hl1
  refine lv_iconst (v := 0) hX.1.1 hX.1.2.1 dX6_letMapsGo_0 (by decide) ?_
  refine rw_istore_n (lv' := [(2, .int 0), (0, .ref (gS γ 7 0)), (1, va_rf (Option.map (Ad γ ad 2) a1))]) hX hl (by decide) rfl dX6_letMapsGo_1 rfl (fun ls hl1 => ?_)
  replace hl := hl1
  clear hl1
  exact L2 a1 _ _ _ _ (by omega) (by omega) _ _ _ hw hR (lh_sub hl [1, 2, 0] rfl)
set_option maxHeartbeats 8000000 in
set_option maxRecDepth 100000 in
theorem C_f7_detach (l : Launch) (γ : GT) (ad : Nat → Nat → Nat) {fu : Nat} (a1 : (Option Nat)) (σ : St) (σ' : St) (hw : f7_detach fu a1 σ = some σ') : Met l yX6_detach (Cond.code yX6_detach cX6_detach 4 (Option.none : Option Jvm.ClassFile.FieldType) :: GW) (rmo 16 0 0) (va_Pc [.ref (gS γ 7 0), va_rf (Option.map (Ad γ ad 2) a1)] (RU γ ad σ)) (QV γ ad σ') 0 0 (gA γ) := by
  refine Met.ofW (cc := cX6_detach) (maxL := 4) (ret := (Option.none : Option Jvm.ClassFile.FieldType)) (by decide +kernel) rfl ?_
  intro p e s m args below meth c s₁ B hml hv
  obtain ⟨rfl, hU⟩ := hv
  obtain ⟨hX, hR⟩ := cx_of (own := RX6) B hml rfl hU
  have hr := B.returns
  have hlocks := B.notSynchronized
  have hc0 : (0 : Nat) ≤ 0 := Nat.le_refl 0
  show W p l e (rmo 16 0 0) s m ([.ref (gS γ 7 0), va_rf (Option.map (Ad γ ad 2) a1)] : List Value).toArray below meth c s.heap [] 0 0 (MQ below (QV γ ad σ') ([.ref (gS γ 7 0), va_rf (Option.map (Ad γ ad 2) a1)] : List Value).toArray s 0 0 (gA γ)) (entryFrame m ([.ref (gS γ 7 0), va_rf (Option.map (Ad γ ad 2) a1)] : List Value).toArray 4)
  unfold f7_detach at hw
  have L13 : ∀ (x1 : (Option Nat)) (n : Nat) (s9 : (Int32 × St)) (cells slots : Nat), cells ≤ 0 → slots ≤ 0 → ∀ (H : Heap) (locs : List Loc) (ls : Array Slot), lp (fun s8 => f7_detach_b13 fu x1 s8.1 s8.2) n s9 = some σ' → RS γ ad (s9.2) s H locs → lh ls 4 [(0, .ref (gS γ 7 0)), (1, va_rf (Option.map (Ad γ ad 2) x1)), (2, .int s9.1)] → W p l e (rmo 16 0 0) s m ([.ref (gS γ 7 0), va_rf (Option.map (Ad γ ad 2) a1)] : List Value).toArray below meth c H locs cells slots (MQ below (QV γ ad σ') ([.ref (gS γ 7 0), va_rf (Option.map (Ad γ ad 2) a1)] : List Value).toArray s 0 0 (gA γ)) (F0 m 13 ls []) := by
    intro x1 n13
    induction n13 with
    | zero => intro s9 cells slots hc1 hc2 H locs ls hw hR hl; exact (lp_zero hw).elim
    | succ n13 ih13 =>
      intro s9 cells slots hc1 hc2 H locs ls hw hR hl
      obtain ⟨o13, hw1, hb13, ho13⟩ := lp_succ hw
      replace hw := hw1
      clear hw1
      obtain ⟨x2, σ⟩ := s9
      replace hw : f7_detach_b13 fu x1 x2 σ = some o13 := hw
      replace hR : RS γ ad σ s H locs := hR
      replace hl : lh ls 4 [(0, .ref (gS γ 7 0)), (1, va_rf (Option.map (Ad γ ad 2) x1)), (2, .int x2)] := hl
      unfold f7_detach_b13 at hw
      have J49 : ∀ (x2 : Int32) (σ : St) (cells slots : Nat), cells ≤ 0 → slots ≤ 0 → ∀ (H : Heap) (locs : List Loc) (ls : Array Slot), f7_detach_j49 fu x1 x2 σ = some o13 → RS γ ad σ s H locs → lh ls 4 [(0, .ref (gS γ 7 0)), (1, va_rf (Option.map (Ad γ ad 2) x1)), (2, .int x2)] → W p l e (rmo 16 0 0) s m ([.ref (gS γ 7 0), va_rf (Option.map (Ad γ ad 2) a1)] : List Value).toArray below meth c H locs cells slots (MQ below (QV γ ad σ') ([.ref (gS γ 7 0), va_rf (Option.map (Ad γ ad 2) a1)] : List Value).toArray s 0 0 (gA γ)) (F0 m 49 ls []) := by
        intro x2 σ cells slots hc1 hc2 H locs ls hw hR hl
        unfold f7_detach_j49 at hw
        refine rw_iinc (k := 2) (v := (x2 + 1)) (lv' := [(2, .int (x2 + 1)), (0, .ref (gS γ 7 0)), (1, va_rf (Option.map (Ad γ ad 2) x1))]) hX hl rfl (congrArg (fun q => x2 + q) (show Int32.ofInt 1 = 1 by decide)) (by decide) rfl dX6_detach_49 (fun ls hl1 => ?_)
        replace hl := hl1
        clear hl1
        refine lv_goto (tgt := 13) hX.1.1 hX.1.2.1 dX6_detach_52 (by decide) ?_
        exact ih13 _ _ _ (by omega) (by omega) _ _ _ (lp_back hw hb13) hR (lh_sub hl [1, 2, 0] rfl)
      refine rw_iload_n hX hl 2 rfl dX6_detach_13 rfl ?_
      refine rw_aload_n hX hl 0 rfl (Or.inr ⟨_, rfl⟩) dX6_detach_14 rfl ?_
      refine rw_get hX hR 7 3 0 (C := RX6) (T := TX6) (N := 11) rfl (by decide) (Nat.le_of_ble_eq_true rfl) rfl (v := .ref (gS γ 0 3)) rfl uw_X6 gw_152 rfl dX6_detach_15 ?_
      refine rw_cVi hX hR pk_lsize (mc := 0) (ms := 0) ⟨rfl, rfl, Nat.le_of_ble_eq_true rfl, Nat.le_of_ble_eq_true rfl⟩ (As := []) (rest := [.int x2]) rfl (C_lsize l γ ad σ 3 (by decide)) gw_209 gw_210 gw_211 (rs_recvL hX hR 3 (by decide)) rfl hl.1 (ca1 rfl ca0) (Nat.le_of_ble_eq_true rfl) dX6_detach_18 ⟨(show cells + 0 ≤ 0 by omega), (show slots + 0 ≤ 0 by omega)⟩ (fun H locs hR1 => ?_)
      replace hR := hR1
      clear hR1
      refine lv_icmp_ge (x := x2) (y := (nI (gl σ 3).length)) (tgt := 55) hX.1.1 hX.1.2.1 dX6_detach_21 (by decide) (fun c7 => ?_) (fun c7 => ?_)
      · replace hw := if_t hw c7
        replace hw := lp_out hw ho13
        refine rw_aload_n hX hl 1 rfl (va_rf_or _) dX6_detach_55 rfl ?_
        refine lv_null hX.1.1 hX.1.2.1 dX6_detach_56 ?_
        obtain ⟨i8, e9, h10, hw1⟩ := dr_some hw
        replace hw := hw1
        clear hw1
        subst e9
        refine rw_putpN (E := "DriverMoor$Driver") (x := none) hX hR 2 10 i8 210 (C := RX1) (T := TX1) (N := 18) rfl (by decide) rfl rfl h10 rfl uw_X1 tyX1 tyX1_ok nmX1 nw_361 rfl rfl (by decide) dX6_detach_57 (fun σ1 H locs e1 hR1 => ?_)
        replace hR := hR1
        clear hR1
        subst e1
        refine rw_aload_n hX hl 1 rfl (Or.inr ⟨_, rfl⟩) dX6_detach_60 rfl ?_
        refine lv_iconst (v := (-1)) hX.1.1 hX.1.2.1 dX6_detach_61 (by decide) ?_
        refine rw_putiN (x := (-1)) hX hR 2 11 i8 211 (C := RX1) (T := TX1) (N := 18) rfl (by decide) rfl rfl h10 rfl uw_X1 tyX1 tyX1_ok nmX1 nw_363 rfl rfl (by decide) dX6_detach_62 (fun σ1 H locs e1 hR1 => ?_)
        replace hR := hR1
        clear hR1
        subst e1
        refine rw_aload_n hX hl 1 rfl (Or.inr ⟨_, rfl⟩) dX6_detach_65 rfl ?_
        refine lv_iconst (v := 0) hX.1.1 hX.1.2.1 dX6_detach_66 (by decide) ?_
        refine rw_putbN (x := false) hX hR 2 12 i8 212 (C := RX1) (T := TX1) (N := 18) rfl (by decide) rfl rfl h10 rfl uw_X1 tyX1 tyX1_ok nmX1 nw_364 rfl rfl (by decide) dX6_detach_67 (fun σ1 H locs e1 hR1 => ?_)
        replace hR := hR1
        clear hR1
        subst e1
        refine rw_aload_n hX hl 1 rfl (Or.inr ⟨_, rfl⟩) dX6_detach_70 rfl ?_
        refine lv_iconst (v := 0) hX.1.1 hX.1.2.1 dX6_detach_71 (by decide) ?_
        refine rw_putbN (x := false) hX hR 2 15 i8 215 (C := RX1) (T := TX1) (N := 18) rfl (by decide) rfl rfl h10 rfl uw_X1 tyX1 tyX1_ok nmX1 nw_367 rfl rfl (by decide) dX6_detach_72 (fun σ1 H locs e1 hR1 => ?_)
        replace hR := hR1
        clear hR1
        subst e1
        refine rw_aload_n hX hl 1 rfl (Or.inr ⟨_, rfl⟩) dX6_detach_75 rfl ?_
        refine lv_iconst (v := 0) hX.1.1 hX.1.2.1 dX6_detach_76 (by decide) ?_
        refine rw_putbN (x := false) hX hR 2 16 i8 216 (C := RX1) (T := TX1) (N := 18) rfl (by decide) rfl rfl h10 rfl uw_X1 tyX1 tyX1_ok nmX1 nw_368 rfl rfl (by decide) dX6_detach_77 (fun σ1 H locs e1 hR1 => ?_)
        replace hR := hR1
        clear hR1
        subst e1
        refine rw_aload_n hX hl 1 rfl (Or.inr ⟨_, rfl⟩) dX6_detach_80 rfl ?_
        refine lv_iconst (v := 0) hX.1.1 hX.1.2.1 dX6_detach_81 (by decide) ?_
        refine rw_putbN (x := false) hX hR 2 17 i8 217 (C := RX1) (T := TX1) (N := 18) rfl (by decide) rfl rfl h10 rfl uw_X1 tyX1 tyX1_ok nmX1 nw_369 rfl rfl (by decide) dX6_detach_82 (fun σ1 H locs e1 hR1 => ?_)
        replace hR := hR1
        clear hR1
        subst e1
        refine rw_aload_n hX hl 0 rfl (Or.inr ⟨_, rfl⟩) dX6_detach_85 rfl ?_
        refine rw_get hX hR 7 7 0 (C := RX6) (T := TX6) (N := 11) rfl (by decide) (Nat.le_of_ble_eq_true rfl) rfl (v := .ref (gS γ 4 0)) rfl uw_X6 gw_156 rfl dX6_detach_86 ?_
        refine lv_iconst (v := 1) hX.1.1 hX.1.2.1 dX6_detach_89 (by decide) ?_
        refine rw_aload_n hX hl 1 rfl (Or.inr ⟨_, rfl⟩) dX6_detach_90 rfl ?_
        refine rw_getN hX hR 2 0 i8 (C := RX1) (T := TX1) (N := 18) rfl (by decide) h10 rfl (v := .int (gi (zb (zb (zb (zb (zi (zp σ 210 i8 none) 211 i8 (-1)) 212 i8 false) 215 i8 false) 216 i8 false) 217 i8 false) 200 i8)) rfl uw_X1 nw_342 rfl dX6_detach_91 ?_
        obtain ⟨σ12, g13, hw1⟩ := ob1_some hw
        replace hw := hw1
        clear hw1
        refine rw_cVNv hX hR pk_f4_note (mc := 0) (ms := 0) ⟨rfl, rfl, (show 2 + 1 ≤ 16 by omega), (show 8 + (4 + 11) + 64 * 2 ≤ 64 * 16 by omega)⟩ (As := [.int 1, .int (gi (zb (zb (zb (zb (zi (zp σ 210 i8 none) 211 i8 (-1)) 212 i8 false) 215 i8 false) 216 i8 false) 217 i8 false) 200 i8)]) (rest := []) rfl (C_f4_note l γ ad 1 (gi (zb (zb (zb (zb (zi (zp σ 210 i8 none) 211 i8 (-1)) 212 i8 false) 215 i8 false) 216 i8 false) 217 i8 false) 200 i8) (zb (zb (zb (zb (zi (zp σ 210 i8 none) 211 i8 (-1)) 212 i8 false) 215 i8 false) 216 i8 false) 217 i8 false) σ12 g13) nw_469 gw_471 gs_20 (rs_recv hX hR 4 0 (C := RX3) (T := TX3) (N := 3) rfl (by decide) (Nat.le_of_ble_eq_true rfl) rfl) rfl hl.1 ca0 (Nat.le_of_ble_eq_true rfl) dX6_detach_94 ⟨(show (cells + 0) + 0 ≤ 0 by omega), (show (slots + 0) + 0 ≤ 0 by omega)⟩ (fun H locs hR1 => ?_)
        replace hR := hR1
        clear hR1
        refine W.widen (k := 0) (n := 0) (by omega) (by omega) ?_
        exact rq_ve hX hR hr hw dX6_detach_97 hlocks
      · replace hw := if_f hw c7
        refine rw_aload_n hX hl 0 rfl (Or.inr ⟨_, rfl⟩) dX6_detach_24 rfl ?_
        refine rw_get hX hR 7 3 0 (C := RX6) (T := TX6) (N := 11) rfl (by decide) (Nat.le_of_ble_eq_true rfl) rfl (v := .ref (gS γ 0 3)) rfl uw_X6 gw_152 rfl dX6_detach_25 ?_
        refine rw_iload_n hX hl 2 rfl dX6_detach_28 rfl ?_
        obtain ⟨h15, k14, h16, h17, hw1⟩ := lg_some hw
        replace hw := hw1
        clear hw1
        refine rw_cVq (r := some k14) (k := 5) hX hR pk_lget (mc := 0) (ms := 0) ⟨rfl, rfl, Nat.le_of_ble_eq_true rfl, Nat.le_of_ble_eq_true rfl⟩ (As := [.int x2]) (rest := []) rfl (C_lget l γ ad σ 3 x2 k14 (by decide) h15 h16) gw_281 gw_282 gw_283 (rs_recvL hX hR 3 (by decide)) rfl hl.1 ca0 (Nat.le_of_ble_eq_true rfl) dX6_detach_29 ⟨(show (cells + 0) + 0 ≤ 0 by omega), (show (slots + 0) + 0 ≤ 0 by omega)⟩ (fun H locs hR1 => ?_)
        replace hR := hR1
        clear hR1
        refine va_castS (a := Ad γ ad 5 k14) (nm := RX4) hX.1.1 hX.1.2.1 hX.1.2.2.2.1 (hX.1.2.2.2.2 _ gw_522) (hX.2.1.1 5 (RX4, TX4, 3) rfl).2 (rs_recv hX hR 5 k14 (C := RX4) (T := TX4) (N := 3) rfl (by decide) h17 rfl) dX6_detach_32 ?_
        refine rw_astore_n (lv' := [(3, .ref (Ad γ ad 5 k14)), (0, .ref (gS γ 7 0)), (1, va_rf (Option.map (Ad γ ad 2) x1)), (2, .int x2)]) hX hl (by decide) rfl (Or.inr ⟨_, rfl⟩) dX6_detach_35 rfl (fun ls hl1 => ?_)
        replace hl := hl1
        clear hl1
        refine rw_aload_n hX hl 0 rfl (Or.inr ⟨_, rfl⟩) dX6_detach_36 rfl ?_
        obtain ⟨p18, q19⟩ : ∃ o, gp σ 500 k14 = o := ⟨_, rfl⟩
        replace hw := lt_eq hw q19
        refine rw_getN hX hR 5 0 k14 (C := RX4) (T := TX4) (N := 3) rfl (by decide) h17 rfl (v := va_rf (Option.map (Ad γ ad 2) p18)) (by rw [← q19]; rfl) uw_X4 nw_610 rfl dX6_detach_37 ?_
        refine rw_aload_n hX hl 2 rfl (va_rf_or _) dX6_detach_40 rfl ?_
        obtain ⟨h20, hw1⟩ := ck_some hw
        replace hw := hw1
        clear hw1
        obtain ⟨h21, hw1⟩ := ck_some hw
        replace hw := hw1
        clear hw1
        refine rw_acmpne hX hR 2 (by decide) (o1 := p18) (o2 := x1) h20 h21 (tgt := 49) dX6_detach_41 (by decide) (fun c22 => ?_) (fun c22 => ?_)
        · replace hw := if_f hw c22
          exact J49 x2 σ _ _ (by omega) (by omega) _ _ _ hw hR (lh_sub hl [1, 2, 3] rfl)
        · replace hw := if_t hw c22
          refine rw_aload_n hX hl 0 rfl (Or.inr ⟨_, rfl⟩) dX6_detach_44 rfl ?_
          refine lv_iconst (v := 1) hX.1.1 hX.1.2.1 dX6_detach_45 (by decide) ?_
          refine rw_putbN (x := true) hX hR 5 2 k14 502 (C := RX4) (T := TX4) (N := 3) rfl (by decide) rfl rfl h17 rfl uw_X4 tyX4 tyX4_ok nmX4 nw_614 rfl rfl (by decide) dX6_detach_46 (fun σ1 H locs e1 hR1 => ?_)
          replace hR := hR1
          clear hR1
          subst e1
          exact J49 x2 (zb σ 502 k14 true) _ _ (by omega) (by omega) _ _ _ hw hR (lh_sub hl [1, 2, 3] rfl)
  refine rw_entry (ca1 rfl (ca1 (rf_cat _) ca0)) (Nat.le_of_ble_eq_true rfl) (fun ls hl1 => ?_)
  replace hl := hl1
  clear hl1
  refine rw_aload_n hX hl 0 rfl (Or.inr ⟨_, rfl⟩) dX6_detach_0 rfl ?_
  refine rw_aload_n hX hl 1 rfl (va_rf_or _) dX6_detach_1 rfl ?_
  obtain ⟨v1, σ2, g3, hw1⟩ := ob2_some hw
  replace hw := hw1
  clear hw1
  refine rw_cVi hX hR pk_f7_abortCallsOf (mc := 0) (ms := 0) ⟨rfl, rfl, (show 15 + 1 ≤ 16 by omega), (show 8 + (5 + 11) + 64 * 15 ≤ 64 * 16 by omega)⟩ (As := [va_rf (Option.map (Ad γ ad 2) a1)]) (rest := []) rfl (C_f7_abortCallsOf l γ ad a1 σ v1 σ2 g3) gw_508 gw_510 gs_26 (rs_recv hX hR 7 0 (C := RX6) (T := TX6) (N := 11) rfl (by decide) (Nat.le_of_ble_eq_true rfl) rfl) rfl hl.1 ca0 (Nat.le_of_ble_eq_true rfl) dX6_detach_2 ⟨(show 0 + 0 ≤ 0 by omega), (show 0 + 0 ≤ 0 by omega)⟩ (fun H locs hR1 => ?_)
  replace hR := hR1
  clear hR1
  refine lv_pop hX.1.1 hX.1.2.1 dX6_detach_5 rfl ?_
  refine rw_aload_n hX hl 0 rfl (Or.inr ⟨_, rfl⟩) dX6_detach_6 rfl ?_
  refine rw_aload_n hX hl 1 rfl (va_rf_or _) dX6_detach_7 rfl ?_
  obtain ⟨σ5, g6, hw1⟩ := ob1_some hw
  replace hw := hw1
  clear hw1
  refine rw_cVv hX hR pk_f7_letMapsGo (mc := 0) (ms := 0) ⟨rfl, rfl, (show 15 + 1 ≤ 16 by omega), (show 8 + (4 + 11) + 64 * 15 ≤ 64 * 16 by omega)⟩ (As := [va_rf (Option.map (Ad γ ad 2) a1)]) (rest := []) rfl (C_f7_letMapsGo l γ ad a1 σ2 σ5 g6) gw_518 gw_520 gs_28 (rs_recv hX hR 7 0 (C := RX6) (T := TX6) (N := 11) rfl (by decide) (Nat.le_of_ble_eq_true rfl) rfl) rfl hl.1 ca0 (Nat.le_of_ble_eq_true rfl) dX6_detach_8 ⟨(show (0 + 0) + 0 ≤ 0 by omega), (show (0 + 0) + 0 ≤ 0 by omega)⟩ (fun H locs hR1 => ?_)
  replace hR := hR1
  clear hR1
  refine lv_iconst (v := 0) hX.1.1 hX.1.2.1 dX6_detach_11 (by decide) ?_
  refine rw_istore_n (lv' := [(2, .int 0), (0, .ref (gS γ 7 0)), (1, va_rf (Option.map (Ad γ ad 2) a1))]) hX hl (by decide) rfl dX6_detach_12 rfl (fun ls hl1 => ?_)
  replace hl := hl1
  clear hl1
  exact L13 a1 _ _ _ _ (by omega) (by omega) _ _ _ hw hR (lh_sub hl [1, 2, 0] rfl)
set_option maxHeartbeats 8000000 in
set_option maxRecDepth 100000 in
theorem C_f7_unbindTheLeaving (l : Launch) (γ : GT) (ad : Nat → Nat → Nat) {fu : Nat} (σ : St) (r : Int32) (σ' : St) (hw : f7_unbindTheLeaving fu σ = some (r, σ')) : Met l yX6_unbindTheLeaving (Cond.code yX6_unbindTheLeaving cX6_unbindTheLeaving 4 (Option.some Jvm.ClassFile.FieldType.int) :: GW) (rmo 17 0 0) (va_Pc [.ref (gS γ 7 0)] (RU γ ad σ)) (QI γ ad σ' r) 0 0 (gA γ) := by
  refine Met.ofW (cc := cX6_unbindTheLeaving) (maxL := 4) (ret := (Option.some Jvm.ClassFile.FieldType.int)) (by decide +kernel) rfl ?_
  intro p e s m args below meth c s₁ B hml hv
  obtain ⟨rfl, hU⟩ := hv
  obtain ⟨hX, hR⟩ := cx_of (own := RX6) B hml rfl hU
  have hr := B.returns
  have hlocks := B.notSynchronized
  have hc0 : (0 : Nat) ≤ 0 := Nat.le_refl 0
  show W p l e (rmo 17 0 0) s m ([.ref (gS γ 7 0)] : List Value).toArray below meth c s.heap [] 0 0 (MQ below (QI γ ad σ' r) ([.ref (gS γ 7 0)] : List Value).toArray s 0 0 (gA γ)) (entryFrame m ([.ref (gS γ 7 0)] : List Value).toArray 4)
  unfold f7_unbindTheLeaving at hw
  have L66 : ∀ (n : Nat) (s9 : (Int32 × Int32 × St)) (cells slots : Nat), cells ≤ 0 → slots ≤ 0 → ∀ (H : Heap) (locs : List Loc) (ls : Array Slot), lp (fun s8 => f7_unbindTheLeaving_b66 fu s8.1 s8.2.1 s8.2.2) n s9 = some (r, σ') → RS γ ad (s9.2.2) s H locs → lh ls 4 [(0, .ref (gS γ 7 0)), (1, .int s9.1), (2, .int s9.2.1)] → W p l e (rmo 17 0 0) s m ([.ref (gS γ 7 0)] : List Value).toArray below meth c H locs cells slots (MQ below (QI γ ad σ' r) ([.ref (gS γ 7 0)] : List Value).toArray s 0 0 (gA γ)) (F0 m 66 ls []) := by
    intro n66
    induction n66 with
    | zero => intro s9 cells slots hc1 hc2 H locs ls hw hR hl; exact (lp_zero hw).elim
    | succ n66 ih66 =>
      intro s9 cells slots hc1 hc2 H locs ls hw hR hl
      obtain ⟨o66, hw1, hb66, ho66⟩ := lp_succ hw
      replace hw := hw1
      clear hw1
      obtain ⟨x1, x2, σ⟩ := s9
      replace hw : f7_unbindTheLeaving_b66 fu x1 x2 σ = some o66 := hw
      replace hR : RS γ ad σ s H locs := hR
      replace hl : lh ls 4 [(0, .ref (gS γ 7 0)), (1, .int x1), (2, .int x2)] := hl
      unfold f7_unbindTheLeaving_b66 at hw
      have J106 : ∀ (x1 : Int32) (x2 : Int32) (σ : St) (cells slots : Nat), cells ≤ 0 → slots ≤ 0 → ∀ (H : Heap) (locs : List Loc) (ls : Array Slot), f7_unbindTheLeaving_j106 fu x1 x2 σ = some o66 → RS γ ad σ s H locs → lh ls 4 [(0, .ref (gS γ 7 0)), (1, .int x1), (2, .int x2)] → W p l e (rmo 17 0 0) s m ([.ref (gS γ 7 0)] : List Value).toArray below meth c H locs cells slots (MQ below (QI γ ad σ' r) ([.ref (gS γ 7 0)] : List Value).toArray s 0 0 (gA γ)) (F0 m 106 ls []) := by
        intro x1 x2 σ cells slots hc1 hc2 H locs ls hw hR hl
        unfold f7_unbindTheLeaving_j106 at hw
        refine rw_iinc (k := 2) (v := (x2 + (-1))) (lv' := [(2, .int (x2 + (-1))), (0, .ref (gS γ 7 0)), (1, .int x1)]) hX hl rfl (congrArg (fun q => x2 + q) (show Int32.ofInt (-1) = (-1) by decide)) (by decide) rfl dX6_unbindTheLeaving_106 (fun ls hl1 => ?_)
        replace hl := hl1
        clear hl1
        refine lv_goto (tgt := 66) hX.1.1 hX.1.2.1 dX6_unbindTheLeaving_109 (by decide) ?_
        exact ih66 _ _ _ (by omega) (by omega) _ _ _ (lp_back hw hb66) hR (lh_sub hl [1, 2, 0] rfl)
      refine rw_iload_n hX hl 2 rfl dX6_unbindTheLeaving_66 rfl ?_
      refine lv_if_lt (x := x2) (tgt := 112) hX.1.1 hX.1.2.1 dX6_unbindTheLeaving_67 (by decide) (fun c2 => ?_) (fun c2 => ?_)
      · replace hw := if_t hw c2
        replace hw := lp_out hw ho66
        refine rw_iload_n hX hl 1 rfl dX6_unbindTheLeaving_112 rfl ?_
        refine W.widen (k := 0) (n := 0) (by omega) (by omega) ?_
        exact rq_ie hX hR hr hw dX6_unbindTheLeaving_113 hlocks
      · replace hw := if_f hw c2
        refine rw_aload_n hX hl 0 rfl (Or.inr ⟨_, rfl⟩) dX6_unbindTheLeaving_70 rfl ?_
        refine rw_get hX hR 7 1 0 (C := RX6) (T := TX6) (N := 11) rfl (by decide) (Nat.le_of_ble_eq_true rfl) rfl (v := .ref (gS γ 0 1)) rfl uw_X6 gw_150 rfl dX6_unbindTheLeaving_71 ?_
        refine rw_iload_n hX hl 2 rfl dX6_unbindTheLeaving_74 rfl ?_
        obtain ⟨h4, k3, h5, h6, hw1⟩ := lg_some hw
        replace hw := hw1
        clear hw1
        refine rw_cVq (r := some k3) (k := 2) hX hR pk_lget (mc := 0) (ms := 0) ⟨rfl, rfl, Nat.le_of_ble_eq_true rfl, Nat.le_of_ble_eq_true rfl⟩ (As := [.int x2]) (rest := []) rfl (C_lget l γ ad σ 1 x2 k3 (by decide) h4 h5) gw_281 gw_282 gw_283 (rs_recvL hX hR 1 (by decide)) rfl hl.1 ca0 (Nat.le_of_ble_eq_true rfl) dX6_unbindTheLeaving_75 ⟨(show cells + 0 ≤ 0 by omega), (show slots + 0 ≤ 0 by omega)⟩ (fun H locs hR1 => ?_)
        replace hR := hR1
        clear hR1
        refine va_castS (a := Ad γ ad 2 k3) (nm := RX1) hX.1.1 hX.1.2.1 hX.1.2.2.2.1 (hX.1.2.2.2.2 _ gw_295) (hX.2.1.1 2 (RX1, TX1, 18) rfl).2 (rs_recv hX hR 2 k3 (C := RX1) (T := TX1) (N := 18) rfl (by decide) h6 rfl) dX6_unbindTheLeaving_78 ?_
        refine rw_astore_n (lv' := [(3, .ref (Ad γ ad 2 k3)), (0, .ref (gS γ 7 0)), (1, .int x1), (2, .int x2)]) hX hl (by decide) rfl (Or.inr ⟨_, rfl⟩) dX6_unbindTheLeaving_81 rfl (fun ls hl1 => ?_)
        replace hl := hl1
        clear hl1
        refine rw_aload_n hX hl 0 rfl (Or.inr ⟨_, rfl⟩) dX6_unbindTheLeaving_82 rfl ?_
        refine rw_getN hX hR 2 17 k3 (C := RX1) (T := TX1) (N := 18) rfl (by decide) h6 rfl (v := .int (b2i (gb σ 217 k3))) rfl uw_X1 nw_369 rfl dX6_unbindTheLeaving_83 ?_
        refine rw_ifeqZ (b := (gb σ 217 k3)) (tgt := 106) hX dX6_unbindTheLeaving_86 (by decide) (fun c7 => ?_) (fun c7 => ?_)
        · replace hw := if_f hw c7
          exact J106 x1 x2 σ _ _ (by omega) (by omega) _ _ _ hw hR (lh_sub hl [1, 2, 3] rfl)
        · replace hw := if_t hw c7
          refine rw_aload_n hX hl 1 rfl (Or.inr ⟨_, rfl⟩) dX6_unbindTheLeaving_89 rfl ?_
          refine rw_get hX hR 7 1 0 (C := RX6) (T := TX6) (N := 11) rfl (by decide) (Nat.le_of_ble_eq_true rfl) rfl (v := .ref (gS γ 0 1)) rfl uw_X6 gw_150 rfl dX6_unbindTheLeaving_90 ?_
          refine rw_iload_n hX hl 3 rfl dX6_unbindTheLeaving_93 rfl ?_
          obtain ⟨h12, hw1⟩ := ck_some hw
          replace hw := hw1
          clear hw1
          obtain ⟨h9, k8, h10, h11, hw1⟩ := lg_some hw
          replace hw := hw1
          clear hw1
          refine rw_cVq (r := some k8) (k := 2) hX hR pk_lrem (mc := 0) (ms := 0) ⟨rfl, rfl, Nat.le_of_ble_eq_true rfl, Nat.le_of_ble_eq_true rfl⟩ (As := [.int x2]) (rest := []) rfl (C_lrem l γ ad σ 1 x2 k8 (by decide) h9 h12 h10) gw_495 gw_496 gw_497 (rs_recvL hX hR 1 (by decide)) rfl hl.1 ca0 (Nat.le_of_ble_eq_true rfl) dX6_unbindTheLeaving_94 ⟨(show (cells + 0) + 0 ≤ 0 by omega), (show (slots + 0) + 0 ≤ 0 by omega)⟩ (fun H locs hR1 => ?_)
          replace hR := hR1
          clear hR1
          refine lv_pop hX.1.1 hX.1.2.1 dX6_unbindTheLeaving_97 rfl ?_
          refine rw_aload_n hX hl 1 rfl (Or.inr ⟨_, rfl⟩) dX6_unbindTheLeaving_98 rfl ?_
          refine rw_aload_n hX hl 0 rfl (Or.inr ⟨_, rfl⟩) dX6_unbindTheLeaving_99 rfl ?_
          obtain ⟨σ14, g15, hw1⟩ := ob1_some hw
          replace hw := hw1
          clear hw1
          refine rw_cVv hX hR pk_f7_detach (mc := 0) (ms := 0) ⟨rfl, rfl, (show 16 + 1 ≤ 17 by omega), (show 8 + (4 + 11) + 64 * 16 ≤ 64 * 17 by omega)⟩ (As := [va_rf (Option.map (Ad γ ad 2) (some k3))]) (rest := []) rfl (C_f7_detach l γ ad (some k3) (lrem σ 1 (x2).toNatClampNeg) σ14 g15) gw_504 gw_506 gs_25 (rs_recv hX hR 7 0 (C := RX6) (T := TX6) (N := 11) rfl (by decide) (Nat.le_of_ble_eq_true rfl) rfl) rfl hl.1 ca0 (Nat.le_of_ble_eq_true rfl) dX6_unbindTheLeaving_100 ⟨(show ((cells + 0) + 0) + 0 ≤ 0 by omega), (show ((slots + 0) + 0) + 0 ≤ 0 by omega)⟩ (fun H locs hR1 => ?_)
          replace hR := hR1
          clear hR1
          refine rw_iinc (k := 2) (v := (x1 + 1)) (lv' := [(1, .int (x1 + 1)), (3, .ref (Ad γ ad 2 k3)), (0, .ref (gS γ 7 0)), (2, .int x2)]) hX hl rfl (congrArg (fun q => x1 + q) (show Int32.ofInt 1 = 1 by decide)) (by decide) rfl dX6_unbindTheLeaving_103 (fun ls hl1 => ?_)
          replace hl := hl1
          clear hl1
          exact J106 (x1 + 1) x2 σ14 _ _ (by omega) (by omega) _ _ _ hw hR (lh_sub hl [2, 0, 3] rfl)
  have L2 : ∀ (n : Nat) (s9 : (Int32 × St)) (cells slots : Nat), cells ≤ 0 → slots ≤ 0 → ∀ (H : Heap) (locs : List Loc) (ls : Array Slot), lp (fun s8 => f7_unbindTheLeaving_b2 fu s8.1 s8.2) n s9 = some (r, σ') → RS γ ad (s9.2) s H locs → lh ls 4 [(0, .ref (gS γ 7 0)), (1, .int s9.1)] → W p l e (rmo 17 0 0) s m ([.ref (gS γ 7 0)] : List Value).toArray below meth c H locs cells slots (MQ below (QI γ ad σ' r) ([.ref (gS γ 7 0)] : List Value).toArray s 0 0 (gA γ)) (F0 m 2 ls []) := by
    intro n2
    induction n2 with
    | zero => intro s9 cells slots hc1 hc2 H locs ls hw hR hl; exact (lp_zero hw).elim
    | succ n2 ih2 =>
      intro s9 cells slots hc1 hc2 H locs ls hw hR hl
      obtain ⟨o2, hw1, hb2, ho2⟩ := lp_succ hw
      replace hw := hw1
      clear hw1
      obtain ⟨x1, σ⟩ := s9
      replace hw : f7_unbindTheLeaving_b2 fu x1 σ = some o2 := hw
      replace hR : RS γ ad σ s H locs := hR
      replace hl : lh ls 4 [(0, .ref (gS γ 7 0)), (1, .int x1)] := hl
      unfold f7_unbindTheLeaving_b2 at hw
      have J45 : ∀ (x1 : Int32) (y0 : Nat) (y1 : Bool) (σ : St) (cells slots : Nat), cells ≤ 0 → slots ≤ 0 → ∀ (H : Heap) (locs : List Loc) (ls : Array Slot), f7_unbindTheLeaving_j45 fu x1 y0 y1 σ = some o2 → RS γ ad σ s H locs → lh ls 4 [(0, .ref (gS γ 7 0)), (1, .int x1)] → W p l e (rmo 17 0 0) s m ([.ref (gS γ 7 0)] : List Value).toArray below meth c H locs cells slots (MQ below (QI γ ad σ' r) ([.ref (gS γ 7 0)] : List Value).toArray s 0 0 (gA γ)) (F0 m 45 ls [.int (b2i y1), .ref (Ad γ ad 2 y0)]) := by
        intro x1 y0 y1 σ cells slots hc1 hc2 H locs ls hw hR hl
        unfold f7_unbindTheLeaving_j45 at hw
        obtain ⟨h21, hw1⟩ := ck_lt hw
        replace hw := hw1
        clear hw1
        refine rw_putbN (x := y1) hX hR 2 17 y0 217 (C := RX1) (T := TX1) (N := 18) rfl (by decide) rfl rfl h21 rfl uw_X1 tyX1 tyX1_ok nmX1 nw_369 rfl rfl (by decide) dX6_unbindTheLeaving_45 (fun σ1 H locs e1 hR1 => ?_)
        replace hR := hR1
        clear hR1
        subst e1
        refine rw_iinc (k := 1) (v := (x1 + 1)) (lv' := [(1, .int (x1 + 1)), (0, .ref (gS γ 7 0))]) hX hl rfl (congrArg (fun q => x1 + q) (show Int32.ofInt 1 = 1 by decide)) (by decide) rfl dX6_unbindTheLeaving_48 (fun ls hl1 => ?_)
        replace hl := hl1
        clear hl1
        refine lv_goto (tgt := 2) hX.1.1 hX.1.2.1 dX6_unbindTheLeaving_51 (by decide) ?_
        exact ih2 _ _ _ (by omega) (by omega) _ _ _ (lp_back hw hb2) hR (lh_sub hl [1, 0] rfl)
      refine rw_iload_n hX hl 1 rfl dX6_unbindTheLeaving_2 rfl ?_
      refine rw_aload_n hX hl 0 rfl (Or.inr ⟨_, rfl⟩) dX6_unbindTheLeaving_3 rfl ?_
      refine rw_get hX hR 7 1 0 (C := RX6) (T := TX6) (N := 11) rfl (by decide) (Nat.le_of_ble_eq_true rfl) rfl (v := .ref (gS γ 0 1)) rfl uw_X6 gw_150 rfl dX6_unbindTheLeaving_4 ?_
      refine rw_cVi hX hR pk_lsize (mc := 0) (ms := 0) ⟨rfl, rfl, Nat.le_of_ble_eq_true rfl, Nat.le_of_ble_eq_true rfl⟩ (As := []) (rest := [.int x1]) rfl (C_lsize l γ ad σ 1 (by decide)) gw_209 gw_210 gw_211 (rs_recvL hX hR 1 (by decide)) rfl hl.1 (ca1 rfl ca0) (Nat.le_of_ble_eq_true rfl) dX6_unbindTheLeaving_7 ⟨(show cells + 0 ≤ 0 by omega), (show slots + 0 ≤ 0 by omega)⟩ (fun H locs hR1 => ?_)
      replace hR := hR1
      clear hR1
      refine lv_icmp_ge (x := x1) (y := (nI (gl σ 1).length)) (tgt := 54) hX.1.1 hX.1.2.1 dX6_unbindTheLeaving_10 (by decide) (fun c1 => ?_) (fun c1 => ?_)
      · replace hw := if_t hw c1
        replace hw := lp_out hw ho2
        refine lv_iconst (v := 0) hX.1.1 hX.1.2.1 dX6_unbindTheLeaving_54 (by decide) ?_
        refine rw_istore_n (lv' := [(1, .int 0), (0, .ref (gS γ 7 0))]) hX hl (by decide) rfl dX6_unbindTheLeaving_55 rfl (fun ls hl1 => ?_)
        replace hl := hl1
        clear hl1
        refine rw_aload_n hX hl 1 rfl (Or.inr ⟨_, rfl⟩) dX6_unbindTheLeaving_56 rfl ?_
        refine rw_get hX hR 7 1 0 (C := RX6) (T := TX6) (N := 11) rfl (by decide) (Nat.le_of_ble_eq_true rfl) rfl (v := .ref (gS γ 0 1)) rfl uw_X6 gw_150 rfl dX6_unbindTheLeaving_57 ?_
        refine rw_cVi hX hR pk_lsize (mc := 0) (ms := 0) ⟨rfl, rfl, Nat.le_of_ble_eq_true rfl, Nat.le_of_ble_eq_true rfl⟩ (As := []) (rest := []) rfl (C_lsize l γ ad σ 1 (by decide)) gw_209 gw_210 gw_211 (rs_recvL hX hR 1 (by decide)) rfl hl.1 ca0 (Nat.le_of_ble_eq_true rfl) dX6_unbindTheLeaving_60 ⟨(show (cells + 0) + 0 ≤ 0 by omega), (show (slots + 0) + 0 ≤ 0 by omega)⟩ (fun H locs hR1 => ?_)
        replace hR := hR1
        clear hR1
        refine lv_iconst (v := 1) hX.1.1 hX.1.2.1 dX6_unbindTheLeaving_63 (by decide) ?_
        refine lv_isub (x := (nI (gl σ 1).length)) (y := 1) hX.1.1 hX.1.2.1 dX6_unbindTheLeaving_64 ?_
        refine rw_istore_n (lv' := [(2, .int ((nI (gl σ 1).length) - 1)), (1, .int 0), (0, .ref (gS γ 7 0))]) hX hl (by decide) rfl dX6_unbindTheLeaving_65 rfl (fun ls hl1 => ?_)
        replace hl := hl1
        clear hl1
        exact L66 _ _ _ _ (by omega) (by omega) _ _ _ hw hR (lh_sub hl [2, 1, 0] rfl)
      · replace hw := if_f hw c1
        refine rw_aload_n hX hl 0 rfl (Or.inr ⟨_, rfl⟩) dX6_unbindTheLeaving_13 rfl ?_
        refine rw_get hX hR 7 1 0 (C := RX6) (T := TX6) (N := 11) rfl (by decide) (Nat.le_of_ble_eq_true rfl) rfl (v := .ref (gS γ 0 1)) rfl uw_X6 gw_150 rfl dX6_unbindTheLeaving_14 ?_
        refine rw_iload_n hX hl 1 rfl dX6_unbindTheLeaving_17 rfl ?_
        obtain ⟨h17, k16, h18, h19, hw1⟩ := lg_some hw
        replace hw := hw1
        clear hw1
        refine rw_cVq (r := some k16) (k := 2) hX hR pk_lget (mc := 0) (ms := 0) ⟨rfl, rfl, Nat.le_of_ble_eq_true rfl, Nat.le_of_ble_eq_true rfl⟩ (As := [.int x1]) (rest := []) rfl (C_lget l γ ad σ 1 x1 k16 (by decide) h17 h18) gw_281 gw_282 gw_283 (rs_recvL hX hR 1 (by decide)) rfl hl.1 ca0 (Nat.le_of_ble_eq_true rfl) dX6_unbindTheLeaving_18 ⟨(show (cells + 0) + 0 ≤ 0 by omega), (show (slots + 0) + 0 ≤ 0 by omega)⟩ (fun H locs hR1 => ?_)
        replace hR := hR1
        clear hR1
        refine va_castS (a := Ad γ ad 2 k16) (nm := RX1) hX.1.1 hX.1.2.1 hX.1.2.2.2.1 (hX.1.2.2.2.2 _ gw_295) (hX.2.1.1 2 (RX1, TX1, 18) rfl).2 (rs_recv hX hR 2 k16 (C := RX1) (T := TX1) (N := 18) rfl (by decide) h19 rfl) dX6_unbindTheLeaving_21 ?_
        refine rw_astore_n (lv' := [(2, .ref (Ad γ ad 2 k16)), (0, .ref (gS γ 7 0)), (1, .int x1)]) hX hl (by decide) rfl (Or.inr ⟨_, rfl⟩) dX6_unbindTheLeaving_24 rfl (fun ls hl1 => ?_)
        replace hl := hl1
        clear hl1
        refine rw_aload_n hX hl 0 rfl (Or.inr ⟨_, rfl⟩) dX6_unbindTheLeaving_25 rfl ?_
        refine rw_aload_n hX hl 0 rfl (Or.inr ⟨_, rfl⟩) dX6_unbindTheLeaving_26 rfl ?_
        refine rw_getN hX hR 2 17 k16 (C := RX1) (T := TX1) (N := 18) rfl (by decide) h19 rfl (v := .int (b2i (gb σ 217 k16))) rfl uw_X1 nw_369 rfl dX6_unbindTheLeaving_27 ?_
        refine rw_ifneZ (b := (gb σ 217 k16)) (tgt := 40) hX dX6_unbindTheLeaving_30 (by decide) (fun c20 => ?_) (fun c20 => ?_)
        · replace hw := if_t hw c20
          refine lv_iconst (v := 1) hX.1.1 hX.1.2.1 dX6_unbindTheLeaving_40 (by decide) ?_
          refine lv_goto (tgt := 45) hX.1.1 hX.1.2.1 dX6_unbindTheLeaving_41 (by decide) ?_
          exact J45 x1 k16 true σ _ _ (by omega) (by omega) _ _ _ hw hR (lh_sub hl [1, 2] rfl)
        · replace hw := if_f hw c20
          refine rw_aload_n hX hl 0 rfl (Or.inr ⟨_, rfl⟩) dX6_unbindTheLeaving_33 rfl ?_
          obtain ⟨v22, g24, hw1⟩ := ob1_some hw
          replace hw := hw1
          clear hw1
          refine rw_cVNi hX hR pk_f2_hasLeavingNeed (mc := 0) (ms := 0) ⟨rfl, rfl, (show 1 + 1 ≤ 17 by omega), (show 8 + (1 + 11) + 64 * 1 ≤ 64 * 17 by omega)⟩ (As := []) (rest := [.ref (Ad γ ad 2 k16)]) rfl (C_f2_hasLeavingNeed l γ ad k16 σ v22 g24) nw_491 gw_493 gs_23 (rs_recv hX hR 2 k16 (C := RX1) (T := TX1) (N := 18) rfl (by decide) h19 rfl) rfl hl.1 (ca1 rfl ca0) (Nat.le_of_ble_eq_true rfl) dX6_unbindTheLeaving_34 ⟨(show ((cells + 0) + 0) + 0 ≤ 0 by omega), (show ((slots + 0) + 0) + 0 ≤ 0 by omega)⟩ (fun H locs hR1 => ?_)
          replace hR := hR1
          clear hR1
          refine rw_ifeqZ (b := v22) (tgt := 44) hX dX6_unbindTheLeaving_37 (by decide) (fun c25 => ?_) (fun c25 => ?_)
          · replace hw := if_f hw c25
            refine lv_iconst (v := 0) hX.1.1 hX.1.2.1 dX6_unbindTheLeaving_44 (by decide) ?_
            exact J45 x1 k16 false σ _ _ (by omega) (by omega) _ _ _ hw hR (lh_sub hl [1, 2] rfl)
          · replace hw := if_t hw c25
            refine lv_iconst (v := 1) hX.1.1 hX.1.2.1 dX6_unbindTheLeaving_40 (by decide) ?_
            refine lv_goto (tgt := 45) hX.1.1 hX.1.2.1 dX6_unbindTheLeaving_41 (by decide) ?_
            exact J45 x1 k16 true σ _ _ (by omega) (by omega) _ _ _ hw hR (lh_sub hl [1, 2] rfl)
  refine rw_entry (ca1 rfl ca0) (Nat.le_of_ble_eq_true rfl) (fun ls hl1 => ?_)
  replace hl := hl1
  clear hl1
  refine lv_iconst (v := 0) hX.1.1 hX.1.2.1 dX6_unbindTheLeaving_0 (by decide) ?_
  refine rw_istore_n (lv' := [(1, .int 0), (0, .ref (gS γ 7 0))]) hX hl (by decide) rfl dX6_unbindTheLeaving_1 rfl (fun ls hl1 => ?_)
  replace hl := hl1
  clear hl1
  exact L2 _ _ _ _ (by omega) (by omega) _ _ _ hw hR (lh_sub hl [1, 0] rfl)
set_option maxHeartbeats 8000000 in
set_option maxRecDepth 100000 in
theorem C_f7_takeAway (l : Launch) (γ : GT) (ad : Nat → Nat → Nat) {fu : Nat} (a1 : (Option Nat)) (σ : St) (r : Int32) (σ' : St) (hw : f7_takeAway fu a1 σ = some (r, σ')) : Met l yX6_takeAway (Cond.code yX6_takeAway cX6_takeAway 5 (Option.some Jvm.ClassFile.FieldType.int) :: GW) (rmo 15 0 0) (va_Pc [.ref (gS γ 7 0), va_rf (Option.map (Ad γ ad 2) a1)] (RU γ ad σ)) (QI γ ad σ' r) 0 0 (gA γ) := by
  refine Met.ofW (cc := cX6_takeAway) (maxL := 5) (ret := (Option.some Jvm.ClassFile.FieldType.int)) (by decide +kernel) rfl ?_
  intro p e s m args below meth c s₁ B hml hv
  obtain ⟨rfl, hU⟩ := hv
  obtain ⟨hX, hR⟩ := cx_of (own := RX6) B hml rfl hU
  have hr := B.returns
  have hlocks := B.notSynchronized
  have hc0 : (0 : Nat) ≤ 0 := Nat.le_refl 0
  show W p l e (rmo 15 0 0) s m ([.ref (gS γ 7 0), va_rf (Option.map (Ad γ ad 2) a1)] : List Value).toArray below meth c s.heap [] 0 0 (MQ below (QI γ ad σ' r) ([.ref (gS γ 7 0), va_rf (Option.map (Ad γ ad 2) a1)] : List Value).toArray s 0 0 (gA γ)) (entryFrame m ([.ref (gS γ 7 0), va_rf (Option.map (Ad γ ad 2) a1)] : List Value).toArray 5)
  unfold f7_takeAway at hw
  have L12 : ∀ (x1 : (Option Nat)) (n : Nat) (s9 : (Int32 × Int32 × St)) (cells slots : Nat), cells ≤ 0 → slots ≤ 0 → ∀ (H : Heap) (locs : List Loc) (ls : Array Slot), lp (fun s8 => f7_takeAway_b12 fu x1 s8.1 s8.2.1 s8.2.2) n s9 = some (r, σ') → RS γ ad (s9.2.2) s H locs → lh ls 5 [(0, .ref (gS γ 7 0)), (1, va_rf (Option.map (Ad γ ad 2) x1)), (2, .int s9.1), (3, .int s9.2.1)] → W p l e (rmo 15 0 0) s m ([.ref (gS γ 7 0), va_rf (Option.map (Ad γ ad 2) a1)] : List Value).toArray below meth c H locs cells slots (MQ below (QI γ ad σ' r) ([.ref (gS γ 7 0), va_rf (Option.map (Ad γ ad 2) a1)] : List Value).toArray s 0 0 (gA γ)) (F0 m 12 ls []) := by
    intro x1 n12
    induction n12 with
    | zero => intro s9 cells slots hc1 hc2 H locs ls hw hR hl; exact (lp_zero hw).elim
    | succ n12 ih12 =>
      intro s9 cells slots hc1 hc2 H locs ls hw hR hl
      obtain ⟨o12, hw1, hb12, ho12⟩ := lp_succ hw
      replace hw := hw1
      clear hw1
      obtain ⟨x2, x3, σ⟩ := s9
      replace hw : f7_takeAway_b12 fu x1 x2 x3 σ = some o12 := hw
      replace hR : RS γ ad σ s H locs := hR
      replace hl : lh ls 5 [(0, .ref (gS γ 7 0)), (1, va_rf (Option.map (Ad γ ad 2) x1)), (2, .int x2), (3, .int x3)] := hl
      unfold f7_takeAway_b12 at hw
      have J74 : ∀ (x2 : Int32) (x3 : Int32) (σ : St) (cells slots : Nat), cells ≤ 0 → slots ≤ 0 → ∀ (H : Heap) (locs : List Loc) (ls : Array Slot), f7_takeAway_j74 fu x1 x2 x3 σ = some o12 → RS γ ad σ s H locs → lh ls 5 [(0, .ref (gS γ 7 0)), (1, va_rf (Option.map (Ad γ ad 2) x1)), (2, .int x2), (3, .int x3)] → W p l e (rmo 15 0 0) s m ([.ref (gS γ 7 0), va_rf (Option.map (Ad γ ad 2) a1)] : List Value).toArray below meth c H locs cells slots (MQ below (QI γ ad σ' r) ([.ref (gS γ 7 0), va_rf (Option.map (Ad γ ad 2) a1)] : List Value).toArray s 0 0 (gA γ)) (F0 m 74 ls []) := by
        intro x2 x3 σ cells slots hc1 hc2 H locs ls hw hR hl
        unfold f7_takeAway_j74 at hw
        refine rw_iinc (k := 3) (v := (x3 + (-1))) (lv' := [(3, .int (x3 + (-1))), (0, .ref (gS γ 7 0)), (1, va_rf (Option.map (Ad γ ad 2) x1)), (2, .int x2)]) hX hl rfl (congrArg (fun q => x3 + q) (show Int32.ofInt (-1) = (-1) by decide)) (by decide) rfl dX6_takeAway_74 (fun ls hl1 => ?_)
        replace hl := hl1
        clear hl1
        refine lv_goto (tgt := 12) hX.1.1 hX.1.2.1 dX6_takeAway_77 (by decide) ?_
        exact ih12 _ _ _ (by omega) (by omega) _ _ _ (lp_back hw hb12) hR (lh_sub hl [1, 2, 3, 0] rfl)
      refine rw_iload_n hX hl 3 rfl dX6_takeAway_12 rfl ?_
      refine lv_if_lt (x := x3) (tgt := 80) hX.1.1 hX.1.2.1 dX6_takeAway_13 (by decide) (fun c1 => ?_) (fun c1 => ?_)
      · replace hw := if_t hw c1
        replace hw := lp_out hw ho12
        refine rw_iload_n hX hl 2 rfl dX6_takeAway_80 rfl ?_
        refine W.widen (k := 0) (n := 0) (by omega) (by omega) ?_
        exact rq_ie hX hR hr hw dX6_takeAway_81 hlocks
      · replace hw := if_f hw c1
        refine rw_aload_n hX hl 0 rfl (Or.inr ⟨_, rfl⟩) dX6_takeAway_16 rfl ?_
        refine rw_get hX hR 7 0 0 (C := RX6) (T := TX6) (N := 11) rfl (by decide) (Nat.le_of_ble_eq_true rfl) rfl (v := .ref (gS γ 0 0)) rfl uw_X6 gw_149 rfl dX6_takeAway_17 ?_
        refine rw_iload_n hX hl 3 rfl dX6_takeAway_20 rfl ?_
        obtain ⟨h3, k2, h4, h5, hw1⟩ := lg_some hw
        replace hw := hw1
        clear hw1
        refine rw_cVq (r := some k2) (k := 2) hX hR pk_lget (mc := 0) (ms := 0) ⟨rfl, rfl, Nat.le_of_ble_eq_true rfl, Nat.le_of_ble_eq_true rfl⟩ (As := [.int x3]) (rest := []) rfl (C_lget l γ ad σ 0 x3 k2 (by decide) h3 h4) gw_281 gw_282 gw_283 (rs_recvL hX hR 0 (by decide)) rfl hl.1 ca0 (Nat.le_of_ble_eq_true rfl) dX6_takeAway_21 ⟨(show cells + 0 ≤ 0 by omega), (show slots + 0 ≤ 0 by omega)⟩ (fun H locs hR1 => ?_)
        replace hR := hR1
        clear hR1
        refine va_castS (a := Ad γ ad 2 k2) (nm := RX1) hX.1.1 hX.1.2.1 hX.1.2.2.2.1 (hX.1.2.2.2.2 _ gw_295) (hX.2.1.1 2 (RX1, TX1, 18) rfl).2 (rs_recv hX hR 2 k2 (C := RX1) (T := TX1) (N := 18) rfl (by decide) h5 rfl) dX6_takeAway_24 ?_
        refine rw_astore (lv' := [(4, .ref (Ad γ ad 2 k2)), (0, .ref (gS γ 7 0)), (1, va_rf (Option.map (Ad γ ad 2) x1)), (2, .int x2), (3, .int x3)]) hX hl (by decide) rfl (Or.inr ⟨_, rfl⟩) dX6_takeAway_27 (fun ls hl1 => ?_)
        replace hl := hl1
        clear hl1
        refine rw_aload hX hl 0 rfl (Or.inr ⟨_, rfl⟩) dX6_takeAway_29 ?_
        refine rw_getN hX hR 2 8 k2 (C := RX1) (T := TX1) (N := 18) rfl (by decide) h5 rfl (v := .int (b2i (gb σ 208 k2))) rfl uw_X1 nw_358 rfl dX6_takeAway_31 ?_
        refine rw_ifeqZ (b := (gb σ 208 k2)) (tgt := 74) hX dX6_takeAway_34 (by decide) (fun c6 => ?_) (fun c6 => ?_)
        · replace hw := if_f hw c6
          exact J74 x2 x3 σ _ _ (by omega) (by omega) _ _ _ hw hR (lh_sub hl [1, 2, 3, 4] rfl)
        · replace hw := if_t hw c6
          refine rw_aload hX hl 0 rfl (Or.inr ⟨_, rfl⟩) dX6_takeAway_37 ?_
          refine rw_aload_n hX hl 2 rfl (va_rf_or _) dX6_takeAway_39 rfl ?_
          obtain ⟨v7, g9, hw1⟩ := ob1_some hw
          replace hw := hw1
          clear hw1
          refine rw_cVNi hX hR pk_f2_isAtOrBelow (mc := 0) (ms := 0) ⟨rfl, rfl, (show 1 + 1 ≤ 15 by omega), (show 8 + (3 + 11) + 64 * 1 ≤ 64 * 15 by omega)⟩ (As := [va_rf (Option.map (Ad γ ad 2) x1)]) (rest := []) rfl (C_f2_isAtOrBelow l γ ad k2 x1 σ v7 g9) nw_483 gw_485 gs_21 (rs_recv hX hR 2 k2 (C := RX1) (T := TX1) (N := 18) rfl (by decide) h5 rfl) rfl hl.1 ca0 (Nat.le_of_ble_eq_true rfl) dX6_takeAway_40 ⟨(show (cells + 0) + 0 ≤ 0 by omega), (show (slots + 0) + 0 ≤ 0 by omega)⟩ (fun H locs hR1 => ?_)
          replace hR := hR1
          clear hR1
          refine rw_ifeqZ (b := v7) (tgt := 74) hX dX6_takeAway_43 (by decide) (fun c10 => ?_) (fun c10 => ?_)
          · replace hw := if_f hw c10
            exact J74 x2 x3 σ _ _ (by omega) (by omega) _ _ _ hw hR (lh_sub hl [1, 2, 3, 4] rfl)
          · replace hw := if_t hw c10
            refine rw_aload hX hl 0 rfl (Or.inr ⟨_, rfl⟩) dX6_takeAway_46 ?_
            refine lv_iconst (v := 0) hX.1.1 hX.1.2.1 dX6_takeAway_48 (by decide) ?_
            refine rw_putbN (x := false) hX hR 2 8 k2 208 (C := RX1) (T := TX1) (N := 18) rfl (by decide) rfl rfl h5 rfl uw_X1 tyX1 tyX1_ok nmX1 nw_358 rfl rfl (by decide) dX6_takeAway_49 (fun σ1 H locs e1 hR1 => ?_)
            replace hR := hR1
            clear hR1
            subst e1
            refine rw_aload hX hl 0 rfl (Or.inr ⟨_, rfl⟩) dX6_takeAway_52 ?_
            refine lv_iconst (v := 0) hX.1.1 hX.1.2.1 dX6_takeAway_54 (by decide) ?_
            refine rw_putbN (x := false) hX hR 2 15 k2 215 (C := RX1) (T := TX1) (N := 18) rfl (by decide) rfl rfl h5 rfl uw_X1 tyX1 tyX1_ok nmX1 nw_367 rfl rfl (by decide) dX6_takeAway_55 (fun σ1 H locs e1 hR1 => ?_)
            replace hR := hR1
            clear hR1
            subst e1
            refine rw_aload_n hX hl 1 rfl (Or.inr ⟨_, rfl⟩) dX6_takeAway_58 rfl ?_
            refine rw_get hX hR 7 7 0 (C := RX6) (T := TX6) (N := 11) rfl (by decide) (Nat.le_of_ble_eq_true rfl) rfl (v := .ref (gS γ 4 0)) rfl uw_X6 gw_156 rfl dX6_takeAway_59 ?_
            refine lv_iconst (v := 2) hX.1.1 hX.1.2.1 dX6_takeAway_62 (by decide) ?_
            refine rw_aload hX hl 0 rfl (Or.inr ⟨_, rfl⟩) dX6_takeAway_63 ?_
            refine rw_getN hX hR 2 0 k2 (C := RX1) (T := TX1) (N := 18) rfl (by decide) h5 rfl (v := .int (gi (zb (zb σ 208 k2 false) 215 k2 false) 200 k2)) rfl uw_X1 nw_342 rfl dX6_takeAway_65 ?_
            obtain ⟨σ12, g13, hw1⟩ := ob1_some hw
            replace hw := hw1
            clear hw1
            refine rw_cVNv hX hR pk_f4_note (mc := 0) (ms := 0) ⟨rfl, rfl, (show 2 + 1 ≤ 15 by omega), (show 8 + (4 + 11) + 64 * 2 ≤ 64 * 15 by omega)⟩ (As := [.int 2, .int (gi (zb (zb σ 208 k2 false) 215 k2 false) 200 k2)]) (rest := []) rfl (C_f4_note l γ ad 2 (gi (zb (zb σ 208 k2 false) 215 k2 false) 200 k2) (zb (zb σ 208 k2 false) 215 k2 false) σ12 g13) nw_469 gw_471 gs_20 (rs_recv hX hR 4 0 (C := RX3) (T := TX3) (N := 3) rfl (by decide) (Nat.le_of_ble_eq_true rfl) rfl) rfl hl.1 ca0 (Nat.le_of_ble_eq_true rfl) dX6_takeAway_68 ⟨(show ((cells + 0) + 0) + 0 ≤ 0 by omega), (show ((slots + 0) + 0) + 0 ≤ 0 by omega)⟩ (fun H locs hR1 => ?_)
            replace hR := hR1
            clear hR1
            refine rw_iinc (k := 3) (v := (x2 + 1)) (lv' := [(2, .int (x2 + 1)), (4, .ref (Ad γ ad 2 k2)), (0, .ref (gS γ 7 0)), (1, va_rf (Option.map (Ad γ ad 2) x1)), (3, .int x3)]) hX hl rfl (congrArg (fun q => x2 + q) (show Int32.ofInt 1 = 1 by decide)) (by decide) rfl dX6_takeAway_71 (fun ls hl1 => ?_)
            replace hl := hl1
            clear hl1
            exact J74 (x2 + 1) x3 σ12 _ _ (by omega) (by omega) _ _ _ hw hR (lh_sub hl [2, 3, 0, 4] rfl)
  refine rw_entry (ca1 rfl (ca1 (rf_cat _) ca0)) (Nat.le_of_ble_eq_true rfl) (fun ls hl1 => ?_)
  replace hl := hl1
  clear hl1
  refine lv_iconst (v := 0) hX.1.1 hX.1.2.1 dX6_takeAway_0 (by decide) ?_
  refine rw_istore_n (lv' := [(2, .int 0), (0, .ref (gS γ 7 0)), (1, va_rf (Option.map (Ad γ ad 2) a1))]) hX hl (by decide) rfl dX6_takeAway_1 rfl (fun ls hl1 => ?_)
  replace hl := hl1
  clear hl1
  refine rw_aload_n hX hl 1 rfl (Or.inr ⟨_, rfl⟩) dX6_takeAway_2 rfl ?_
  refine rw_get hX hR 7 0 0 (C := RX6) (T := TX6) (N := 11) rfl (by decide) (Nat.le_of_ble_eq_true rfl) rfl (v := .ref (gS γ 0 0)) rfl uw_X6 gw_149 rfl dX6_takeAway_3 ?_
  refine rw_cVi hX hR pk_lsize (mc := 0) (ms := 0) ⟨rfl, rfl, Nat.le_of_ble_eq_true rfl, Nat.le_of_ble_eq_true rfl⟩ (As := []) (rest := []) rfl (C_lsize l γ ad σ 0 (by decide)) gw_209 gw_210 gw_211 (rs_recvL hX hR 0 (by decide)) rfl hl.1 ca0 (Nat.le_of_ble_eq_true rfl) dX6_takeAway_6 ⟨(show 0 + 0 ≤ 0 by omega), (show 0 + 0 ≤ 0 by omega)⟩ (fun H locs hR1 => ?_)
  replace hR := hR1
  clear hR1
  refine lv_iconst (v := 1) hX.1.1 hX.1.2.1 dX6_takeAway_9 (by decide) ?_
  refine lv_isub (x := (nI (gl σ 0).length)) (y := 1) hX.1.1 hX.1.2.1 dX6_takeAway_10 ?_
  refine rw_istore_n (lv' := [(3, .int ((nI (gl σ 0).length) - 1)), (2, .int 0), (0, .ref (gS γ 7 0)), (1, va_rf (Option.map (Ad γ ad 2) a1))]) hX hl (by decide) rfl dX6_takeAway_11 rfl (fun ls hl1 => ?_)
  replace hl := hl1
  clear hl1
  exact L12 a1 _ _ _ _ (by omega) (by omega) _ _ _ hw hR (lh_sub hl [2, 3, 1, 0] rfl)
set_option maxHeartbeats 8000000 in
set_option maxRecDepth 100000 in
theorem C_f7_unplug (l : Launch) (hfl : l.stackTraces = false) (γ : GT) (ad : Nat → Nat → Nat) {fu : Nat} (a1 : Int32) (σ : St) (r : Except Nat Int32) (σ' : St) (hw : f7_unplug fu a1 σ = some (r, σ')) : vx_Met l yX6_unplug (Cond.code yX6_unplug cX6_unplug 5 (Option.some Jvm.ClassFile.FieldType.int) :: GW) (rmo 84 28 5992) (va_Pc [.ref (gS γ 7 0), .int a1] (RU γ ad σ)) (QXI γ ad σ' r) (QXX γ ad σ' r) 28 5992 (gA γ) := by
  refine vx_ofW (cc := cX6_unplug) (maxL := 5) (ret := (Option.some Jvm.ClassFile.FieldType.int)) (by decide) rfl ?_
  intro p e s m args below meth c s₁ B hml hxt hv
  obtain ⟨rfl, hU⟩ := hv
  obtain ⟨hX, hR⟩ := cx_of (own := RX6) B hml rfl hU
  have hr := B.returns
  have hlocks := B.notSynchronized
  have hc0 : (0 : Nat) ≤ 0 := Nat.le_refl 0
  show W p l e (rmo 84 28 5992) s m ([.ref (gS γ 7 0), .int a1] : List Value).toArray below meth c s.heap [] 0 0 (vx_MQ below (QXI γ ad σ' r) (QXX γ ad σ' r) ([.ref (gS γ 7 0), .int a1] : List Value).toArray s 28 5992 (gA γ)) (entryFrame m ([.ref (gS γ 7 0), .int a1] : List Value).toArray 5)
  unfold f7_unplug at hw
  have L25 : ∀ (x2 : (Option Nat)) (n : Nat) (s9 : (Int32 × St)) (cells slots : Nat), cells ≤ 2 → slots ≤ 12 → ∀ (H : Heap) (locs : List Loc) (ls : Array Slot), lp (fun s8 => f7_unplug_b25 fu x2 s8.1 s8.2) n s9 = some (r, σ') → RS γ ad (s9.2) s H locs → lh ls 5 [(0, .ref (gS γ 7 0)), (2, va_rf (Option.map (Ad γ ad 2) x2)), (3, .int s9.1)] → W p l e (rmo 84 28 5992) s m ([.ref (gS γ 7 0), .int a1] : List Value).toArray below meth c H locs cells slots (vx_MQ below (QXI γ ad σ' r) (QXX γ ad σ' r) ([.ref (gS γ 7 0), .int a1] : List Value).toArray s 28 5992 (gA γ)) (F0 m 25 ls []) := by
    intro x2 n25
    induction n25 with
    | zero => intro s9 cells slots hc1 hc2 H locs ls hw hR hl; exact (lp_zero hw).elim
    | succ n25 ih25 =>
      intro s9 cells slots hc1 hc2 H locs ls hw hR hl
      obtain ⟨o25, hw1, hb25, ho25⟩ := lp_succ hw
      replace hw := hw1
      clear hw1
      obtain ⟨x3, σ⟩ := s9
      replace hw : f7_unplug_b25 fu x2 x3 σ = some o25 := hw
      replace hR : RS γ ad σ s H locs := hR
      replace hl : lh ls 5 [(0, .ref (gS γ 7 0)), (2, va_rf (Option.map (Ad γ ad 2) x2)), (3, .int x3)] := hl
      unfold f7_unplug_b25 at hw
      refine rw_iload_n hX hl 2 rfl dX6_unplug_25 rfl ?_
      refine rw_aload_n hX hl 0 rfl (Or.inr ⟨_, rfl⟩) dX6_unplug_26 rfl ?_
      refine rw_get hX hR 7 1 0 (C := RX6) (T := TX6) (N := 11) rfl (by decide) (Nat.le_of_ble_eq_true rfl) rfl (v := .ref (gS γ 0 1)) rfl uw_X6 gw_150 rfl dX6_unplug_27 ?_
      refine rw_cVi hX hR pk_lsize (mc := 0) (ms := 0) ⟨rfl, rfl, Nat.le_of_ble_eq_true rfl, Nat.le_of_ble_eq_true rfl⟩ (As := []) (rest := [.int x3]) rfl (C_lsize l γ ad σ 1 (by decide)) gw_209 gw_210 gw_211 (rs_recvL hX hR 1 (by decide)) rfl hl.1 (ca1 rfl ca0) (Nat.le_of_ble_eq_true rfl) dX6_unplug_30 ⟨(show cells + 0 ≤ 28 by omega), (show slots + 0 ≤ 5992 by omega)⟩ (fun H locs hR1 => ?_)
      replace hR := hR1
      clear hR1
      refine lv_icmp_ge (x := x3) (y := (nI (gl σ 1).length)) (tgt := 66) hX.1.1 hX.1.2.1 dX6_unplug_33 (by decide) (fun c10 => ?_) (fun c10 => ?_)
      · replace hw := if_t hw c10
        replace hw := lp_out hw ho25
        refine rw_aload_n hX hl 0 rfl (Or.inr ⟨_, rfl⟩) dX6_unplug_66 rfl ?_
        obtain ⟨v11, σ12, g13, hw1⟩ := ob2_some hw
        replace hw := hw1
        clear hw1
        refine rw_cVi hX hR pk_f7_unbindTheLeaving (mc := 0) (ms := 0) ⟨rfl, rfl, (show 17 + 1 ≤ 84 by omega), (show 8 + (4 + 11) + 64 * 17 ≤ 64 * 84 by omega)⟩ (As := []) (rest := []) rfl (C_f7_unbindTheLeaving l γ ad σ v11 σ12 g13) gw_487 gw_489 gs_22 (rs_recv hX hR 7 0 (C := RX6) (T := TX6) (N := 11) rfl (by decide) (Nat.le_of_ble_eq_true rfl) rfl) rfl hl.1 ca0 (Nat.le_of_ble_eq_true rfl) dX6_unplug_67 ⟨(show (cells + 0) + 0 ≤ 28 by omega), (show (slots + 0) + 0 ≤ 5992 by omega)⟩ (fun H locs hR1 => ?_)
        replace hR := hR1
        clear hR1
        refine lv_pop hX.1.1 hX.1.2.1 dX6_unplug_70 rfl ?_
        refine rw_aload_n hX hl 0 rfl (Or.inr ⟨_, rfl⟩) dX6_unplug_71 rfl ?_
        refine rw_aload_n hX hl 1 rfl (va_rf_or _) dX6_unplug_72 rfl ?_
        obtain ⟨v14, σ15, g16, hw1⟩ := ob2_some hw
        replace hw := hw1
        clear hw1
        refine rw_cVi hX hR pk_f7_takeAway (mc := 0) (ms := 0) ⟨rfl, rfl, (show 15 + 1 ≤ 84 by omega), (show 8 + (5 + 11) + 64 * 15 ≤ 64 * 84 by omega)⟩ (As := [va_rf (Option.map (Ad γ ad 2) x2)]) (rest := []) rfl (C_f7_takeAway l γ ad x2 σ12 v14 σ15 g16) gw_523 gw_525 gs_29 (rs_recv hX hR 7 0 (C := RX6) (T := TX6) (N := 11) rfl (by decide) (Nat.le_of_ble_eq_true rfl) rfl) rfl hl.1 ca0 (Nat.le_of_ble_eq_true rfl) dX6_unplug_73 ⟨(show ((cells + 0) + 0) + 0 ≤ 28 by omega), (show ((slots + 0) + 0) + 0 ≤ 5992 by omega)⟩ (fun H locs hR1 => ?_)
        replace hR := hR1
        clear hR1
        refine rw_istore_n (lv' := [(3, .int v14), (0, .ref (gS γ 7 0)), (2, va_rf (Option.map (Ad γ ad 2) x2))]) hX hl (by decide) rfl dX6_unplug_76 rfl (fun ls hl1 => ?_)
        replace hl := hl1
        clear hl1
        refine rw_aload_n hX hl 1 rfl (Or.inr ⟨_, rfl⟩) dX6_unplug_77 rfl ?_
        obtain ⟨σ18, g19, hw1⟩ := ob1_some hw
        replace hw := hw1
        clear hw1
        refine rw_cVv hX hR pk_f7_bindWhatCanBe (mc := 26) (ms := 5980) ⟨rfl, rfl, (show 83 + 1 ≤ 84 by omega), (show 8 + (3 + 11) + 64 * 83 ≤ 64 * 84 by omega)⟩ (As := []) (rest := []) rfl (C_f7_bindWhatCanBe l γ ad σ15 σ18 g19) gw_408 gw_410 gs_6 (rs_recv hX hR 7 0 (C := RX6) (T := TX6) (N := 11) rfl (by decide) (Nat.le_of_ble_eq_true rfl) rfl) rfl hl.1 ca0 (Nat.le_of_ble_eq_true rfl) dX6_unplug_78 ⟨(show (((cells + 0) + 0) + 0) + 26 ≤ 28 by omega), (show (((slots + 0) + 0) + 0) + 5980 ≤ 5992 by omega)⟩ (fun H locs hR1 => ?_)
        replace hR := hR1
        clear hR1
        refine rw_iload_n hX hl 0 rfl dX6_unplug_81 rfl ?_
        refine W.widen (k := 28) (n := 5992) (by omega) (by omega) ?_
        exact ry_ie hX hR hr hw dX6_unplug_82 hlocks
      · replace hw := if_f hw c10
        refine rw_aload_n hX hl 0 rfl (Or.inr ⟨_, rfl⟩) dX6_unplug_36 rfl ?_
        refine rw_get hX hR 7 1 0 (C := RX6) (T := TX6) (N := 11) rfl (by decide) (Nat.le_of_ble_eq_true rfl) rfl (v := .ref (gS γ 0 1)) rfl uw_X6 gw_150 rfl dX6_unplug_37 ?_
        refine rw_iload_n hX hl 2 rfl dX6_unplug_40 rfl ?_
        obtain ⟨h21, k20, h22, h23, hw1⟩ := lg_some hw
        replace hw := hw1
        clear hw1
        refine rw_cVq (r := some k20) (k := 2) hX hR pk_lget (mc := 0) (ms := 0) ⟨rfl, rfl, Nat.le_of_ble_eq_true rfl, Nat.le_of_ble_eq_true rfl⟩ (As := [.int x3]) (rest := []) rfl (C_lget l γ ad σ 1 x3 k20 (by decide) h21 h22) gw_281 gw_282 gw_283 (rs_recvL hX hR 1 (by decide)) rfl hl.1 ca0 (Nat.le_of_ble_eq_true rfl) dX6_unplug_41 ⟨(show (cells + 0) + 0 ≤ 28 by omega), (show (slots + 0) + 0 ≤ 5992 by omega)⟩ (fun H locs hR1 => ?_)
        replace hR := hR1
        clear hR1
        refine va_castS (a := Ad γ ad 2 k20) (nm := RX1) hX.1.1 hX.1.2.1 hX.1.2.2.2.1 (hX.1.2.2.2.2 _ gw_295) (hX.2.1.1 2 (RX1, TX1, 18) rfl).2 (rs_recv hX hR 2 k20 (C := RX1) (T := TX1) (N := 18) rfl (by decide) h23 rfl) dX6_unplug_44 ?_
        refine rw_astore (lv' := [(4, .ref (Ad γ ad 2 k20)), (0, .ref (gS γ 7 0)), (2, va_rf (Option.map (Ad γ ad 2) x2)), (3, .int x3)]) hX hl (by decide) rfl (Or.inr ⟨_, rfl⟩) dX6_unplug_47 (fun ls hl1 => ?_)
        replace hl := hl1
        clear hl1
        refine rw_aload hX hl 0 rfl (Or.inr ⟨_, rfl⟩) dX6_unplug_49 ?_
        refine rw_aload hX hl 0 rfl (Or.inr ⟨_, rfl⟩) dX6_unplug_51 ?_
        refine rw_aload_n hX hl 2 rfl (va_rf_or _) dX6_unplug_53 rfl ?_
        obtain ⟨v24, g26, hw1⟩ := ob1_some hw
        replace hw := hw1
        clear hw1
        refine rw_cVNi hX hR pk_f2_isAtOrBelow (mc := 0) (ms := 0) ⟨rfl, rfl, (show 1 + 1 ≤ 84 by omega), (show 8 + (3 + 11) + 64 * 1 ≤ 64 * 84 by omega)⟩ (As := [va_rf (Option.map (Ad γ ad 2) x2)]) (rest := [.ref (Ad γ ad 2 k20)]) rfl (C_f2_isAtOrBelow l γ ad k20 x2 σ v24 g26) nw_483 gw_485 gs_21 (rs_recv hX hR 2 k20 (C := RX1) (T := TX1) (N := 18) rfl (by decide) h23 rfl) rfl hl.1 (ca1 rfl ca0) (Nat.le_of_ble_eq_true rfl) dX6_unplug_54 ⟨(show ((cells + 0) + 0) + 0 ≤ 28 by omega), (show ((slots + 0) + 0) + 0 ≤ 5992 by omega)⟩ (fun H locs hR1 => ?_)
        replace hR := hR1
        clear hR1
        refine rw_putbN (x := v24) hX hR 2 17 k20 217 (C := RX1) (T := TX1) (N := 18) rfl (by decide) rfl rfl h23 rfl uw_X1 tyX1 tyX1_ok nmX1 nw_369 rfl rfl (by decide) dX6_unplug_57 (fun σ1 H locs e1 hR1 => ?_)
        replace hR := hR1
        clear hR1
        subst e1
        refine rw_iinc (k := 3) (v := (x3 + 1)) (lv' := [(3, .int (x3 + 1)), (4, .ref (Ad γ ad 2 k20)), (0, .ref (gS γ 7 0)), (2, va_rf (Option.map (Ad γ ad 2) x2))]) hX hl rfl (congrArg (fun q => x3 + q) (show Int32.ofInt 1 = 1 by decide)) (by decide) rfl dX6_unplug_60 (fun ls hl1 => ?_)
        replace hl := hl1
        clear hl1
        refine lv_goto (tgt := 25) hX.1.1 hX.1.2.1 dX6_unplug_63 (by decide) ?_
        exact ih25 _ _ _ (by omega) (by omega) _ _ _ (lp_back hw hb25) hR (lh_sub hl [2, 3, 0] rfl)
  refine rw_entry (ca1 rfl (ca1 rfl ca0)) (Nat.le_of_ble_eq_true rfl) (fun ls hl1 => ?_)
  replace hl := hl1
  clear hl1
  refine rw_aload_n hX hl 0 rfl (Or.inr ⟨_, rfl⟩) dX6_unplug_0 rfl ?_
  refine rw_iload_n hX hl 1 rfl dX6_unplug_1 rfl ?_
  obtain ⟨v1, g3, h4, h5⟩ := xb1_some hw
  refine rw_xVq hX hR pk_f7_known (mc := 1) (ms := 6) ⟨rfl, rfl, (show 15 + 1 ≤ 84 by omega), (show 8 + (2 + 11) + 64 * 15 ≤ 64 * 84 by omega)⟩ (As := [.int a1]) (rest := []) rfl (C_f7_known l hfl γ ad a1 σ v1 g3) gw_205 gw_207 gs_4 (rs_recv hX hR 7 0 (C := RX6) (T := TX6) (N := 11) rfl (by decide) (Nat.le_of_ble_eq_true rfl) rfl) rfl hl.1 ca0 (Nat.le_of_ble_eq_true rfl) dX6_unplug_2 ⟨(show 0 + 1 ≤ 28 by omega), (show 0 + 6 ≤ 5992 by omega)⟩ (fun x ce q9 H locs hx hR1 h1 h2 h3 => ?_) (fun v1 H locs hx hR1 => ?_)
  · replace hR := hR1
    clear hR1
    replace hw := h4 x hx
    cases hw
    exact rx_out hX hR hxt rfl h1 h2 h3 hlocks (by omega) (by omega)
  replace hR := hR1
  clear hR1
  replace hw := h5 v1 hx
  refine rw_astore_n (lv' := [(2, va_rf (Option.map (Ad γ ad 2) v1)), (0, .ref (gS γ 7 0)), (1, .int a1)]) hX hl (by decide) rfl (va_rf_or _) dX6_unplug_5 rfl (fun ls hl1 => ?_)
  replace hl := hl1
  clear hl1
  refine rw_aload_n hX hl 0 rfl (va_rf_or _) dX6_unplug_6 rfl ?_
  obtain ⟨i6, e7, h8, hw1⟩ := dr_some hw
  replace hw := hw1
  clear hw1
  subst e7
  refine rw_getN hX hR 2 8 i6 (C := RX1) (T := TX1) (N := 18) rfl (by decide) h8 rfl (v := .int (b2i (gb σ 208 i6))) rfl uw_X1 nw_358 rfl dX6_unplug_7 ?_
  refine rw_ifneZ (b := (gb σ 208 i6)) (tgt := 23) hX dX6_unplug_10 (by decide) (fun c9 => ?_) (fun c9 => ?_)
  · replace hw := if_t hw c9
    refine lv_iconst (v := 0) hX.1.1 hX.1.2.1 dX6_unplug_23 (by decide) ?_
    refine rw_istore_n (lv' := [(3, .int 0), (2, .ref (Ad γ ad 2 i6)), (0, .ref (gS γ 7 0)), (1, .int a1)]) hX hl (by decide) rfl dX6_unplug_24 rfl (fun ls hl1 => ?_)
    replace hl := hl1
    clear hl1
    exact L25 (some i6) _ _ _ _ (by omega) (by omega) _ _ _ hw hR (lh_sub hl [2, 1, 0] rfl)
  · replace hw := if_f hw c9
    cases hw
    exact rw_throw (lv := [(2, .ref (Ad γ ad 2 i6)), (0, .ref (gS γ 7 0)), (1, .int a1)]) (text := "the device is there no more") hX hR hfl 3 74 108 78 rfl XN_fit3 XNS_fit gw_320 gw_19 (by decide +kernel) xa_3 xg_3 hl.1 hxt dX6_unplug_13 dX6_unplug_16 dX6_unplug_17 dX6_unplug_19 dX6_unplug_22 (Nat.le_of_ble_eq_true rfl) (Nat.le_of_ble_eq_true rfl) ⟨(show (0 + 1) + 1 ≤ 28 by omega), (show (0 + 6) + 6 ≤ 5992 by omega)⟩ hlocks ⟨by omega, by omega⟩
set_option maxHeartbeats 8000000 in
set_option maxRecDepth 100000 in
theorem C_f3_init (l : Launch) (γ : GT) (ad : Nat → Nat → Nat) {fu : Nat} (a0 : Nat) (a1 : Int32) (a2 : Int32) (a3 : Int32) (a4 : Int32) (a5 : Bool) (σ : St) (σ' : St) (hw : f3_init fu a0 a1 a2 a3 a4 a5 σ = some σ') : Met l yX2_init (Cond.code yX2_init cX2_init 6 (Option.none : Option Jvm.ClassFile.FieldType) :: GW) (rmo 2 0 0) (va_Pc [.ref (Ad γ ad 3 a0), .int a1, .int a2, .int a3, .int a4, .int (b2i a5)] (RU γ ad σ)) (QV γ ad σ') 0 0 (gA γ) := by
  refine Met.ofW (cc := cX2_init) (maxL := 6) (ret := (Option.none : Option Jvm.ClassFile.FieldType)) (by decide +kernel) rfl ?_
  intro p e s m args below meth c s₁ B hml hv
  obtain ⟨rfl, hU⟩ := hv
  obtain ⟨hX, hR⟩ := cx_of (own := RX2) B hml rfl hU
  have hr := B.returns
  have hlocks := B.notSynchronized
  have hin := (name_of_methodNamed B.named B.method).1
  have hc0 : (0 : Nat) ≤ 0 := Nat.le_refl 0
  show W p l e (rmo 2 0 0) s m ([.ref (Ad γ ad 3 a0), .int a1, .int a2, .int a3, .int a4, .int (b2i a5)] : List Value).toArray below meth c s.heap [] 0 0 (MQ below (QV γ ad σ') ([.ref (Ad γ ad 3 a0), .int a1, .int a2, .int a3, .int a4, .int (b2i a5)] : List Value).toArray s 0 0 (gA γ)) (entryFrame m ([.ref (Ad γ ad 3 a0), .int a1, .int a2, .int a3, .int a4, .int (b2i a5)] : List Value).toArray 6)
  unfold f3_init at hw
  refine rw_entry (ca1 rfl (ca1 rfl (ca1 rfl (ca1 rfl (ca1 rfl (ca1 rfl ca0)))))) (Nat.le_of_ble_eq_true rfl) (fun ls hl1 => ?_)
  replace hl := hl1
  clear hl1
  refine rw_aload_n hX hl 0 rfl (Or.inr ⟨_, rfl⟩) dX2_init_0 rfl ?_
  refine W.objInit hX.1.1 hX.1.2.1 hX.1.2.2.2.1 (hX.1.2.2.2.2 _ gw_539) (hX.1.2.2.2.2 _ gw_31) (hX.1.2.2.2.2 _ gw_32) rfl (hl.1.1.trans hX.1.2.2.1.symm) rfl dX2_init_1 (Nat.le_of_ble_eq_true rfl) (Nat.le_of_ble_eq_true rfl) ?_
  refine rw_aload_n hX hl 0 rfl (Or.inr ⟨_, rfl⟩) dX2_init_4 rfl ?_
  refine rw_iload_n hX hl 1 rfl dX2_init_5 rfl ?_
  obtain ⟨h1, hw1⟩ := ck_lt hw
  replace hw := hw1
  clear hw1
  refine rw_putiF (x := a1) hX hR 3 0 a0 300 (C := RX2) (T := TX2) (N := 6) rfl (by decide) rfl rfl h1 rfl uw_X2 tyX2 tyX2_ok nmX2 gw_540 rfl rfl hin rfl (by decide) dX2_init_6 (fun σ1 H locs e1 hR1 => ?_)
  replace hR := hR1
  clear hR1
  subst e1
  refine rw_aload_n hX hl 0 rfl (Or.inr ⟨_, rfl⟩) dX2_init_9 rfl ?_
  refine rw_iload_n hX hl 2 rfl dX2_init_10 rfl ?_
  refine rw_putiF (x := a2) hX hR 3 1 a0 301 (C := RX2) (T := TX2) (N := 6) rfl (by decide) rfl rfl h1 rfl uw_X2 tyX2 tyX2_ok nmX2 gw_542 rfl rfl hin rfl (by decide) dX2_init_11 (fun σ1 H locs e1 hR1 => ?_)
  replace hR := hR1
  clear hR1
  subst e1
  refine rw_aload_n hX hl 0 rfl (Or.inr ⟨_, rfl⟩) dX2_init_14 rfl ?_
  refine rw_iload_n hX hl 3 rfl dX2_init_15 rfl ?_
  refine rw_putiF (x := a3) hX hR 3 2 a0 302 (C := RX2) (T := TX2) (N := 6) rfl (by decide) rfl rfl h1 rfl uw_X2 tyX2 tyX2_ok nmX2 gw_543 rfl rfl hin rfl (by decide) dX2_init_16 (fun σ1 H locs e1 hR1 => ?_)
  replace hR := hR1
  clear hR1
  subst e1
  refine rw_aload_n hX hl 0 rfl (Or.inr ⟨_, rfl⟩) dX2_init_19 rfl ?_
  refine rw_iload hX hl 4 rfl dX2_init_20 ?_
  refine rw_putiF (x := a4) hX hR 3 3 a0 303 (C := RX2) (T := TX2) (N := 6) rfl (by decide) rfl rfl h1 rfl uw_X2 tyX2 tyX2_ok nmX2 gw_545 rfl rfl hin rfl (by decide) dX2_init_22 (fun σ1 H locs e1 hR1 => ?_)
  replace hR := hR1
  clear hR1
  subst e1
  refine rw_aload_n hX hl 0 rfl (Or.inr ⟨_, rfl⟩) dX2_init_25 rfl ?_
  refine rw_iload hX hl 5 rfl dX2_init_26 ?_
  refine rw_putbF (x := a5) hX hR 3 4 a0 304 (C := RX2) (T := TX2) (N := 6) rfl (by decide) rfl rfl h1 rfl uw_X2 tyX2 tyX2_ok nmX2 gw_547 rfl rfl hin rfl (by decide) dX2_init_28 (fun σ1 H locs e1 hR1 => ?_)
  replace hR := hR1
  clear hR1
  subst e1
  exact rq_ve hX hR hr hw dX2_init_31 hlocks
set_option maxHeartbeats 8000000 in
set_option maxRecDepth 100000 in
theorem C_f7_driver (l : Launch) (hfl : l.stackTraces = false) (γ : GT) (ad : Nat → Nat → Nat) {fu : Nat} (a1 : Int32) (a2 : Int32) (a3 : Int32) (a4 : Bool) (σ : St) (r : Except Nat Int32) (σ' : St) (hw : f7_driver fu a1 a2 a3 a4 σ = some (r, σ')) : vx_Met l yX6_driver (Cond.code yX6_driver cX6_driver 6 (Option.some Jvm.ClassFile.FieldType.int) :: GW) (rmo 84 30 6228) (va_Pc [.ref (gS γ 7 0), .int a1, .int a2, .int a3, .int (b2i a4)] (RU γ ad σ)) (QXN γ σ' r) (QXX γ ad σ' r) 30 6228 (gA γ) := by
  refine vx_ofW (cc := cX6_driver) (maxL := 6) (ret := (Option.some Jvm.ClassFile.FieldType.int)) (by decide) rfl ?_
  intro p e s m args below meth c s₁ B hml hxt hv
  obtain ⟨rfl, hU⟩ := hv
  obtain ⟨hX, hR⟩ := cx_of (own := RX6) B hml rfl hU
  have hr := B.returns
  have hlocks := B.notSynchronized
  have hc0 : (0 : Nat) ≤ 0 := Nat.le_refl 0
  show W p l e (rmo 84 30 6228) s m ([.ref (gS γ 7 0), .int a1, .int a2, .int a3, .int (b2i a4)] : List Value).toArray below meth c s.heap [] 0 0 (vx_MQ below (QXN γ σ' r) (QXX γ ad σ' r) ([.ref (gS γ 7 0), .int a1, .int a2, .int a3, .int (b2i a4)] : List Value).toArray s 30 6228 (gA γ)) (entryFrame m ([.ref (gS γ 7 0), .int a1, .int a2, .int a3, .int (b2i a4)] : List Value).toArray 6)
  unfold f7_driver at hw
  refine rw_entry (ca1 rfl (ca1 rfl (ca1 rfl (ca1 rfl (ca1 rfl ca0))))) (Nat.le_of_ble_eq_true rfl) (fun ls hl1 => ?_)
  replace hl := hl1
  clear hl1
  refine rw_iload_n hX hl 2 rfl dX6_driver_0 rfl ?_
  refine lv_iconst (v := 0) hX.1.1 hX.1.2.1 dX6_driver_1 (by decide) ?_
  refine lv_bipush (v := 9) hX.1.1 hX.1.2.1 dX6_driver_2 (by decide) ?_
  obtain ⟨v1, g3, hw1⟩ := ob1_some hw
  replace hw := hw1
  clear hw1
  refine rw_cSi hX hR pk_f7_isWithin (mc := 0) (ms := 0) ⟨rfl, rfl, (show 1 + 1 ≤ 84 by omega), (show 8 + (3 + 11) + 64 * 1 ≤ 64 * 84 by omega)⟩ (As := [.int a2, .int 0, .int 9]) (rest := []) rfl (C_f7_isWithin l γ ad a2 0 9 σ v1 g3) gw_297 gw_298 rfl hl.1 ca0 (Nat.le_of_ble_eq_true rfl) dX6_driver_4 ⟨(show 0 + 0 ≤ 30 by omega), (show 0 + 0 ≤ 6228 by omega)⟩ (fun H locs hR1 => ?_)
  replace hR := hR1
  clear hR1
  refine rw_ifeqZ (b := v1) (tgt := 20) hX dX6_driver_7 (by decide) (fun c4 => ?_) (fun c4 => ?_)
  · replace hw := if_f hw c4
    cases hw
    exact rw_throw (lv := [(0, .ref (gS γ 7 0)), (1, .int a1), (2, .int a2), (3, .int a3), (4, .int (b2i a4))]) (text := "rank or firmware is out of range") hX hR hfl 2 61 128 65 rfl XN_fit2 XNS_fit gw_303 gw_18 (by decide +kernel) xa_2 xg_2 hl.1 hxt dX6_driver_20 dX6_driver_23 dX6_driver_24 dX6_driver_26 dX6_driver_29 (Nat.le_of_ble_eq_true rfl) (Nat.le_of_ble_eq_true rfl) ⟨(show (0 + 0) + 1 ≤ 30 by omega), (show (0 + 0) + 6 ≤ 6228 by omega)⟩ hlocks ⟨by omega, by omega⟩
  · replace hw := if_t hw c4
    refine rw_iload_n hX hl 3 rfl dX6_driver_10 rfl ?_
    refine lv_iconst (v := 0) hX.1.1 hX.1.2.1 dX6_driver_11 (by decide) ?_
    refine lv_bipush (v := 9) hX.1.1 hX.1.2.1 dX6_driver_12 (by decide) ?_
    obtain ⟨v5, g7, hw1⟩ := ob1_some hw
    replace hw := hw1
    clear hw1
    refine rw_cSi hX hR pk_f7_isWithin (mc := 0) (ms := 0) ⟨rfl, rfl, (show 1 + 1 ≤ 84 by omega), (show 8 + (3 + 11) + 64 * 1 ≤ 64 * 84 by omega)⟩ (As := [.int a3, .int 0, .int 9]) (rest := []) rfl (C_f7_isWithin l γ ad a3 0 9 σ v5 g7) gw_297 gw_298 rfl hl.1 ca0 (Nat.le_of_ble_eq_true rfl) dX6_driver_14 ⟨(show (0 + 0) + 0 ≤ 30 by omega), (show (0 + 0) + 0 ≤ 6228 by omega)⟩ (fun H locs hR1 => ?_)
    replace hR := hR1
    clear hR1
    refine rw_ifneZ (b := v5) (tgt := 30) hX dX6_driver_17 (by decide) (fun c8 => ?_) (fun c8 => ?_)
    · replace hw := if_t hw c8
      refine rw_aload_n hX hl 0 rfl (Or.inr ⟨_, rfl⟩) dX6_driver_30 rfl ?_
      refine rw_get hX hR 7 2 0 (C := RX6) (T := TX6) (N := 11) rfl (by decide) (Nat.le_of_ble_eq_true rfl) rfl (v := .ref (gS γ 0 2)) rfl uw_X6 gw_151 rfl dX6_driver_31 ?_
      refine rw_cVi hX hR pk_lsize (mc := 0) (ms := 0) ⟨rfl, rfl, Nat.le_of_ble_eq_true rfl, Nat.le_of_ble_eq_true rfl⟩ (As := []) (rest := []) rfl (C_lsize l γ ad σ 2 (by decide)) gw_209 gw_210 gw_211 (rs_recvL hX hR 2 (by decide)) rfl hl.1 ca0 (Nat.le_of_ble_eq_true rfl) dX6_driver_34 ⟨(show ((0 + 0) + 0) + 0 ≤ 30 by omega), (show ((0 + 0) + 0) + 0 ≤ 6228 by omega)⟩ (fun H locs hR1 => ?_)
      replace hR := hR1
      clear hR1
      refine lv_bipush (v := 8) hX.1.1 hX.1.2.1 dX6_driver_37 (by decide) ?_
      refine lv_icmp_lt (x := (nI (gl σ 2).length)) (y := 8) (tgt := 52) hX.1.1 hX.1.2.1 dX6_driver_39 (by decide) (fun c9 => ?_) (fun c9 => ?_)
      · replace hw := if_t hw c9
        obtain ⟨h10, hw1⟩ := ckP_some hw
        replace hw := hw1
        clear hw1
        obtain ⟨n11, e12⟩ : ∃ i, gn σ 3 = i := ⟨_, rfl⟩
        replace hw := lt_eq hw e12
        refine rw_new hX hR 3 tyX2 h10 rfl rfl rfl uw_X2 tyX2_ok (by decide +kernel) gw_428 gw_432 gw_21 ⟨(show (((0 + 0) + 0) + 0) + 1 ≤ 30 by omega), (show (((0 + 0) + 0) + 0) + 6 ≤ 6228 by omega)⟩ dX6_driver_52 (fun ad13 H hR1 hag => ?_)
        replace hR := hR1
        clear hR1
        rw [e12]
        refine lv_dup hX.1.1 hX.1.2.1 dX6_driver_55 rfl ?_
        refine rw_aload_n hX hl 0 rfl (Or.inr ⟨_, rfl⟩) dX6_driver_56 rfl ?_
        refine rw_get hX hR 7 2 0 (C := RX6) (T := TX6) (N := 11) rfl (by decide) (Nat.le_of_ble_eq_true rfl) rfl (v := .ref (gS γ 0 2)) rfl uw_X6 gw_151 rfl dX6_driver_57 ?_
        refine rw_cVi hX hR pk_lsize (mc := 0) (ms := 0) ⟨rfl, rfl, Nat.le_of_ble_eq_true rfl, Nat.le_of_ble_eq_true rfl⟩ (As := []) (rest := [.ref (Ad γ ad13 3 n11), .ref (Ad γ ad13 3 n11)]) rfl (C_lsize l γ ad13 (zw σ 3) 2 (by decide)) gw_209 gw_210 gw_211 (rs_recvL hX hR 2 (by decide)) rfl hl.1 (ca1 rfl (ca1 rfl ca0)) (Nat.le_of_ble_eq_true rfl) dX6_driver_60 ⟨(show ((((0 + 0) + 0) + 0) + 1) + 0 ≤ 30 by omega), (show ((((0 + 0) + 0) + 0) + 6) + 0 ≤ 6228 by omega)⟩ (fun H locs hR1 => ?_)
        replace hR := hR1
        clear hR1
        refine rw_iload_n hX hl 1 rfl dX6_driver_63 rfl ?_
        refine rw_iload_n hX hl 2 rfl dX6_driver_64 rfl ?_
        refine rw_iload_n hX hl 3 rfl dX6_driver_65 rfl ?_
        refine rw_iload hX hl 4 rfl dX6_driver_66 ?_
        obtain ⟨h14, hw1⟩ := ck_lt hw
        replace hw := hw1
        clear hw1
        obtain ⟨σ16, g17, hw1⟩ := ob1_some hw
        replace hw := hw1
        clear hw1
        refine rw_cINv hX hR pk_f3_init (mc := 0) (ms := 0) ⟨rfl, rfl, (show 2 + 1 ≤ 84 by omega), (show 8 + (6 + 11) + 64 * 2 ≤ 64 * 84 by omega)⟩ (As := [.int (nI (gl (zw σ 3) 2).length), .int a1, .int a2, .int a3, .int (b2i a4)]) (rest := [.ref (Ad γ ad13 3 n11)]) rfl (C_f3_init l γ ad13 n11 (nI (gl (zw σ 3) 2).length) a1 a2 a3 a4 (zw σ 3) σ16 g17) nw_536 gw_537 rfl rfl hl.1 (ca1 rfl ca0) (Nat.le_of_ble_eq_true rfl) dX6_driver_68 ⟨(show (((((0 + 0) + 0) + 0) + 1) + 0) + 0 ≤ 30 by omega), (show (((((0 + 0) + 0) + 0) + 6) + 0) + 0 ≤ 6228 by omega)⟩ (fun H locs hR1 => ?_)
        replace hR := hR1
        clear hR1
        refine rw_astore (lv' := [(5, .ref (Ad γ ad13 3 n11)), (0, .ref (gS γ 7 0)), (1, .int a1), (2, .int a2), (3, .int a3), (4, .int (b2i a4))]) hX hl (by decide) rfl (Or.inr ⟨_, rfl⟩) dX6_driver_71 (fun ls hl1 => ?_)
        replace hl := hl1
        clear hl1
        refine rw_aload_n hX hl 1 rfl (Or.inr ⟨_, rfl⟩) dX6_driver_73 rfl ?_
        refine rw_get hX hR 7 2 0 (C := RX6) (T := TX6) (N := 11) rfl (by decide) (Nat.le_of_ble_eq_true rfl) rfl (v := .ref (gS γ 0 2)) rfl uw_X6 gw_151 rfl dX6_driver_74 ?_
        refine rw_aload hX hl 0 rfl (Or.inr ⟨_, rfl⟩) dX6_driver_77 ?_
        obtain ⟨h18, hw1⟩ := ck_lt hw
        replace hw := hw1
        clear hw1
        obtain ⟨h19, hw1⟩ := ck_lt hw
        replace hw := hw1
        clear hw1
        obtain ⟨h20, hw1⟩ := ck_some hw
        replace hw := hw1
        clear hw1
        refine rw_cVi hX hR pk_ladd (mc := 1) (ms := 230) ⟨rfl, rfl, Nat.le_of_ble_eq_true rfl, Nat.le_of_ble_eq_true rfl⟩ (As := [.ref (Ad γ ad13 3 n11)]) (rest := []) rfl (C_ladd l γ ad13 σ16 2 n11 (by decide) h18 h20 h19) gw_90 gw_91 gw_92 (rs_recvL hX hR 2 (by decide)) rfl hl.1 ca0 (Nat.le_of_ble_eq_true rfl) dX6_driver_79 ⟨(show ((((((0 + 0) + 0) + 0) + 1) + 0) + 0) + 1 ≤ 30 by omega), (show ((((((0 + 0) + 0) + 0) + 6) + 0) + 0) + 230 ≤ 6228 by omega)⟩ (fun H locs hR1 => ?_)
        replace hR := hR1
        clear hR1
        refine lv_pop hX.1.1 hX.1.2.1 dX6_driver_82 rfl ?_
        refine rw_aload_n hX hl 1 rfl (Or.inr ⟨_, rfl⟩) dX6_driver_83 rfl ?_
        obtain ⟨σ22, g23, hw1⟩ := ob1_some hw
        replace hw := hw1
        clear hw1
        refine rw_cVv hX hR pk_f7_bindWhatCanBe (mc := 26) (ms := 5980) ⟨rfl, rfl, (show 83 + 1 ≤ 84 by omega), (show 8 + (3 + 11) + 64 * 83 ≤ 64 * 84 by omega)⟩ (As := []) (rest := []) rfl (C_f7_bindWhatCanBe l γ ad13 (ladd σ16 2 n11) σ22 g23) gw_408 gw_410 gs_6 (rs_recv hX hR 7 0 (C := RX6) (T := TX6) (N := 11) rfl (by decide) (Nat.le_of_ble_eq_true rfl) rfl) rfl hl.1 ca0 (Nat.le_of_ble_eq_true rfl) dX6_driver_84 ⟨(show (((((((0 + 0) + 0) + 0) + 1) + 0) + 0) + 1) + 26 ≤ 30 by omega), (show (((((((0 + 0) + 0) + 0) + 6) + 0) + 0) + 230) + 5980 ≤ 6228 by omega)⟩ (fun H locs hR1 => ?_)
        replace hR := hR1
        clear hR1
        refine rw_aload hX hl 0 rfl (Or.inr ⟨_, rfl⟩) dX6_driver_87 ?_
        obtain ⟨h24, hw1⟩ := ck_lt hw
        replace hw := hw1
        clear hw1
        refine rw_getN hX hR 3 0 n11 (C := RX2) (T := TX2) (N := 6) rfl (by decide) h24 rfl (v := .int (gi σ22 300 n11)) rfl uw_X2 nw_541 rfl dX6_driver_89 ?_
        refine W.widen (k := 30) (n := 6228) (by omega) (by omega) ?_
        exact ry_n hX hR hr hw dX6_driver_92 hlocks
      · replace hw := if_f hw c9
        cases hw
        exact rw_throw (lv := [(0, .ref (gS γ 7 0)), (1, .int a1), (2, .int a2), (3, .int a3), (4, .int (b2i a4))]) (text := "there are 8 drivers") hX hR hfl 3 74 130 78 rfl XN_fit3 XNS_fit gw_320 gw_19 (by decide +kernel) xa_3 xg_3 hl.1 hxt dX6_driver_42 dX6_driver_45 dX6_driver_46 dX6_driver_48 dX6_driver_51 (Nat.le_of_ble_eq_true rfl) (Nat.le_of_ble_eq_true rfl) ⟨(show (((0 + 0) + 0) + 0) + 1 ≤ 30 by omega), (show (((0 + 0) + 0) + 0) + 6 ≤ 6228 by omega)⟩ hlocks ⟨by omega, by omega⟩
    · replace hw := if_f hw c8
      cases hw
      exact rw_throw (lv := [(0, .ref (gS γ 7 0)), (1, .int a1), (2, .int a2), (3, .int a3), (4, .int (b2i a4))]) (text := "rank or firmware is out of range") hX hR hfl 2 61 128 65 rfl XN_fit2 XNS_fit gw_303 gw_18 (by decide +kernel) xa_2 xg_2 hl.1 hxt dX6_driver_20 dX6_driver_23 dX6_driver_24 dX6_driver_26 dX6_driver_29 (Nat.le_of_ble_eq_true rfl) (Nat.le_of_ble_eq_true rfl) ⟨(show ((0 + 0) + 0) + 1 ≤ 30 by omega), (show ((0 + 0) + 0) + 6 ≤ 6228 by omega)⟩ hlocks ⟨by omega, by omega⟩
set_option maxHeartbeats 8000000 in
set_option maxRecDepth 100000 in
theorem C_f7_load (l : Launch) (hfl : l.stackTraces = false) (γ : GT) (ad : Nat → Nat → Nat) {fu : Nat} (a1 : Int32) (a2 : Int32) (σ : St) (r : Except Nat Int32) (σ' : St) (hw : f7_load fu a1 a2 σ = some (r, σ')) : vx_Met l yX6_load (Cond.code yX6_load cX6_load 5 (Option.some Jvm.ClassFile.FieldType.int) :: GW) (rmo 84 28 5992) (va_Pc [.ref (gS γ 7 0), .int a1, .int a2] (RU γ ad σ)) (QXI γ ad σ' r) (QXX γ ad σ' r) 28 5992 (gA γ) := by
  refine vx_ofW (cc := cX6_load) (maxL := 5) (ret := (Option.some Jvm.ClassFile.FieldType.int)) (by decide) rfl ?_
  intro p e s m args below meth c s₁ B hml hxt hv
  obtain ⟨rfl, hU⟩ := hv
  obtain ⟨hX, hR⟩ := cx_of (own := RX6) B hml rfl hU
  have hr := B.returns
  have hlocks := B.notSynchronized
  have hc0 : (0 : Nat) ≤ 0 := Nat.le_refl 0
  show W p l e (rmo 84 28 5992) s m ([.ref (gS γ 7 0), .int a1, .int a2] : List Value).toArray below meth c s.heap [] 0 0 (vx_MQ below (QXI γ ad σ' r) (QXX γ ad σ' r) ([.ref (gS γ 7 0), .int a1, .int a2] : List Value).toArray s 28 5992 (gA γ)) (entryFrame m ([.ref (gS γ 7 0), .int a1, .int a2] : List Value).toArray 5)
  unfold f7_load at hw
  refine rw_entry (ca1 rfl (ca1 rfl (ca1 rfl ca0))) (Nat.le_of_ble_eq_true rfl) (fun ls hl1 => ?_)
  replace hl := hl1
  clear hl1
  refine rw_iload_n hX hl 1 rfl dX6_load_0 rfl ?_
  refine lv_if_lt (x := a1) (tgt := 15) hX.1.1 hX.1.2.1 dX6_load_1 (by decide) (fun c1 => ?_) (fun c1 => ?_)
  · replace hw := if_t hw c1
    cases hw
    exact rw_throw (lv := [(0, .ref (gS γ 7 0)), (1, .int a1), (2, .int a2)]) (text := "there is no such driver") hX hR hfl 1 136 138 140 rfl XN_fit1 XNS_fit gw_213 gw_15 (by decide +kernel) xa_1 xg_1 hl.1 hxt dX6_load_15 dX6_load_18 dX6_load_19 dX6_load_21 dX6_load_24 (Nat.le_of_ble_eq_true rfl) (Nat.le_of_ble_eq_true rfl) ⟨(show 0 + 1 ≤ 28 by omega), (show 0 + 6 ≤ 5992 by omega)⟩ hlocks ⟨by omega, by omega⟩
  · replace hw := if_f hw c1
    refine rw_iload_n hX hl 1 rfl dX6_load_4 rfl ?_
    refine rw_aload_n hX hl 0 rfl (Or.inr ⟨_, rfl⟩) dX6_load_5 rfl ?_
    refine rw_get hX hR 7 2 0 (C := RX6) (T := TX6) (N := 11) rfl (by decide) (Nat.le_of_ble_eq_true rfl) rfl (v := .ref (gS γ 0 2)) rfl uw_X6 gw_151 rfl dX6_load_6 ?_
    refine rw_cVi hX hR pk_lsize (mc := 0) (ms := 0) ⟨rfl, rfl, Nat.le_of_ble_eq_true rfl, Nat.le_of_ble_eq_true rfl⟩ (As := []) (rest := [.int a1]) rfl (C_lsize l γ ad σ 2 (by decide)) gw_209 gw_210 gw_211 (rs_recvL hX hR 2 (by decide)) rfl hl.1 (ca1 rfl ca0) (Nat.le_of_ble_eq_true rfl) dX6_load_9 ⟨(show 0 + 0 ≤ 28 by omega), (show 0 + 0 ≤ 5992 by omega)⟩ (fun H locs hR1 => ?_)
    replace hR := hR1
    clear hR1
    refine lv_icmp_lt (x := a1) (y := (nI (gl σ 2).length)) (tgt := 25) hX.1.1 hX.1.2.1 dX6_load_12 (by decide) (fun c2 => ?_) (fun c2 => ?_)
    · replace hw := if_t hw c2
      refine rw_iload_n hX hl 2 rfl dX6_load_25 rfl ?_
      refine lv_iconst (v := 0) hX.1.1 hX.1.2.1 dX6_load_26 (by decide) ?_
      refine lv_bipush (v := 9) hX.1.1 hX.1.2.1 dX6_load_27 (by decide) ?_
      obtain ⟨v3, g5, hw1⟩ := ob1_some hw
      replace hw := hw1
      clear hw1
      refine rw_cSi hX hR pk_f7_isWithin (mc := 0) (ms := 0) ⟨rfl, rfl, (show 1 + 1 ≤ 84 by omega), (show 8 + (3 + 11) + 64 * 1 ≤ 64 * 84 by omega)⟩ (As := [.int a2, .int 0, .int 9]) (rest := []) rfl (C_f7_isWithin l γ ad a2 0 9 σ v3 g5) gw_297 gw_298 rfl hl.1 ca0 (Nat.le_of_ble_eq_true rfl) dX6_load_29 ⟨(show (0 + 0) + 0 ≤ 28 by omega), (show (0 + 0) + 0 ≤ 5992 by omega)⟩ (fun H locs hR1 => ?_)
      replace hR := hR1
      clear hR1
      refine rw_ifneZ (b := v3) (tgt := 45) hX dX6_load_32 (by decide) (fun c6 => ?_) (fun c6 => ?_)
      · replace hw := if_t hw c6
        refine rw_aload_n hX hl 0 rfl (Or.inr ⟨_, rfl⟩) dX6_load_45 rfl ?_
        refine rw_get hX hR 7 2 0 (C := RX6) (T := TX6) (N := 11) rfl (by decide) (Nat.le_of_ble_eq_true rfl) rfl (v := .ref (gS γ 0 2)) rfl uw_X6 gw_151 rfl dX6_load_46 ?_
        refine rw_iload_n hX hl 1 rfl dX6_load_49 rfl ?_
        obtain ⟨h8, k7, h9, h10, hw1⟩ := lg_some hw
        replace hw := hw1
        clear hw1
        refine rw_cVq (r := some k7) (k := 3) hX hR pk_lget (mc := 0) (ms := 0) ⟨rfl, rfl, Nat.le_of_ble_eq_true rfl, Nat.le_of_ble_eq_true rfl⟩ (As := [.int a1]) (rest := []) rfl (C_lget l γ ad σ 2 a1 k7 (by decide) h8 h9) gw_281 gw_282 gw_283 (rs_recvL hX hR 2 (by decide)) rfl hl.1 ca0 (Nat.le_of_ble_eq_true rfl) dX6_load_50 ⟨(show ((0 + 0) + 0) + 0 ≤ 28 by omega), (show ((0 + 0) + 0) + 0 ≤ 5992 by omega)⟩ (fun H locs hR1 => ?_)
        replace hR := hR1
        clear hR1
        refine va_castS (a := Ad γ ad 3 k7) (nm := RX2) hX.1.1 hX.1.2.1 hX.1.2.2.2.1 (hX.1.2.2.2.2 _ gw_428) (hX.2.1.1 3 (RX2, TX2, 6) rfl).2 (rs_recv hX hR 3 k7 (C := RX2) (T := TX2) (N := 6) rfl (by decide) h10 rfl) dX6_load_53 ?_
        refine rw_astore_n (lv' := [(3, .ref (Ad γ ad 3 k7)), (0, .ref (gS γ 7 0)), (1, .int a1), (2, .int a2)]) hX hl (by decide) rfl (Or.inr ⟨_, rfl⟩) dX6_load_56 rfl (fun ls hl1 => ?_)
        replace hl := hl1
        clear hl1
        refine rw_aload_n hX hl 0 rfl (Or.inr ⟨_, rfl⟩) dX6_load_57 rfl ?_
        refine rw_getN hX hR 3 5 k7 (C := RX2) (T := TX2) (N := 6) rfl (by decide) h10 rfl (v := .int (gi σ 305 k7)) rfl uw_X2 nw_549 rfl dX6_load_58 ?_
        refine rw_istore (lv' := [(4, .int (gi σ 305 k7)), (3, .ref (Ad γ ad 3 k7)), (0, .ref (gS γ 7 0)), (1, .int a1), (2, .int a2)]) hX hl (by decide) rfl dX6_load_61 (fun ls hl1 => ?_)
        replace hl := hl1
        clear hl1
        refine rw_aload_n hX hl 1 rfl (Or.inr ⟨_, rfl⟩) dX6_load_63 rfl ?_
        refine rw_iload_n hX hl 4 rfl dX6_load_64 rfl ?_
        refine rw_putiN (x := a2) hX hR 3 5 k7 305 (C := RX2) (T := TX2) (N := 6) rfl (by decide) rfl rfl h10 rfl uw_X2 tyX2 tyX2_ok nmX2 nw_549 rfl rfl (by decide) dX6_load_65 (fun σ1 H locs e1 hR1 => ?_)
        replace hR := hR1
        clear hR1
        subst e1
        refine rw_aload_n hX hl 2 rfl (Or.inr ⟨_, rfl⟩) dX6_load_68 rfl ?_
        obtain ⟨σ12, g13, hw1⟩ := ob1_some hw
        replace hw := hw1
        clear hw1
        refine rw_cVv hX hR pk_f7_bindWhatCanBe (mc := 26) (ms := 5980) ⟨rfl, rfl, (show 83 + 1 ≤ 84 by omega), (show 8 + (3 + 11) + 64 * 83 ≤ 64 * 84 by omega)⟩ (As := []) (rest := []) rfl (C_f7_bindWhatCanBe l γ ad (zi σ 305 k7 a2) σ12 g13) gw_408 gw_410 gs_6 (rs_recv hX hR 7 0 (C := RX6) (T := TX6) (N := 11) rfl (by decide) (Nat.le_of_ble_eq_true rfl) rfl) rfl hl.1 ca0 (Nat.le_of_ble_eq_true rfl) dX6_load_69 ⟨(show (((0 + 0) + 0) + 0) + 26 ≤ 28 by omega), (show (((0 + 0) + 0) + 0) + 5980 ≤ 5992 by omega)⟩ (fun H locs hR1 => ?_)
        replace hR := hR1
        clear hR1
        refine rw_iload hX hl 0 rfl dX6_load_72 ?_
        refine W.widen (k := 28) (n := 5992) (by omega) (by omega) ?_
        exact ry_ie hX hR hr hw dX6_load_74 hlocks
      · replace hw := if_f hw c6
        cases hw
        exact rw_throw (lv := [(0, .ref (gS γ 7 0)), (1, .int a1), (2, .int a2)]) (text := "the version is out of range") hX hR hfl 2 61 141 65 rfl XN_fit2 XNS_fit gw_303 gw_18 (by decide +kernel) xa_2 xg_2 hl.1 hxt dX6_load_35 dX6_load_38 dX6_load_39 dX6_load_41 dX6_load_44 (Nat.le_of_ble_eq_true rfl) (Nat.le_of_ble_eq_true rfl) ⟨(show ((0 + 0) + 0) + 1 ≤ 28 by omega), (show ((0 + 0) + 0) + 6 ≤ 5992 by omega)⟩ hlocks ⟨by omega, by omega⟩
    · replace hw := if_f hw c2
      cases hw
      exact rw_throw (lv := [(0, .ref (gS γ 7 0)), (1, .int a1), (2, .int a2)]) (text := "there is no such driver") hX hR hfl 1 136 138 140 rfl XN_fit1 XNS_fit gw_213 gw_15 (by decide +kernel) xa_1 xg_1 hl.1 hxt dX6_load_15 dX6_load_18 dX6_load_19 dX6_load_21 dX6_load_24 (Nat.le_of_ble_eq_true rfl) (Nat.le_of_ble_eq_true rfl) ⟨(show (0 + 0) + 1 ≤ 28 by omega), (show (0 + 0) + 6 ≤ 5992 by omega)⟩ hlocks ⟨by omega, by omega⟩
set_option maxHeartbeats 8000000 in
set_option maxRecDepth 100000 in
theorem C_f7_unbind (l : Launch) (hfl : l.stackTraces = false) (γ : GT) (ad : Nat → Nat → Nat) {fu : Nat} (a1 : Int32) (σ : St) (r : Except Nat Int32) (σ' : St) (hw : f7_unbind fu a1 σ = some (r, σ')) : vx_Met l yX6_unbind (Cond.code yX6_unbind cX6_unbind 4 (Option.some Jvm.ClassFile.FieldType.int) :: GW) (rmo 84 28 5992) (va_Pc [.ref (gS γ 7 0), .int a1] (RU γ ad σ)) (QXI γ ad σ' r) (QXX γ ad σ' r) 28 5992 (gA γ) := by
  refine vx_ofW (cc := cX6_unbind) (maxL := 4) (ret := (Option.some Jvm.ClassFile.FieldType.int)) (by decide) rfl ?_
  intro p e s m args below meth c s₁ B hml hxt hv
  obtain ⟨rfl, hU⟩ := hv
  obtain ⟨hX, hR⟩ := cx_of (own := RX6) B hml rfl hU
  have hr := B.returns
  have hlocks := B.notSynchronized
  have hc0 : (0 : Nat) ≤ 0 := Nat.le_refl 0
  show W p l e (rmo 84 28 5992) s m ([.ref (gS γ 7 0), .int a1] : List Value).toArray below meth c s.heap [] 0 0 (vx_MQ below (QXI γ ad σ' r) (QXX γ ad σ' r) ([.ref (gS γ 7 0), .int a1] : List Value).toArray s 28 5992 (gA γ)) (entryFrame m ([.ref (gS γ 7 0), .int a1] : List Value).toArray 4)
  unfold f7_unbind at hw
  refine rw_entry (ca1 rfl (ca1 rfl ca0)) (Nat.le_of_ble_eq_true rfl) (fun ls hl1 => ?_)
  replace hl := hl1
  clear hl1
  refine rw_aload_n hX hl 0 rfl (Or.inr ⟨_, rfl⟩) dX6_unbind_0 rfl ?_
  refine rw_iload_n hX hl 1 rfl dX6_unbind_1 rfl ?_
  obtain ⟨v1, g3, h4, h5⟩ := xb1_some hw
  refine rw_xVq hX hR pk_f7_known (mc := 1) (ms := 6) ⟨rfl, rfl, (show 15 + 1 ≤ 84 by omega), (show 8 + (2 + 11) + 64 * 15 ≤ 64 * 84 by omega)⟩ (As := [.int a1]) (rest := []) rfl (C_f7_known l hfl γ ad a1 σ v1 g3) gw_205 gw_207 gs_4 (rs_recv hX hR 7 0 (C := RX6) (T := TX6) (N := 11) rfl (by decide) (Nat.le_of_ble_eq_true rfl) rfl) rfl hl.1 ca0 (Nat.le_of_ble_eq_true rfl) dX6_unbind_2 ⟨(show 0 + 1 ≤ 28 by omega), (show 0 + 6 ≤ 5992 by omega)⟩ (fun x ce q9 H locs hx hR1 h1 h2 h3 => ?_) (fun v1 H locs hx hR1 => ?_)
  · replace hR := hR1
    clear hR1
    replace hw := h4 x hx
    cases hw
    exact rx_out hX hR hxt rfl h1 h2 h3 hlocks (by omega) (by omega)
  replace hR := hR1
  clear hR1
  replace hw := h5 v1 hx
  refine rw_astore_n (lv' := [(2, va_rf (Option.map (Ad γ ad 2) v1)), (0, .ref (gS γ 7 0)), (1, .int a1)]) hX hl (by decide) rfl (va_rf_or _) dX6_unbind_5 rfl (fun ls hl1 => ?_)
  replace hl := hl1
  clear hl1
  refine rw_aload_n hX hl 0 rfl (va_rf_or _) dX6_unbind_6 rfl ?_
  obtain ⟨i6, e7, h8, hw1⟩ := dr_some hw
  replace hw := hw1
  clear hw1
  subst e7
  obtain ⟨v9, g11, hw1⟩ := ob1_some hw
  replace hw := hw1
  clear hw1
  refine rw_cVNi hX hR pk_f2_isBound (mc := 0) (ms := 0) ⟨rfl, rfl, (show 1 + 1 ≤ 84 by omega), (show 8 + (1 + 11) + 64 * 1 ≤ 64 * 84 by omega)⟩ (As := []) (rest := []) rfl (C_f2_isBound l γ ad i6 σ v9 g11) nw_416 gw_418 gs_8 (rs_recv hX hR 2 i6 (C := RX1) (T := TX1) (N := 18) rfl (by decide) h8 rfl) rfl hl.1 ca0 (Nat.le_of_ble_eq_true rfl) dX6_unbind_7 ⟨(show (0 + 1) + 0 ≤ 28 by omega), (show (0 + 6) + 0 ≤ 5992 by omega)⟩ (fun H locs hR1 => ?_)
  replace hR := hR1
  clear hR1
  refine rw_ifneZ (b := v9) (tgt := 23) hX dX6_unbind_10 (by decide) (fun c12 => ?_) (fun c12 => ?_)
  · replace hw := if_t hw c12
    refine rw_aload_n hX hl 0 rfl (Or.inr ⟨_, rfl⟩) dX6_unbind_23 rfl ?_
    refine lv_iconst (v := 1) hX.1.1 hX.1.2.1 dX6_unbind_24 (by decide) ?_
    refine rw_putbN (x := true) hX hR 2 9 i6 209 (C := RX1) (T := TX1) (N := 18) rfl (by decide) rfl rfl h8 rfl uw_X1 tyX1 tyX1_ok nmX1 nw_359 rfl rfl (by decide) dX6_unbind_25 (fun σ1 H locs e1 hR1 => ?_)
    replace hR := hR1
    clear hR1
    subst e1
    refine rw_aload_n hX hl 0 rfl (Or.inr ⟨_, rfl⟩) dX6_unbind_28 rfl ?_
    refine lv_iconst (v := 1) hX.1.1 hX.1.2.1 dX6_unbind_29 (by decide) ?_
    refine rw_putbN (x := true) hX hR 2 17 i6 217 (C := RX1) (T := TX1) (N := 18) rfl (by decide) rfl rfl h8 rfl uw_X1 tyX1 tyX1_ok nmX1 nw_369 rfl rfl (by decide) dX6_unbind_30 (fun σ1 H locs e1 hR1 => ?_)
    replace hR := hR1
    clear hR1
    subst e1
    refine rw_aload_n hX hl 1 rfl (Or.inr ⟨_, rfl⟩) dX6_unbind_33 rfl ?_
    obtain ⟨v13, σ14, g15, hw1⟩ := ob2_some hw
    replace hw := hw1
    clear hw1
    refine rw_cVi hX hR pk_f7_unbindTheLeaving (mc := 0) (ms := 0) ⟨rfl, rfl, (show 17 + 1 ≤ 84 by omega), (show 8 + (4 + 11) + 64 * 17 ≤ 64 * 84 by omega)⟩ (As := []) (rest := []) rfl (C_f7_unbindTheLeaving l γ ad (zb (zb σ 209 i6 true) 217 i6 true) v13 σ14 g15) gw_487 gw_489 gs_22 (rs_recv hX hR 7 0 (C := RX6) (T := TX6) (N := 11) rfl (by decide) (Nat.le_of_ble_eq_true rfl) rfl) rfl hl.1 ca0 (Nat.le_of_ble_eq_true rfl) dX6_unbind_34 ⟨(show ((0 + 1) + 0) + 0 ≤ 28 by omega), (show ((0 + 6) + 0) + 0 ≤ 5992 by omega)⟩ (fun H locs hR1 => ?_)
    replace hR := hR1
    clear hR1
    refine rw_istore_n (lv' := [(3, .int v13), (2, .ref (Ad γ ad 2 i6)), (0, .ref (gS γ 7 0)), (1, .int a1)]) hX hl (by decide) rfl dX6_unbind_37 rfl (fun ls hl1 => ?_)
    replace hl := hl1
    clear hl1
    refine rw_aload_n hX hl 2 rfl (Or.inr ⟨_, rfl⟩) dX6_unbind_38 rfl ?_
    obtain ⟨σ17, g18, hw1⟩ := ob1_some hw
    replace hw := hw1
    clear hw1
    refine rw_cVv hX hR pk_f7_bindWhatCanBe (mc := 26) (ms := 5980) ⟨rfl, rfl, (show 83 + 1 ≤ 84 by omega), (show 8 + (3 + 11) + 64 * 83 ≤ 64 * 84 by omega)⟩ (As := []) (rest := []) rfl (C_f7_bindWhatCanBe l γ ad σ14 σ17 g18) gw_408 gw_410 gs_6 (rs_recv hX hR 7 0 (C := RX6) (T := TX6) (N := 11) rfl (by decide) (Nat.le_of_ble_eq_true rfl) rfl) rfl hl.1 ca0 (Nat.le_of_ble_eq_true rfl) dX6_unbind_39 ⟨(show (((0 + 1) + 0) + 0) + 26 ≤ 28 by omega), (show (((0 + 6) + 0) + 0) + 5980 ≤ 5992 by omega)⟩ (fun H locs hR1 => ?_)
    replace hR := hR1
    clear hR1
    refine rw_iload_n hX hl 0 rfl dX6_unbind_42 rfl ?_
    refine W.widen (k := 28) (n := 5992) (by omega) (by omega) ?_
    exact ry_ie hX hR hr hw dX6_unbind_43 hlocks
  · replace hw := if_f hw c12
    cases hw
    exact rw_throw (lv := [(2, .ref (Ad γ ad 2 i6)), (0, .ref (gS γ 7 0)), (1, .int a1)]) (text := "the device is not bound") hX hR hfl 3 74 150 78 rfl XN_fit3 XNS_fit gw_320 gw_19 (by decide +kernel) xa_3 xg_3 hl.1 hxt dX6_unbind_13 dX6_unbind_16 dX6_unbind_17 dX6_unbind_19 dX6_unbind_22 (Nat.le_of_ble_eq_true rfl) (Nat.le_of_ble_eq_true rfl) ⟨(show ((0 + 1) + 0) + 1 ≤ 28 by omega), (show ((0 + 6) + 0) + 6 ≤ 5992 by omega)⟩ hlocks ⟨by omega, by omega⟩
set_option maxHeartbeats 8000000 in
set_option maxRecDepth 100000 in
theorem C_f7_bind (l : Launch) (hfl : l.stackTraces = false) (γ : GT) (ad : Nat → Nat → Nat) {fu : Nat} (a1 : Int32) (σ : St) (r : Except Nat Int32) (σ' : St) (hw : f7_bind fu a1 σ = some (r, σ')) : vx_Met l yX6_bind (Cond.code yX6_bind cX6_bind 3 (Option.some Jvm.ClassFile.FieldType.int) :: GW) (rmo 84 28 5992) (va_Pc [.ref (gS γ 7 0), .int a1] (RU γ ad σ)) (QXI γ ad σ' r) (QXX γ ad σ' r) 28 5992 (gA γ) := by
  refine vx_ofW (cc := cX6_bind) (maxL := 3) (ret := (Option.some Jvm.ClassFile.FieldType.int)) (by decide) rfl ?_
  intro p e s m args below meth c s₁ B hml hxt hv
  obtain ⟨rfl, hU⟩ := hv
  obtain ⟨hX, hR⟩ := cx_of (own := RX6) B hml rfl hU
  have hr := B.returns
  have hlocks := B.notSynchronized
  have hc0 : (0 : Nat) ≤ 0 := Nat.le_refl 0
  show W p l e (rmo 84 28 5992) s m ([.ref (gS γ 7 0), .int a1] : List Value).toArray below meth c s.heap [] 0 0 (vx_MQ below (QXI γ ad σ' r) (QXX γ ad σ' r) ([.ref (gS γ 7 0), .int a1] : List Value).toArray s 28 5992 (gA γ)) (entryFrame m ([.ref (gS γ 7 0), .int a1] : List Value).toArray 3)
  unfold f7_bind at hw
  refine rw_entry (ca1 rfl (ca1 rfl ca0)) (Nat.le_of_ble_eq_true rfl) (fun ls hl1 => ?_)
  replace hl := hl1
  clear hl1
  refine rw_aload_n hX hl 0 rfl (Or.inr ⟨_, rfl⟩) dX6_bind_0 rfl ?_
  refine rw_iload_n hX hl 1 rfl dX6_bind_1 rfl ?_
  obtain ⟨v1, g3, h4, h5⟩ := xb1_some hw
  refine rw_xVq hX hR pk_f7_known (mc := 1) (ms := 6) ⟨rfl, rfl, (show 15 + 1 ≤ 84 by omega), (show 8 + (2 + 11) + 64 * 15 ≤ 64 * 84 by omega)⟩ (As := [.int a1]) (rest := []) rfl (C_f7_known l hfl γ ad a1 σ v1 g3) gw_205 gw_207 gs_4 (rs_recv hX hR 7 0 (C := RX6) (T := TX6) (N := 11) rfl (by decide) (Nat.le_of_ble_eq_true rfl) rfl) rfl hl.1 ca0 (Nat.le_of_ble_eq_true rfl) dX6_bind_2 ⟨(show 0 + 1 ≤ 28 by omega), (show 0 + 6 ≤ 5992 by omega)⟩ (fun x ce q9 H locs hx hR1 h1 h2 h3 => ?_) (fun v1 H locs hx hR1 => ?_)
  · replace hR := hR1
    clear hR1
    replace hw := h4 x hx
    cases hw
    exact rx_out hX hR hxt rfl h1 h2 h3 hlocks (by omega) (by omega)
  replace hR := hR1
  clear hR1
  replace hw := h5 v1 hx
  refine rw_astore_n (lv' := [(2, va_rf (Option.map (Ad γ ad 2) v1)), (0, .ref (gS γ 7 0)), (1, .int a1)]) hX hl (by decide) rfl (va_rf_or _) dX6_bind_5 rfl (fun ls hl1 => ?_)
  replace hl := hl1
  clear hl1
  refine rw_aload_n hX hl 0 rfl (va_rf_or _) dX6_bind_6 rfl ?_
  obtain ⟨i6, e7, h8, hw1⟩ := dr_some hw
  replace hw := hw1
  clear hw1
  subst e7
  refine rw_getN hX hR 2 8 i6 (C := RX1) (T := TX1) (N := 18) rfl (by decide) h8 rfl (v := .int (b2i (gb σ 208 i6))) rfl uw_X1 nw_358 rfl dX6_bind_7 ?_
  refine rw_ifeqZ (b := (gb σ 208 i6)) (tgt := 20) hX dX6_bind_10 (by decide) (fun c9 => ?_) (fun c9 => ?_)
  · replace hw := if_f hw c9
    cases hw
    exact rw_throw (lv := [(2, .ref (Ad γ ad 2 i6)), (0, .ref (gS γ 7 0)), (1, .int a1)]) (text := "the device was not unbound by hand, or is there no more") hX hR hfl 3 74 155 78 rfl XN_fit3 XNS_fit gw_320 gw_19 (by decide +kernel) xa_3 xg_3 hl.1 hxt dX6_bind_20 dX6_bind_23 dX6_bind_24 dX6_bind_26 dX6_bind_29 (Nat.le_of_ble_eq_true rfl) (Nat.le_of_ble_eq_true rfl) ⟨(show (0 + 1) + 1 ≤ 28 by omega), (show (0 + 6) + 6 ≤ 5992 by omega)⟩ hlocks ⟨by omega, by omega⟩
  · replace hw := if_t hw c9
    refine rw_aload_n hX hl 0 rfl (Or.inr ⟨_, rfl⟩) dX6_bind_13 rfl ?_
    refine rw_getN hX hR 2 9 i6 (C := RX1) (T := TX1) (N := 18) rfl (by decide) h8 rfl (v := .int (b2i (gb σ 209 i6))) rfl uw_X1 nw_359 rfl dX6_bind_14 ?_
    refine rw_ifneZ (b := (gb σ 209 i6)) (tgt := 30) hX dX6_bind_17 (by decide) (fun c10 => ?_) (fun c10 => ?_)
    · replace hw := if_t hw c10
      refine rw_aload_n hX hl 0 rfl (Or.inr ⟨_, rfl⟩) dX6_bind_30 rfl ?_
      refine lv_iconst (v := 0) hX.1.1 hX.1.2.1 dX6_bind_31 (by decide) ?_
      refine rw_putbN (x := false) hX hR 2 9 i6 209 (C := RX1) (T := TX1) (N := 18) rfl (by decide) rfl rfl h8 rfl uw_X1 tyX1 tyX1_ok nmX1 nw_359 rfl rfl (by decide) dX6_bind_32 (fun σ1 H locs e1 hR1 => ?_)
      replace hR := hR1
      clear hR1
      subst e1
      refine rw_aload_n hX hl 1 rfl (Or.inr ⟨_, rfl⟩) dX6_bind_35 rfl ?_
      obtain ⟨σ12, g13, hw1⟩ := ob1_some hw
      replace hw := hw1
      clear hw1
      refine rw_cVv hX hR pk_f7_bindWhatCanBe (mc := 26) (ms := 5980) ⟨rfl, rfl, (show 83 + 1 ≤ 84 by omega), (show 8 + (3 + 11) + 64 * 83 ≤ 64 * 84 by omega)⟩ (As := []) (rest := []) rfl (C_f7_bindWhatCanBe l γ ad (zb σ 209 i6 false) σ12 g13) gw_408 gw_410 gs_6 (rs_recv hX hR 7 0 (C := RX6) (T := TX6) (N := 11) rfl (by decide) (Nat.le_of_ble_eq_true rfl) rfl) rfl hl.1 ca0 (Nat.le_of_ble_eq_true rfl) dX6_bind_36 ⟨(show (0 + 1) + 26 ≤ 28 by omega), (show (0 + 6) + 5980 ≤ 5992 by omega)⟩ (fun H locs hR1 => ?_)
      replace hR := hR1
      clear hR1
      refine rw_aload_n hX hl 0 rfl (Or.inr ⟨_, rfl⟩) dX6_bind_39 rfl ?_
      obtain ⟨h14, hw1⟩ := ck_lt hw
      replace hw := hw1
      clear hw1
      obtain ⟨v15, g17, hw1⟩ := ob1_some hw
      replace hw := hw1
      clear hw1
      refine rw_cVNi hX hR pk_f2_isBound (mc := 0) (ms := 0) ⟨rfl, rfl, (show 1 + 1 ≤ 84 by omega), (show 8 + (1 + 11) + 64 * 1 ≤ 64 * 84 by omega)⟩ (As := []) (rest := []) rfl (C_f2_isBound l γ ad i6 σ12 v15 g17) nw_416 gw_418 gs_8 (rs_recv hX hR 2 i6 (C := RX1) (T := TX1) (N := 18) rfl (by decide) h14 rfl) rfl hl.1 ca0 (Nat.le_of_ble_eq_true rfl) dX6_bind_40 ⟨(show ((0 + 1) + 26) + 0 ≤ 28 by omega), (show ((0 + 6) + 5980) + 0 ≤ 5992 by omega)⟩ (fun H locs hR1 => ?_)
      replace hR := hR1
      clear hR1
      refine rw_ifeqZ (b := v15) (tgt := 50) hX dX6_bind_43 (by decide) (fun c18 => ?_) (fun c18 => ?_)
      · replace hw := if_f hw c18
        refine rw_aload_n hX hl 1 rfl (Or.inr ⟨_, rfl⟩) dX6_bind_50 rfl ?_
        refine rw_aload_n hX hl 0 rfl (Or.inr ⟨_, rfl⟩) dX6_bind_51 rfl ?_
        obtain ⟨v19, g21, hw1⟩ := ob1_some hw
        replace hw := hw1
        clear hw1
        refine rw_cVi hX hR pk_f7_refusalOf (mc := 0) (ms := 0) ⟨rfl, rfl, (show 17 + 1 ≤ 84 by omega), (show 8 + (3 + 11) + 64 * 17 ≤ 64 * 84 by omega)⟩ (As := [va_rf (Option.map (Ad γ ad 2) (some i6))]) (rest := []) rfl (C_f7_refusalOf l γ ad (some i6) σ12 v19 g21) gw_420 gw_422 gs_9 (rs_recv hX hR 7 0 (C := RX6) (T := TX6) (N := 11) rfl (by decide) (Nat.le_of_ble_eq_true rfl) rfl) rfl hl.1 ca0 (Nat.le_of_ble_eq_true rfl) dX6_bind_52 ⟨(show (((0 + 1) + 26) + 0) + 0 ≤ 28 by omega), (show (((0 + 6) + 5980) + 0) + 0 ≤ 5992 by omega)⟩ (fun H locs hR1 => ?_)
        replace hR := hR1
        clear hR1
        refine W.widen (k := 28) (n := 5992) (by omega) (by omega) ?_
        exact ry_ie hX hR hr hw dX6_bind_55 hlocks
      · replace hw := if_t hw c18
        refine lv_iconst (v := 0) hX.1.1 hX.1.2.1 dX6_bind_46 (by decide) ?_
        refine lv_goto (tgt := 55) hX.1.1 hX.1.2.1 dX6_bind_47 (by decide) ?_
        refine W.widen (k := 28) (n := 5992) (by omega) (by omega) ?_
        exact ry_ie hX hR hr hw dX6_bind_55 hlocks
    · replace hw := if_f hw c10
      cases hw
      exact rw_throw (lv := [(2, .ref (Ad γ ad 2 i6)), (0, .ref (gS γ 7 0)), (1, .int a1)]) (text := "the device was not unbound by hand, or is there no more") hX hR hfl 3 74 155 78 rfl XN_fit3 XNS_fit gw_320 gw_19 (by decide +kernel) xa_3 xg_3 hl.1 hxt dX6_bind_20 dX6_bind_23 dX6_bind_24 dX6_bind_26 dX6_bind_29 (Nat.le_of_ble_eq_true rfl) (Nat.le_of_ble_eq_true rfl) ⟨(show (0 + 1) + 1 ≤ 28 by omega), (show (0 + 6) + 6 ≤ 5992 by omega)⟩ hlocks ⟨by omega, by omega⟩
set_option maxHeartbeats 8000000 in
set_option maxRecDepth 100000 in
theorem C_f7_reset (l : Launch) (hfl : l.stackTraces = false) (γ : GT) (ad : Nat → Nat → Nat) {fu : Nat} (a1 : Int32) (σ : St) (r : Except Nat Int32) (σ' : St) (hw : f7_reset fu a1 σ = some (r, σ')) : vx_Met l yX6_reset (Cond.code yX6_reset cX6_reset 4 (Option.some Jvm.ClassFile.FieldType.int) :: GW) (rmo 16 2 12) (va_Pc [.ref (gS γ 7 0), .int a1] (RU γ ad σ)) (QXI γ ad σ' r) (QXX γ ad σ' r) 2 12 (gA γ) := by
  refine vx_ofW (cc := cX6_reset) (maxL := 4) (ret := (Option.some Jvm.ClassFile.FieldType.int)) (by decide) rfl ?_
  intro p e s m args below meth c s₁ B hml hxt hv
  obtain ⟨rfl, hU⟩ := hv
  obtain ⟨hX, hR⟩ := cx_of (own := RX6) B hml rfl hU
  have hr := B.returns
  have hlocks := B.notSynchronized
  have hc0 : (0 : Nat) ≤ 0 := Nat.le_refl 0
  show W p l e (rmo 16 2 12) s m ([.ref (gS γ 7 0), .int a1] : List Value).toArray below meth c s.heap [] 0 0 (vx_MQ below (QXI γ ad σ' r) (QXX γ ad σ' r) ([.ref (gS γ 7 0), .int a1] : List Value).toArray s 2 12 (gA γ)) (entryFrame m ([.ref (gS γ 7 0), .int a1] : List Value).toArray 4)
  unfold f7_reset at hw
  refine rw_entry (ca1 rfl (ca1 rfl ca0)) (Nat.le_of_ble_eq_true rfl) (fun ls hl1 => ?_)
  replace hl := hl1
  clear hl1
  refine rw_aload_n hX hl 0 rfl (Or.inr ⟨_, rfl⟩) dX6_reset_0 rfl ?_
  refine rw_iload_n hX hl 1 rfl dX6_reset_1 rfl ?_
  obtain ⟨v1, g3, h4, h5⟩ := xb1_some hw
  refine rw_xVq hX hR pk_f7_known (mc := 1) (ms := 6) ⟨rfl, rfl, (show 15 + 1 ≤ 16 by omega), (show 8 + (2 + 11) + 64 * 15 ≤ 64 * 16 by omega)⟩ (As := [.int a1]) (rest := []) rfl (C_f7_known l hfl γ ad a1 σ v1 g3) gw_205 gw_207 gs_4 (rs_recv hX hR 7 0 (C := RX6) (T := TX6) (N := 11) rfl (by decide) (Nat.le_of_ble_eq_true rfl) rfl) rfl hl.1 ca0 (Nat.le_of_ble_eq_true rfl) dX6_reset_2 ⟨(show 0 + 1 ≤ 2 by omega), (show 0 + 6 ≤ 12 by omega)⟩ (fun x ce q9 H locs hx hR1 h1 h2 h3 => ?_) (fun v1 H locs hx hR1 => ?_)
  · replace hR := hR1
    clear hR1
    replace hw := h4 x hx
    cases hw
    exact rx_out hX hR hxt rfl h1 h2 h3 hlocks (by omega) (by omega)
  replace hR := hR1
  clear hR1
  replace hw := h5 v1 hx
  refine rw_astore_n (lv' := [(2, va_rf (Option.map (Ad γ ad 2) v1)), (0, .ref (gS γ 7 0)), (1, .int a1)]) hX hl (by decide) rfl (va_rf_or _) dX6_reset_5 rfl (fun ls hl1 => ?_)
  replace hl := hl1
  clear hl1
  refine rw_aload_n hX hl 0 rfl (va_rf_or _) dX6_reset_6 rfl ?_
  obtain ⟨i6, e7, h8, hw1⟩ := dr_some hw
  replace hw := hw1
  clear hw1
  subst e7
  obtain ⟨v9, g11, hw1⟩ := ob1_some hw
  replace hw := hw1
  clear hw1
  refine rw_cVNi hX hR pk_f2_isBound (mc := 0) (ms := 0) ⟨rfl, rfl, (show 1 + 1 ≤ 16 by omega), (show 8 + (1 + 11) + 64 * 1 ≤ 64 * 16 by omega)⟩ (As := []) (rest := []) rfl (C_f2_isBound l γ ad i6 σ v9 g11) nw_416 gw_418 gs_8 (rs_recv hX hR 2 i6 (C := RX1) (T := TX1) (N := 18) rfl (by decide) h8 rfl) rfl hl.1 ca0 (Nat.le_of_ble_eq_true rfl) dX6_reset_7 ⟨(show (0 + 1) + 0 ≤ 2 by omega), (show (0 + 6) + 0 ≤ 12 by omega)⟩ (fun H locs hR1 => ?_)
  replace hR := hR1
  clear hR1
  refine rw_ifeqZ (b := v9) (tgt := 20) hX dX6_reset_10 (by decide) (fun c12 => ?_) (fun c12 => ?_)
  · replace hw := if_f hw c12
    cases hw
    exact rw_throw (lv := [(2, .ref (Ad γ ad 2 i6)), (0, .ref (gS γ 7 0)), (1, .int a1)]) (text := "the device is not bound, or the world is suspended") hX hR hfl 3 74 163 78 rfl XN_fit3 XNS_fit gw_320 gw_19 (by decide +kernel) xa_3 xg_3 hl.1 hxt dX6_reset_20 dX6_reset_23 dX6_reset_24 dX6_reset_26 dX6_reset_29 (Nat.le_of_ble_eq_true rfl) (Nat.le_of_ble_eq_true rfl) ⟨(show ((0 + 1) + 0) + 1 ≤ 2 by omega), (show ((0 + 6) + 0) + 6 ≤ 12 by omega)⟩ hlocks ⟨by omega, by omega⟩
  · replace hw := if_t hw c12
    refine rw_aload_n hX hl 1 rfl (Or.inr ⟨_, rfl⟩) dX6_reset_13 rfl ?_
    refine rw_get hX hR 7 9 0 (C := RX6) (T := TX6) (N := 11) rfl (by decide) (Nat.le_of_ble_eq_true rfl) rfl (v := .int (b2i (gb σ 709 0))) rfl uw_X6 gw_158 rfl dX6_reset_14 ?_
    refine rw_ifeqZ (b := (gb σ 709 0)) (tgt := 30) hX dX6_reset_17 (by decide) (fun c13 => ?_) (fun c13 => ?_)
    · replace hw := if_f hw c13
      refine rw_aload_n hX hl 1 rfl (Or.inr ⟨_, rfl⟩) dX6_reset_30 rfl ?_
      refine rw_aload_n hX hl 0 rfl (Or.inr ⟨_, rfl⟩) dX6_reset_31 rfl ?_
      obtain ⟨v14, σ15, g16, hw1⟩ := ob2_some hw
      replace hw := hw1
      clear hw1
      refine rw_cVi hX hR pk_f7_abortCallsOf (mc := 0) (ms := 0) ⟨rfl, rfl, (show 15 + 1 ≤ 16 by omega), (show 8 + (5 + 11) + 64 * 15 ≤ 64 * 16 by omega)⟩ (As := [va_rf (Option.map (Ad γ ad 2) (some i6))]) (rest := []) rfl (C_f7_abortCallsOf l γ ad (some i6) σ v14 σ15 g16) gw_508 gw_510 gs_26 (rs_recv hX hR 7 0 (C := RX6) (T := TX6) (N := 11) rfl (by decide) (Nat.le_of_ble_eq_true rfl) rfl) rfl hl.1 ca0 (Nat.le_of_ble_eq_true rfl) dX6_reset_32 ⟨(show ((0 + 1) + 0) + 0 ≤ 2 by omega), (show ((0 + 6) + 0) + 0 ≤ 12 by omega)⟩ (fun H locs hR1 => ?_)
      replace hR := hR1
      clear hR1
      refine rw_istore_n (lv' := [(3, .int v14), (2, .ref (Ad γ ad 2 i6)), (0, .ref (gS γ 7 0)), (1, .int a1)]) hX hl (by decide) rfl dX6_reset_35 rfl (fun ls hl1 => ?_)
      replace hl := hl1
      clear hl1
      refine rw_aload_n hX hl 2 rfl (Or.inr ⟨_, rfl⟩) dX6_reset_36 rfl ?_
      refine rw_aload_n hX hl 1 rfl (Or.inr ⟨_, rfl⟩) dX6_reset_37 rfl ?_
      obtain ⟨σ18, g19, hw1⟩ := ob1_some hw
      replace hw := hw1
      clear hw1
      refine rw_cVv hX hR pk_f7_letMapsGo (mc := 0) (ms := 0) ⟨rfl, rfl, (show 15 + 1 ≤ 16 by omega), (show 8 + (4 + 11) + 64 * 15 ≤ 64 * 16 by omega)⟩ (As := [va_rf (Option.map (Ad γ ad 2) (some i6))]) (rest := []) rfl (C_f7_letMapsGo l γ ad (some i6) σ15 σ18 g19) gw_518 gw_520 gs_28 (rs_recv hX hR 7 0 (C := RX6) (T := TX6) (N := 11) rfl (by decide) (Nat.le_of_ble_eq_true rfl) rfl) rfl hl.1 ca0 (Nat.le_of_ble_eq_true rfl) dX6_reset_38 ⟨(show (((0 + 1) + 0) + 0) + 0 ≤ 2 by omega), (show (((0 + 6) + 0) + 0) + 0 ≤ 12 by omega)⟩ (fun H locs hR1 => ?_)
      replace hR := hR1
      clear hR1
      refine rw_aload_n hX hl 1 rfl (Or.inr ⟨_, rfl⟩) dX6_reset_41 rfl ?_
      refine lv_iconst (v := 0) hX.1.1 hX.1.2.1 dX6_reset_42 (by decide) ?_
      obtain ⟨h20, hw1⟩ := ck_lt hw
      replace hw := hw1
      clear hw1
      refine rw_putiN (x := 0) hX hR 2 13 i6 213 (C := RX1) (T := TX1) (N := 18) rfl (by decide) rfl rfl h20 rfl uw_X1 tyX1 tyX1_ok nmX1 nw_365 rfl rfl (by decide) dX6_reset_43 (fun σ1 H locs e1 hR1 => ?_)
      replace hR := hR1
      clear hR1
      subst e1
      refine rw_aload_n hX hl 1 rfl (Or.inr ⟨_, rfl⟩) dX6_reset_46 rfl ?_
      refine lv_iconst (v := 0) hX.1.1 hX.1.2.1 dX6_reset_47 (by decide) ?_
      refine rw_putbN (x := false) hX hR 2 15 i6 215 (C := RX1) (T := TX1) (N := 18) rfl (by decide) rfl rfl h20 rfl uw_X1 tyX1 tyX1_ok nmX1 nw_367 rfl rfl (by decide) dX6_reset_48 (fun σ1 H locs e1 hR1 => ?_)
      replace hR := hR1
      clear hR1
      subst e1
      refine rw_iload_n hX hl 0 rfl dX6_reset_51 rfl ?_
      refine W.widen (k := 2) (n := 12) (by omega) (by omega) ?_
      exact ry_ie hX hR hr hw dX6_reset_52 hlocks
    · replace hw := if_t hw c13
      cases hw
      exact rw_throw (lv := [(2, .ref (Ad γ ad 2 i6)), (0, .ref (gS γ 7 0)), (1, .int a1)]) (text := "the device is not bound, or the world is suspended") hX hR hfl 3 74 163 78 rfl XN_fit3 XNS_fit gw_320 gw_19 (by decide +kernel) xa_3 xg_3 hl.1 hxt dX6_reset_20 dX6_reset_23 dX6_reset_24 dX6_reset_26 dX6_reset_29 (Nat.le_of_ble_eq_true rfl) (Nat.le_of_ble_eq_true rfl) ⟨(show ((0 + 1) + 0) + 1 ≤ 2 by omega), (show ((0 + 6) + 0) + 6 ≤ 12 by omega)⟩ hlocks ⟨by omega, by omega⟩
set_option maxHeartbeats 8000000 in
set_option maxRecDepth 100000 in
theorem C_f5_init (l : Launch) (γ : GT) (ad : Nat → Nat → Nat) {fu : Nat} (a0 : Nat) (a1 : (Option Nat)) (σ : St) (σ' : St) (hw : f5_init fu a0 a1 σ = some σ') : Met l yX4_init (Cond.code yX4_init cX4_init 2 (Option.none : Option Jvm.ClassFile.FieldType) :: GW) (rmo 2 0 0) (va_Pc [.ref (Ad γ ad 5 a0), va_rf (Option.map (Ad γ ad 2) a1)] (RU γ ad σ)) (QV γ ad σ') 0 0 (gA γ) := by
  refine Met.ofW (cc := cX4_init) (maxL := 2) (ret := (Option.none : Option Jvm.ClassFile.FieldType)) (by decide +kernel) rfl ?_
  intro p e s m args below meth c s₁ B hml hv
  obtain ⟨rfl, hU⟩ := hv
  obtain ⟨hX, hR⟩ := cx_of (own := RX4) B hml rfl hU
  have hr := B.returns
  have hlocks := B.notSynchronized
  have hin := (name_of_methodNamed B.named B.method).1
  have hc0 : (0 : Nat) ≤ 0 := Nat.le_refl 0
  show W p l e (rmo 2 0 0) s m ([.ref (Ad γ ad 5 a0), va_rf (Option.map (Ad γ ad 2) a1)] : List Value).toArray below meth c s.heap [] 0 0 (MQ below (QV γ ad σ') ([.ref (Ad γ ad 5 a0), va_rf (Option.map (Ad γ ad 2) a1)] : List Value).toArray s 0 0 (gA γ)) (entryFrame m ([.ref (Ad γ ad 5 a0), va_rf (Option.map (Ad γ ad 2) a1)] : List Value).toArray 2)
  unfold f5_init at hw
  refine rw_entry (ca1 rfl (ca1 (rf_cat _) ca0)) (Nat.le_of_ble_eq_true rfl) (fun ls hl1 => ?_)
  replace hl := hl1
  clear hl1
  refine rw_aload_n hX hl 0 rfl (Or.inr ⟨_, rfl⟩) dX4_init_0 rfl ?_
  refine W.objInit hX.1.1 hX.1.2.1 hX.1.2.2.2.1 (hX.1.2.2.2.2 _ gw_608) (hX.1.2.2.2.2 _ gw_31) (hX.1.2.2.2.2 _ gw_32) rfl (hl.1.1.trans hX.1.2.2.1.symm) rfl dX4_init_1 (Nat.le_of_ble_eq_true rfl) (Nat.le_of_ble_eq_true rfl) ?_
  refine rw_aload_n hX hl 0 rfl (Or.inr ⟨_, rfl⟩) dX4_init_4 rfl ?_
  refine lv_iconst (v := 1) hX.1.1 hX.1.2.1 dX4_init_5 (by decide) ?_
  obtain ⟨h1, hw1⟩ := ck_lt hw
  replace hw := hw1
  clear hw1
  refine rw_putb (x := true) hX hR 5 1 a0 501 (C := RX4) (T := TX4) (N := 3) rfl (by decide) rfl rfl h1 rfl uw_X4 tyX4 tyX4_ok nmX4 gw_611 rfl rfl (by decide) dX4_init_6 (fun σ1 H locs e1 hR1 => ?_)
  replace hR := hR1
  clear hR1
  subst e1
  refine rw_aload_n hX hl 0 rfl (Or.inr ⟨_, rfl⟩) dX4_init_9 rfl ?_
  refine rw_aload_n hX hl 1 rfl (va_rf_or _) dX4_init_10 rfl ?_
  refine rw_putpF (E := "DriverMoor$Device") (x := a1) hX hR 5 0 a0 500 (C := RX4) (T := TX4) (N := 3) rfl (by decide) rfl rfl h1 rfl uw_X4 tyX4 tyX4_ok nmX4 gw_609 rfl rfl hin rfl (by decide) dX4_init_11 (fun σ1 H locs e1 hR1 => ?_)
  replace hR := hR1
  clear hR1
  subst e1
  exact rq_ve hX hR hr hw dX4_init_14 hlocks
set_option maxHeartbeats 8000000 in
set_option maxRecDepth 100000 in
theorem C_f7_open (l : Launch) (hfl : l.stackTraces = false) (γ : GT) (ad : Nat → Nat → Nat) {fu : Nat} (a1 : Int32) (σ : St) (r : Except Nat Int32) (σ' : St) (hw : f7_open fu a1 σ = some (r, σ')) : vx_Met l yX6_open (Cond.code yX6_open cX6_open 4 (Option.some Jvm.ClassFile.FieldType.int) :: GW) (rmo 16 4 245) (va_Pc [.ref (gS γ 7 0), .int a1] (RU γ ad σ)) (QXN γ σ' r) (QXX γ ad σ' r) 4 245 (gA γ) := by
  refine vx_ofW (cc := cX6_open) (maxL := 4) (ret := (Option.some Jvm.ClassFile.FieldType.int)) (by decide) rfl ?_
  intro p e s m args below meth c s₁ B hml hxt hv
  obtain ⟨rfl, hU⟩ := hv
  obtain ⟨hX, hR⟩ := cx_of (own := RX6) B hml rfl hU
  have hr := B.returns
  have hlocks := B.notSynchronized
  have hc0 : (0 : Nat) ≤ 0 := Nat.le_refl 0
  show W p l e (rmo 16 4 245) s m ([.ref (gS γ 7 0), .int a1] : List Value).toArray below meth c s.heap [] 0 0 (vx_MQ below (QXN γ σ' r) (QXX γ ad σ' r) ([.ref (gS γ 7 0), .int a1] : List Value).toArray s 4 245 (gA γ)) (entryFrame m ([.ref (gS γ 7 0), .int a1] : List Value).toArray 4)
  unfold f7_open at hw
  refine rw_entry (ca1 rfl (ca1 rfl ca0)) (Nat.le_of_ble_eq_true rfl) (fun ls hl1 => ?_)
  replace hl := hl1
  clear hl1
  refine rw_aload_n hX hl 0 rfl (Or.inr ⟨_, rfl⟩) dX6_open_0 rfl ?_
  refine rw_iload_n hX hl 1 rfl dX6_open_1 rfl ?_
  obtain ⟨v1, g3, h4, h5⟩ := xb1_some hw
  refine rw_xVq hX hR pk_f7_known (mc := 1) (ms := 6) ⟨rfl, rfl, (show 15 + 1 ≤ 16 by omega), (show 8 + (2 + 11) + 64 * 15 ≤ 64 * 16 by omega)⟩ (As := [.int a1]) (rest := []) rfl (C_f7_known l hfl γ ad a1 σ v1 g3) gw_205 gw_207 gs_4 (rs_recv hX hR 7 0 (C := RX6) (T := TX6) (N := 11) rfl (by decide) (Nat.le_of_ble_eq_true rfl) rfl) rfl hl.1 ca0 (Nat.le_of_ble_eq_true rfl) dX6_open_2 ⟨(show 0 + 1 ≤ 4 by omega), (show 0 + 6 ≤ 245 by omega)⟩ (fun x ce q9 H locs hx hR1 h1 h2 h3 => ?_) (fun v1 H locs hx hR1 => ?_)
  · replace hR := hR1
    clear hR1
    replace hw := h4 x hx
    cases hw
    exact rx_out hX hR hxt rfl h1 h2 h3 hlocks (by omega) (by omega)
  replace hR := hR1
  clear hR1
  replace hw := h5 v1 hx
  refine rw_astore_n (lv' := [(2, va_rf (Option.map (Ad γ ad 2) v1)), (0, .ref (gS γ 7 0)), (1, .int a1)]) hX hl (by decide) rfl (va_rf_or _) dX6_open_5 rfl (fun ls hl1 => ?_)
  replace hl := hl1
  clear hl1
  refine rw_aload_n hX hl 0 rfl (va_rf_or _) dX6_open_6 rfl ?_
  obtain ⟨i6, e7, h8, hw1⟩ := dr_some hw
  replace hw := hw1
  clear hw1
  subst e7
  obtain ⟨v9, g11, hw1⟩ := ob1_some hw
  replace hw := hw1
  clear hw1
  refine rw_cVNi hX hR pk_f2_isBound (mc := 0) (ms := 0) ⟨rfl, rfl, (show 1 + 1 ≤ 16 by omega), (show 8 + (1 + 11) + 64 * 1 ≤ 64 * 16 by omega)⟩ (As := []) (rest := []) rfl (C_f2_isBound l γ ad i6 σ v9 g11) nw_416 gw_418 gs_8 (rs_recv hX hR 2 i6 (C := RX1) (T := TX1) (N := 18) rfl (by decide) h8 rfl) rfl hl.1 ca0 (Nat.le_of_ble_eq_true rfl) dX6_open_7 ⟨(show (0 + 1) + 0 ≤ 4 by omega), (show (0 + 6) + 0 ≤ 245 by omega)⟩ (fun H locs hR1 => ?_)
  replace hR := hR1
  clear hR1
  refine rw_ifeqZ (b := v9) (tgt := 32) hX dX6_open_10 (by decide) (fun c12 => ?_) (fun c12 => ?_)
  · replace hw := if_f hw c12
    cases hw
    exact rw_throw (lv := [(2, .ref (Ad γ ad 2 i6)), (0, .ref (gS γ 7 0)), (1, .int a1)]) (text := "the device is not bound, the world is suspended, or there were 40") hX hR hfl 3 74 178 78 rfl XN_fit3 XNS_fit gw_320 gw_19 (by decide +kernel) xa_3 xg_3 hl.1 hxt dX6_open_32 dX6_open_35 dX6_open_36 dX6_open_38 dX6_open_41 (Nat.le_of_ble_eq_true rfl) (Nat.le_of_ble_eq_true rfl) ⟨(show ((0 + 1) + 0) + 1 ≤ 4 by omega), (show ((0 + 6) + 0) + 6 ≤ 245 by omega)⟩ hlocks ⟨by omega, by omega⟩
  · replace hw := if_t hw c12
    refine rw_aload_n hX hl 1 rfl (Or.inr ⟨_, rfl⟩) dX6_open_13 rfl ?_
    refine rw_get hX hR 7 9 0 (C := RX6) (T := TX6) (N := 11) rfl (by decide) (Nat.le_of_ble_eq_true rfl) rfl (v := .int (b2i (gb σ 709 0))) rfl uw_X6 gw_158 rfl dX6_open_14 ?_
    refine rw_ifneZ (b := (gb σ 709 0)) (tgt := 32) hX dX6_open_17 (by decide) (fun c13 => ?_) (fun c13 => ?_)
    · replace hw := if_t hw c13
      cases hw
      exact rw_throw (lv := [(2, .ref (Ad γ ad 2 i6)), (0, .ref (gS γ 7 0)), (1, .int a1)]) (text := "the device is not bound, the world is suspended, or there were 40") hX hR hfl 3 74 178 78 rfl XN_fit3 XNS_fit gw_320 gw_19 (by decide +kernel) xa_3 xg_3 hl.1 hxt dX6_open_32 dX6_open_35 dX6_open_36 dX6_open_38 dX6_open_41 (Nat.le_of_ble_eq_true rfl) (Nat.le_of_ble_eq_true rfl) ⟨(show ((0 + 1) + 0) + 1 ≤ 4 by omega), (show ((0 + 6) + 0) + 6 ≤ 245 by omega)⟩ hlocks ⟨by omega, by omega⟩
    · replace hw := if_f hw c13
      refine rw_aload_n hX hl 1 rfl (Or.inr ⟨_, rfl⟩) dX6_open_20 rfl ?_
      refine rw_get hX hR 7 3 0 (C := RX6) (T := TX6) (N := 11) rfl (by decide) (Nat.le_of_ble_eq_true rfl) rfl (v := .ref (gS γ 0 3)) rfl uw_X6 gw_152 rfl dX6_open_21 ?_
      refine rw_cVi hX hR pk_lsize (mc := 0) (ms := 0) ⟨rfl, rfl, Nat.le_of_ble_eq_true rfl, Nat.le_of_ble_eq_true rfl⟩ (As := []) (rest := []) rfl (C_lsize l γ ad σ 3 (by decide)) gw_209 gw_210 gw_211 (rs_recvL hX hR 3 (by decide)) rfl hl.1 ca0 (Nat.le_of_ble_eq_true rfl) dX6_open_24 ⟨(show ((0 + 1) + 0) + 0 ≤ 4 by omega), (show ((0 + 6) + 0) + 0 ≤ 245 by omega)⟩ (fun H locs hR1 => ?_)
      replace hR := hR1
      clear hR1
      refine lv_bipush (v := 40) hX.1.1 hX.1.2.1 dX6_open_27 (by decide) ?_
      refine lv_icmp_lt (x := (nI (gl σ 3).length)) (y := 40) (tgt := 42) hX.1.1 hX.1.2.1 dX6_open_29 (by decide) (fun c14 => ?_) (fun c14 => ?_)
      · replace hw := if_t hw c14
        refine rw_aload_n hX hl 1 rfl (Or.inr ⟨_, rfl⟩) dX6_open_42 rfl ?_
        refine rw_get hX hR 7 3 0 (C := RX6) (T := TX6) (N := 11) rfl (by decide) (Nat.le_of_ble_eq_true rfl) rfl (v := .ref (gS γ 0 3)) rfl uw_X6 gw_152 rfl dX6_open_43 ?_
        refine rw_cVi hX hR pk_lsize (mc := 0) (ms := 0) ⟨rfl, rfl, Nat.le_of_ble_eq_true rfl, Nat.le_of_ble_eq_true rfl⟩ (As := []) (rest := []) rfl (C_lsize l γ ad σ 3 (by decide)) gw_209 gw_210 gw_211 (rs_recvL hX hR 3 (by decide)) rfl hl.1 ca0 (Nat.le_of_ble_eq_true rfl) dX6_open_46 ⟨(show (((0 + 1) + 0) + 0) + 0 ≤ 4 by omega), (show (((0 + 6) + 0) + 0) + 0 ≤ 245 by omega)⟩ (fun H locs hR1 => ?_)
        replace hR := hR1
        clear hR1
        refine rw_istore_n (lv' := [(3, .int (nI (gl σ 3).length)), (2, .ref (Ad γ ad 2 i6)), (0, .ref (gS γ 7 0)), (1, .int a1)]) hX hl (by decide) rfl dX6_open_49 rfl (fun ls hl1 => ?_)
        replace hl := hl1
        clear hl1
        refine rw_aload_n hX hl 2 rfl (Or.inr ⟨_, rfl⟩) dX6_open_50 rfl ?_
        refine rw_get hX hR 7 3 0 (C := RX6) (T := TX6) (N := 11) rfl (by decide) (Nat.le_of_ble_eq_true rfl) rfl (v := .ref (gS γ 0 3)) rfl uw_X6 gw_152 rfl dX6_open_51 ?_
        obtain ⟨h15, hw1⟩ := ckP_some hw
        replace hw := hw1
        clear hw1
        obtain ⟨n16, e17⟩ : ∃ i, gn σ 5 = i := ⟨_, rfl⟩
        replace hw := lt_eq hw e17
        refine rw_new hX hR 5 tyX4 h15 rfl rfl rfl uw_X4 tyX4_ok (by decide +kernel) gw_522 gw_604 gw_22 ⟨(show ((((0 + 1) + 0) + 0) + 0) + 1 ≤ 4 by omega), (show ((((0 + 6) + 0) + 0) + 0) + 3 ≤ 245 by omega)⟩ dX6_open_54 (fun ad18 H hR1 hag => ?_)
        replace hR := hR1
        clear hR1
        rw [e17]
        rw [← hag 2 i6 h8] at hl
        refine lv_dup hX.1.1 hX.1.2.1 dX6_open_57 rfl ?_
        refine rw_aload_n hX hl 1 rfl (Or.inr ⟨_, rfl⟩) dX6_open_58 rfl ?_
        obtain ⟨h19, hw1⟩ := ck_lt hw
        replace hw := hw1
        clear hw1
        obtain ⟨σ21, g22, hw1⟩ := ob1_some hw
        replace hw := hw1
        clear hw1
        refine rw_cINv hX hR pk_f5_init (mc := 0) (ms := 0) ⟨rfl, rfl, (show 2 + 1 ≤ 16 by omega), (show 8 + (2 + 11) + 64 * 2 ≤ 64 * 16 by omega)⟩ (As := [va_rf (Option.map (Ad γ ad18 2) (some i6))]) (rest := [.ref (Ad γ ad18 5 n16), .ref (gS γ 0 3)]) rfl (C_f5_init l γ ad18 n16 (some i6) (zw σ 5) σ21 g22) nw_605 gw_606 rfl rfl hl.1 (ca1 rfl (ca1 rfl ca0)) (Nat.le_of_ble_eq_true rfl) dX6_open_59 ⟨(show (((((0 + 1) + 0) + 0) + 0) + 1) + 0 ≤ 4 by omega), (show (((((0 + 6) + 0) + 0) + 0) + 3) + 0 ≤ 245 by omega)⟩ (fun H locs hR1 => ?_)
        replace hR := hR1
        clear hR1
        obtain ⟨h23, hw1⟩ := ck_lt hw
        replace hw := hw1
        clear hw1
        obtain ⟨h24, hw1⟩ := ck_lt hw
        replace hw := hw1
        clear hw1
        obtain ⟨h25, hw1⟩ := ck_some hw
        replace hw := hw1
        clear hw1
        refine rw_cVi hX hR pk_ladd (mc := 1) (ms := 230) ⟨rfl, rfl, Nat.le_of_ble_eq_true rfl, Nat.le_of_ble_eq_true rfl⟩ (As := [.ref (Ad γ ad18 5 n16)]) (rest := []) rfl (C_ladd l γ ad18 σ21 3 n16 (by decide) h23 h25 h24) gw_90 gw_91 gw_92 (rs_recvL hX hR 3 (by decide)) rfl hl.1 ca0 (Nat.le_of_ble_eq_true rfl) dX6_open_62 ⟨(show ((((((0 + 1) + 0) + 0) + 0) + 1) + 0) + 1 ≤ 4 by omega), (show ((((((0 + 6) + 0) + 0) + 0) + 3) + 0) + 230 ≤ 245 by omega)⟩ (fun H locs hR1 => ?_)
        replace hR := hR1
        clear hR1
        refine lv_pop hX.1.1 hX.1.2.1 dX6_open_65 rfl ?_
        refine rw_iload_n hX hl 0 rfl dX6_open_66 rfl ?_
        refine W.widen (k := 4) (n := 245) (by omega) (by omega) ?_
        exact ry_n hX hR hr hw dX6_open_67 hlocks
      · replace hw := if_f hw c14
        cases hw
        exact rw_throw (lv := [(2, .ref (Ad γ ad 2 i6)), (0, .ref (gS γ 7 0)), (1, .int a1)]) (text := "the device is not bound, the world is suspended, or there were 40") hX hR hfl 3 74 178 78 rfl XN_fit3 XNS_fit gw_320 gw_19 (by decide +kernel) xa_3 xg_3 hl.1 hxt dX6_open_32 dX6_open_35 dX6_open_36 dX6_open_38 dX6_open_41 (Nat.le_of_ble_eq_true rfl) (Nat.le_of_ble_eq_true rfl) ⟨(show (((0 + 1) + 0) + 0) + 1 ≤ 4 by omega), (show (((0 + 6) + 0) + 0) + 6 ≤ 245 by omega)⟩ hlocks ⟨by omega, by omega⟩
set_option maxHeartbeats 8000000 in
set_option maxRecDepth 100000 in
theorem C_f7_knownHandle (l : Launch) (hfl : l.stackTraces = false) (γ : GT) (ad : Nat → Nat → Nat) {fu : Nat} (a1 : Int32) (σ : St) (r : Except Nat (Option Nat)) (hw : f7_knownHandle fu a1 σ = some r) : vx_Met l yX6_knownHandle (Cond.code yX6_knownHandle cX6_knownHandle 2 (Option.some (Jvm.ClassFile.FieldType.object "DriverMoor$Handle")) :: GW) (rmo 15 1 6) (va_Pc [.ref (gS γ 7 0), .int a1] (RU γ ad σ)) (QXR γ ad 5 σ r) (QXX γ ad σ r) 1 6 (gA γ) := by
  refine vx_ofW (cc := cX6_knownHandle) (maxL := 2) (ret := (Option.some (Jvm.ClassFile.FieldType.object "DriverMoor$Handle"))) (by decide) rfl ?_
  intro p e s m args below meth c s₁ B hml hxt hv
  obtain ⟨rfl, hU⟩ := hv
  obtain ⟨hX, hR⟩ := cx_of (own := RX6) B hml rfl hU
  have hr := B.returns
  have hlocks := B.notSynchronized
  have hc0 : (0 : Nat) ≤ 0 := Nat.le_refl 0
  show W p l e (rmo 15 1 6) s m ([.ref (gS γ 7 0), .int a1] : List Value).toArray below meth c s.heap [] 0 0 (vx_MQ below (QXR γ ad 5 σ r) (QXX γ ad σ r) ([.ref (gS γ 7 0), .int a1] : List Value).toArray s 1 6 (gA γ)) (entryFrame m ([.ref (gS γ 7 0), .int a1] : List Value).toArray 2)
  unfold f7_knownHandle at hw
  refine rw_entry (ca1 rfl (ca1 rfl ca0)) (Nat.le_of_ble_eq_true rfl) (fun ls hl1 => ?_)
  replace hl := hl1
  clear hl1
  refine rw_iload_n hX hl 1 rfl dX6_knownHandle_0 rfl ?_
  refine lv_if_lt (x := a1) (tgt := 15) hX.1.1 hX.1.2.1 dX6_knownHandle_1 (by decide) (fun c1 => ?_) (fun c1 => ?_)
  · replace hw := if_t hw c1
    exact rw_throwW (lv := [(0, .ref (gS γ 7 0)), (1, .int a1)]) (text := "there is no such handle") hX hR hfl 1 136 350 140 (Option.some.inj hw).symm XN_fit1 XNS_fit gw_213 gw_15 (by decide +kernel) xa_1 xg_1 hl.1 hxt dX6_knownHandle_15 dX6_knownHandle_18 dX6_knownHandle_19 dX6_knownHandle_22 dX6_knownHandle_25 (Nat.le_of_ble_eq_true rfl) (Nat.le_of_ble_eq_true rfl) ⟨(show 0 + 1 ≤ 1 by omega), (show 0 + 6 ≤ 6 by omega)⟩ hlocks ⟨by omega, by omega⟩
  · replace hw := if_f hw c1
    refine rw_iload_n hX hl 1 rfl dX6_knownHandle_4 rfl ?_
    refine rw_aload_n hX hl 0 rfl (Or.inr ⟨_, rfl⟩) dX6_knownHandle_5 rfl ?_
    refine rw_get hX hR 7 3 0 (C := RX6) (T := TX6) (N := 11) rfl (by decide) (Nat.le_of_ble_eq_true rfl) rfl (v := .ref (gS γ 0 3)) rfl uw_X6 gw_152 rfl dX6_knownHandle_6 ?_
    refine rw_cVi hX hR pk_lsize (mc := 0) (ms := 0) ⟨rfl, rfl, Nat.le_of_ble_eq_true rfl, Nat.le_of_ble_eq_true rfl⟩ (As := []) (rest := [.int a1]) rfl (C_lsize l γ ad σ 3 (by decide)) gw_209 gw_210 gw_211 (rs_recvL hX hR 3 (by decide)) rfl hl.1 (ca1 rfl ca0) (Nat.le_of_ble_eq_true rfl) dX6_knownHandle_9 ⟨(show 0 + 0 ≤ 1 by omega), (show 0 + 0 ≤ 6 by omega)⟩ (fun H locs hR1 => ?_)
    replace hR := hR1
    clear hR1
    refine lv_icmp_lt (x := a1) (y := (nI (gl σ 3).length)) (tgt := 26) hX.1.1 hX.1.2.1 dX6_knownHandle_12 (by decide) (fun c2 => ?_) (fun c2 => ?_)
    · replace hw := if_t hw c2
      refine rw_aload_n hX hl 0 rfl (Or.inr ⟨_, rfl⟩) dX6_knownHandle_26 rfl ?_
      refine rw_get hX hR 7 3 0 (C := RX6) (T := TX6) (N := 11) rfl (by decide) (Nat.le_of_ble_eq_true rfl) rfl (v := .ref (gS γ 0 3)) rfl uw_X6 gw_152 rfl dX6_knownHandle_27 ?_
      refine rw_iload_n hX hl 1 rfl dX6_knownHandle_30 rfl ?_
      obtain ⟨h4, k3, h5, h6, hw1⟩ := lg_some hw
      replace hw := hw1
      clear hw1
      refine rw_cVq (r := some k3) (k := 5) hX hR pk_lget (mc := 0) (ms := 0) ⟨rfl, rfl, Nat.le_of_ble_eq_true rfl, Nat.le_of_ble_eq_true rfl⟩ (As := [.int a1]) (rest := []) rfl (C_lget l γ ad σ 3 a1 k3 (by decide) h4 h5) gw_281 gw_282 gw_283 (rs_recvL hX hR 3 (by decide)) rfl hl.1 ca0 (Nat.le_of_ble_eq_true rfl) dX6_knownHandle_31 ⟨(show (0 + 0) + 0 ≤ 1 by omega), (show (0 + 0) + 0 ≤ 6 by omega)⟩ (fun H locs hR1 => ?_)
      replace hR := hR1
      clear hR1
      refine va_castS (a := Ad γ ad 5 k3) (nm := RX4) hX.1.1 hX.1.2.1 hX.1.2.2.2.1 (hX.1.2.2.2.2 _ gw_522) (hX.2.1.1 5 (RX4, TX4, 3) rfl).2 (rs_recv hX hR 5 k3 (C := RX4) (T := TX4) (N := 3) rfl (by decide) h6 rfl) dX6_knownHandle_34 ?_
      refine W.widen (k := 1) (n := 6) (by omega) (by omega) ?_
      exact ry_q hX hR hr (k := 5) hw dX6_knownHandle_37 hlocks
    · replace hw := if_f hw c2
      exact rw_throwW (lv := [(0, .ref (gS γ 7 0)), (1, .int a1)]) (text := "there is no such handle") hX hR hfl 1 136 350 140 (Option.some.inj hw).symm XN_fit1 XNS_fit gw_213 gw_15 (by decide +kernel) xa_1 xg_1 hl.1 hxt dX6_knownHandle_15 dX6_knownHandle_18 dX6_knownHandle_19 dX6_knownHandle_22 dX6_knownHandle_25 (Nat.le_of_ble_eq_true rfl) (Nat.le_of_ble_eq_true rfl) ⟨(show (0 + 0) + 1 ≤ 1 by omega), (show (0 + 0) + 6 ≤ 6 by omega)⟩ hlocks ⟨by omega, by omega⟩
set_option maxHeartbeats 8000000 in
set_option maxRecDepth 100000 in
theorem C_f7_close (l : Launch) (hfl : l.stackTraces = false) (γ : GT) (ad : Nat → Nat → Nat) {fu : Nat} (a1 : Int32) (σ : St) (r : Except Nat Bool) (σ' : St) (hw : f7_close fu a1 σ = some (r, σ')) : vx_Met l yX6_close (Cond.code yX6_close cX6_close 5 (Option.some Jvm.ClassFile.FieldType.boolean) :: GW) (rmo 16 2 12) (va_Pc [.ref (gS γ 7 0), .int a1] (RU γ ad σ)) (QXZ γ ad σ' r) (QXX γ ad σ' r) 2 12 (gA γ) := by
  refine vx_ofW (cc := cX6_close) (maxL := 5) (ret := (Option.some Jvm.ClassFile.FieldType.boolean)) (by decide) rfl ?_
  intro p e s m args below meth c s₁ B hml hxt hv
  obtain ⟨rfl, hU⟩ := hv
  obtain ⟨hX, hR⟩ := cx_of (own := RX6) B hml rfl hU
  have hr := B.returns
  have hlocks := B.notSynchronized
  have hc0 : (0 : Nat) ≤ 0 := Nat.le_refl 0
  show W p l e (rmo 16 2 12) s m ([.ref (gS γ 7 0), .int a1] : List Value).toArray below meth c s.heap [] 0 0 (vx_MQ below (QXZ γ ad σ' r) (QXX γ ad σ' r) ([.ref (gS γ 7 0), .int a1] : List Value).toArray s 2 12 (gA γ)) (entryFrame m ([.ref (gS γ 7 0), .int a1] : List Value).toArray 5)
  unfold f7_close at hw
  have L30 : ∀ (x2 : (Option Nat)) (n : Nat) (s9 : (Int32 × St)) (cells slots : Nat), cells ≤ 2 → slots ≤ 12 → ∀ (H : Heap) (locs : List Loc) (ls : Array Slot), lp (fun s8 => f7_close_b30 fu x2 s8.1 s8.2) n s9 = some (r, σ') → RS γ ad (s9.2) s H locs → lh ls 5 [(0, .ref (gS γ 7 0)), (2, va_rf (Option.map (Ad γ ad 5) x2)), (3, .int s9.1)] → W p l e (rmo 16 2 12) s m ([.ref (gS γ 7 0), .int a1] : List Value).toArray below meth c H locs cells slots (vx_MQ below (QXZ γ ad σ' r) (QXX γ ad σ' r) ([.ref (gS γ 7 0), .int a1] : List Value).toArray s 2 12 (gA γ)) (F0 m 30 ls []) := by
    intro x2 n30
    induction n30 with
    | zero => intro s9 cells slots hc1 hc2 H locs ls hw hR hl; exact (lp_zero hw).elim
    | succ n30 ih30 =>
      intro s9 cells slots hc1 hc2 H locs ls hw hR hl
      obtain ⟨o30, hw1, hb30, ho30⟩ := lp_succ hw
      replace hw := hw1
      clear hw1
      obtain ⟨x3, σ⟩ := s9
      replace hw : f7_close_b30 fu x2 x3 σ = some o30 := hw
      replace hR : RS γ ad σ s H locs := hR
      replace hl : lh ls 5 [(0, .ref (gS γ 7 0)), (2, va_rf (Option.map (Ad γ ad 5) x2)), (3, .int x3)] := hl
      unfold f7_close_b30 at hw
      have J69 : ∀ (x3 : Int32) (σ : St) (cells slots : Nat), cells ≤ 2 → slots ≤ 12 → ∀ (H : Heap) (locs : List Loc) (ls : Array Slot), f7_close_j69 fu x2 x3 σ = some o30 → RS γ ad σ s H locs → lh ls 5 [(0, .ref (gS γ 7 0)), (2, va_rf (Option.map (Ad γ ad 5) x2)), (3, .int x3)] → W p l e (rmo 16 2 12) s m ([.ref (gS γ 7 0), .int a1] : List Value).toArray below meth c H locs cells slots (vx_MQ below (QXZ γ ad σ' r) (QXX γ ad σ' r) ([.ref (gS γ 7 0), .int a1] : List Value).toArray s 2 12 (gA γ)) (F0 m 69 ls []) := by
        intro x3 σ cells slots hc1 hc2 H locs ls hw hR hl
        unfold f7_close_j69 at hw
        refine rw_iinc (k := 2) (v := (x3 + 1)) (lv' := [(3, .int (x3 + 1)), (0, .ref (gS γ 7 0)), (2, va_rf (Option.map (Ad γ ad 5) x2))]) hX hl rfl (congrArg (fun q => x3 + q) (show Int32.ofInt 1 = 1 by decide)) (by decide) rfl dX6_close_69 (fun ls hl1 => ?_)
        replace hl := hl1
        clear hl1
        refine lv_goto (tgt := 30) hX.1.1 hX.1.2.1 dX6_close_72 (by decide) ?_
        exact ih30 _ _ _ (by omega) (by omega) _ _ _ (lp_back hw hb30) hR (lh_sub hl [1, 2, 0] rfl)
      refine rw_iload_n hX hl 2 rfl dX6_close_30 rfl ?_
      refine rw_aload_n hX hl 0 rfl (Or.inr ⟨_, rfl⟩) dX6_close_31 rfl ?_
      refine rw_get hX hR 7 4 0 (C := RX6) (T := TX6) (N := 11) rfl (by decide) (Nat.le_of_ble_eq_true rfl) rfl (v := .ref (gS γ 0 4)) rfl uw_X6 gw_153 rfl dX6_close_32 ?_
      refine rw_cVi hX hR pk_lsize (mc := 0) (ms := 0) ⟨rfl, rfl, Nat.le_of_ble_eq_true rfl, Nat.le_of_ble_eq_true rfl⟩ (As := []) (rest := [.int x3]) rfl (C_lsize l γ ad σ 4 (by decide)) gw_209 gw_210 gw_211 (rs_recvL hX hR 4 (by decide)) rfl hl.1 (ca1 rfl ca0) (Nat.le_of_ble_eq_true rfl) dX6_close_35 ⟨(show cells + 0 ≤ 2 by omega), (show slots + 0 ≤ 12 by omega)⟩ (fun H locs hR1 => ?_)
      replace hR := hR1
      clear hR1
      refine lv_icmp_ge (x := x3) (y := (nI (gl σ 4).length)) (tgt := 75) hX.1.1 hX.1.2.1 dX6_close_38 (by decide) (fun c10 => ?_) (fun c10 => ?_)
      · replace hw := if_t hw c10
        replace hw := lp_out hw ho30
        refine rw_aload_n hX hl 1 rfl (va_rf_or _) dX6_close_75 rfl ?_
        obtain ⟨i11, e12, h13, hw1⟩ := dr_some hw
        replace hw := hw1
        clear hw1
        subst e12
        refine rw_getN hX hR 5 2 i11 (C := RX4) (T := TX4) (N := 3) rfl (by decide) h13 rfl (v := .int (b2i (gb σ 502 i11))) rfl uw_X4 nw_614 rfl dX6_close_76 ?_
        refine W.widen (k := 2) (n := 12) (by omega) (by omega) ?_
        exact ry_ze hX hR hr (v := (gb σ 502 i11)) rfl hw dX6_close_79 hlocks
      · replace hw := if_f hw c10
        refine rw_aload_n hX hl 0 rfl (Or.inr ⟨_, rfl⟩) dX6_close_41 rfl ?_
        refine rw_get hX hR 7 4 0 (C := RX6) (T := TX6) (N := 11) rfl (by decide) (Nat.le_of_ble_eq_true rfl) rfl (v := .ref (gS γ 0 4)) rfl uw_X6 gw_153 rfl dX6_close_42 ?_
        refine rw_iload_n hX hl 2 rfl dX6_close_45 rfl ?_
        obtain ⟨h15, k14, h16, h17, hw1⟩ := lg_some hw
        replace hw := hw1
        clear hw1
        refine rw_cVq (r := some k14) (k := 1) hX hR pk_lget (mc := 0) (ms := 0) ⟨rfl, rfl, Nat.le_of_ble_eq_true rfl, Nat.le_of_ble_eq_true rfl⟩ (As := [.int x3]) (rest := []) rfl (C_lget l γ ad σ 4 x3 k14 (by decide) h15 h16) gw_281 gw_282 gw_283 (rs_recvL hX hR 4 (by decide)) rfl hl.1 ca0 (Nat.le_of_ble_eq_true rfl) dX6_close_46 ⟨(show (cells + 0) + 0 ≤ 2 by omega), (show (slots + 0) + 0 ≤ 12 by omega)⟩ (fun H locs hR1 => ?_)
        replace hR := hR1
        clear hR1
        refine va_castS (a := Ad γ ad 1 k14) (nm := RX0) hX.1.1 hX.1.2.1 hX.1.2.2.2.1 (hX.1.2.2.2.2 _ gw_512) (hX.2.1.1 1 (RX0, TX0, 3) rfl).2 (rs_recv hX hR 1 k14 (C := RX0) (T := TX0) (N := 3) rfl (by decide) h17 rfl) dX6_close_49 ?_
        refine rw_astore (lv' := [(4, .ref (Ad γ ad 1 k14)), (0, .ref (gS γ 7 0)), (2, va_rf (Option.map (Ad γ ad 5) x2)), (3, .int x3)]) hX hl (by decide) rfl (Or.inr ⟨_, rfl⟩) dX6_close_52 (fun ls hl1 => ?_)
        replace hl := hl1
        clear hl1
        refine rw_aload hX hl 0 rfl (Or.inr ⟨_, rfl⟩) dX6_close_54 ?_
        obtain ⟨p18, q19⟩ : ∃ o, gp σ 100 k14 = o := ⟨_, rfl⟩
        replace hw := lt_eq hw q19
        refine rw_getN hX hR 1 0 k14 (C := RX0) (T := TX0) (N := 3) rfl (by decide) h17 rfl (v := va_rf (Option.map (Ad γ ad 5) p18)) (by rw [← q19]; rfl) uw_X0 nw_661 rfl dX6_close_56 ?_
        refine rw_aload_n hX hl 2 rfl (va_rf_or _) dX6_close_59 rfl ?_
        obtain ⟨h20, hw1⟩ := ck_some hw
        replace hw := hw1
        clear hw1
        obtain ⟨h21, hw1⟩ := ck_some hw
        replace hw := hw1
        clear hw1
        refine rw_acmpne hX hR 5 (by decide) (o1 := p18) (o2 := x2) h20 h21 (tgt := 69) dX6_close_60 (by decide) (fun c22 => ?_) (fun c22 => ?_)
        · replace hw := if_f hw c22
          exact J69 x3 σ _ _ (by omega) (by omega) _ _ _ hw hR (lh_sub hl [1, 2, 3] rfl)
        · replace hw := if_t hw c22
          refine rw_aload hX hl 0 rfl (Or.inr ⟨_, rfl⟩) dX6_close_63 ?_
          obtain ⟨v23, σ24, g25, hw1⟩ := ob2_some hw
          replace hw := hw1
          clear hw1
          refine rw_cVNi hX hR pk_f1_abortIfGoing (mc := 0) (ms := 0) ⟨rfl, rfl, (show 1 + 1 ≤ 16 by omega), (show 8 + (1 + 11) + 64 * 1 ≤ 64 * 16 by omega)⟩ (As := []) (rest := []) rfl (C_f1_abortIfGoing l γ ad k14 σ v23 σ24 g25) nw_513 gw_515 gs_27 (rs_recv hX hR 1 k14 (C := RX0) (T := TX0) (N := 3) rfl (by decide) h17 rfl) rfl hl.1 ca0 (Nat.le_of_ble_eq_true rfl) dX6_close_65 ⟨(show ((cells + 0) + 0) + 0 ≤ 2 by omega), (show ((slots + 0) + 0) + 0 ≤ 12 by omega)⟩ (fun H locs hR1 => ?_)
          replace hR := hR1
          clear hR1
          refine lv_pop hX.1.1 hX.1.2.1 dX6_close_68 rfl ?_
          exact J69 x3 σ24 _ _ (by omega) (by omega) _ _ _ hw hR (lh_sub hl [1, 2, 3] rfl)
  refine rw_entry (ca1 rfl (ca1 rfl ca0)) (Nat.le_of_ble_eq_true rfl) (fun ls hl1 => ?_)
  replace hl := hl1
  clear hl1
  refine rw_aload_n hX hl 0 rfl (Or.inr ⟨_, rfl⟩) dX6_close_0 rfl ?_
  refine rw_iload_n hX hl 1 rfl dX6_close_1 rfl ?_
  obtain ⟨v1, g3, h4, h5⟩ := xb1_some hw
  refine rw_xVq hX hR pk_f7_knownHandle (mc := 1) (ms := 6) ⟨rfl, rfl, (show 15 + 1 ≤ 16 by omega), (show 8 + (2 + 11) + 64 * 15 ≤ 64 * 16 by omega)⟩ (As := [.int a1]) (rest := []) rfl (C_f7_knownHandle l hfl γ ad a1 σ v1 g3) gw_629 gw_631 gs_30 (rs_recv hX hR 7 0 (C := RX6) (T := TX6) (N := 11) rfl (by decide) (Nat.le_of_ble_eq_true rfl) rfl) rfl hl.1 ca0 (Nat.le_of_ble_eq_true rfl) dX6_close_2 ⟨(show 0 + 1 ≤ 2 by omega), (show 0 + 6 ≤ 12 by omega)⟩ (fun x ce q9 H locs hx hR1 h1 h2 h3 => ?_) (fun v1 H locs hx hR1 => ?_)
  · replace hR := hR1
    clear hR1
    replace hw := h4 x hx
    cases hw
    exact rx_out hX hR hxt rfl h1 h2 h3 hlocks (by omega) (by omega)
  replace hR := hR1
  clear hR1
  replace hw := h5 v1 hx
  refine rw_astore_n (lv' := [(2, va_rf (Option.map (Ad γ ad 5) v1)), (0, .ref (gS γ 7 0)), (1, .int a1)]) hX hl (by decide) rfl (va_rf_or _) dX6_close_5 rfl (fun ls hl1 => ?_)
  replace hl := hl1
  clear hl1
  refine rw_aload_n hX hl 0 rfl (va_rf_or _) dX6_close_6 rfl ?_
  obtain ⟨i6, e7, h8, hw1⟩ := dr_some hw
  replace hw := hw1
  clear hw1
  subst e7
  refine rw_getN hX hR 5 1 i6 (C := RX4) (T := TX4) (N := 3) rfl (by decide) h8 rfl (v := .int (b2i (gb σ 501 i6))) rfl uw_X4 nw_612 rfl dX6_close_7 ?_
  refine rw_ifneZ (b := (gb σ 501 i6)) (tgt := 23) hX dX6_close_10 (by decide) (fun c9 => ?_) (fun c9 => ?_)
  · replace hw := if_t hw c9
    refine rw_aload_n hX hl 0 rfl (Or.inr ⟨_, rfl⟩) dX6_close_23 rfl ?_
    refine lv_iconst (v := 0) hX.1.1 hX.1.2.1 dX6_close_24 (by decide) ?_
    refine rw_putbN (x := false) hX hR 5 1 i6 501 (C := RX4) (T := TX4) (N := 3) rfl (by decide) rfl rfl h8 rfl uw_X4 tyX4 tyX4_ok nmX4 nw_612 rfl rfl (by decide) dX6_close_25 (fun σ1 H locs e1 hR1 => ?_)
    replace hR := hR1
    clear hR1
    subst e1
    refine lv_iconst (v := 0) hX.1.1 hX.1.2.1 dX6_close_28 (by decide) ?_
    refine rw_istore_n (lv' := [(3, .int 0), (2, .ref (Ad γ ad 5 i6)), (0, .ref (gS γ 7 0)), (1, .int a1)]) hX hl (by decide) rfl dX6_close_29 rfl (fun ls hl1 => ?_)
    replace hl := hl1
    clear hl1
    exact L30 (some i6) _ _ _ _ (by omega) (by omega) _ _ _ hw hR (lh_sub hl [2, 1, 0] rfl)
  · replace hw := if_f hw c9
    cases hw
    exact rw_throw (lv := [(2, .ref (Ad γ ad 5 i6)), (0, .ref (gS γ 7 0)), (1, .int a1)]) (text := "the handle is closed") hX hR hfl 3 74 191 78 rfl XN_fit3 XNS_fit gw_320 gw_19 (by decide +kernel) xa_3 xg_3 hl.1 hxt dX6_close_13 dX6_close_16 dX6_close_17 dX6_close_19 dX6_close_22 (Nat.le_of_ble_eq_true rfl) (Nat.le_of_ble_eq_true rfl) ⟨(show (0 + 1) + 1 ≤ 2 by omega), (show (0 + 6) + 6 ≤ 12 by omega)⟩ hlocks ⟨by omega, by omega⟩
set_option maxHeartbeats 8000000 in
set_option maxRecDepth 100000 in
theorem C_f5_isAlive (l : Launch) (γ : GT) (ad : Nat → Nat → Nat) {fu : Nat} (a0 : Nat) (σ : St) (r : Bool) (hw : f5_isAlive fu a0 σ = some r) : Met l yX4_isAlive (Cond.code yX4_isAlive cX4_isAlive 1 (Option.some Jvm.ClassFile.FieldType.boolean) :: GW) (rmo 1 0 0) (va_Pc [.ref (Ad γ ad 5 a0)] (RU γ ad σ)) (QI γ ad σ (b2i r)) 0 0 (gA γ) := by
  refine Met.ofW (cc := cX4_isAlive) (maxL := 1) (ret := (Option.some Jvm.ClassFile.FieldType.boolean)) (by decide +kernel) rfl ?_
  intro p e s m args below meth c s₁ B hml hv
  obtain ⟨rfl, hU⟩ := hv
  obtain ⟨hX, hR⟩ := cx_of (own := RX4) B hml rfl hU
  have hr := B.returns
  have hlocks := B.notSynchronized
  have hc0 : (0 : Nat) ≤ 0 := Nat.le_refl 0
  show W p l e (rmo 1 0 0) s m ([.ref (Ad γ ad 5 a0)] : List Value).toArray below meth c s.heap [] 0 0 (MQ below (QI γ ad σ (b2i r)) ([.ref (Ad γ ad 5 a0)] : List Value).toArray s 0 0 (gA γ)) (entryFrame m ([.ref (Ad γ ad 5 a0)] : List Value).toArray 1)
  unfold f5_isAlive at hw
  refine rw_entry (ca1 rfl ca0) (Nat.le_of_ble_eq_true rfl) (fun ls hl1 => ?_)
  replace hl := hl1
  clear hl1
  refine rw_aload_n hX hl 0 rfl (Or.inr ⟨_, rfl⟩) dX4_isAlive_0 rfl ?_
  obtain ⟨h1, hw1⟩ := ck_lt hw
  replace hw := hw1
  clear hw1
  refine rw_get hX hR 5 1 a0 (C := RX4) (T := TX4) (N := 3) rfl (by decide) h1 rfl (v := .int (b2i (gb σ 501 a0))) rfl uw_X4 gw_611 rfl dX4_isAlive_1 ?_
  refine rw_ifeqZ (b := (gb σ 501 a0)) (tgt := 18) hX dX4_isAlive_4 (by decide) (fun c2 => ?_) (fun c2 => ?_)
  · replace hw := if_f hw c2
    refine lv_iconst (v := 0) hX.1.1 hX.1.2.1 dX4_isAlive_18 (by decide) ?_
    exact rq_z hX hR hr (v := false) rfl hw dX4_isAlive_19 hlocks
  · replace hw := if_t hw c2
    refine rw_aload_n hX hl 0 rfl (Or.inr ⟨_, rfl⟩) dX4_isAlive_7 rfl ?_
    refine rw_get hX hR 5 2 a0 (C := RX4) (T := TX4) (N := 3) rfl (by decide) h1 rfl (v := .int (b2i (gb σ 502 a0))) rfl uw_X4 gw_613 rfl dX4_isAlive_8 ?_
    refine rw_ifneZ (b := (gb σ 502 a0)) (tgt := 18) hX dX4_isAlive_11 (by decide) (fun c3 => ?_) (fun c3 => ?_)
    · replace hw := if_t hw c3
      refine lv_iconst (v := 0) hX.1.1 hX.1.2.1 dX4_isAlive_18 (by decide) ?_
      exact rq_z hX hR hr (v := false) rfl hw dX4_isAlive_19 hlocks
    · replace hw := if_f hw c3
      refine lv_iconst (v := 1) hX.1.1 hX.1.2.1 dX4_isAlive_14 (by decide) ?_
      refine lv_goto (tgt := 19) hX.1.1 hX.1.2.1 dX4_isAlive_15 (by decide) ?_
      exact rq_z hX hR hr (v := true) rfl hw dX4_isAlive_19 hlocks
set_option maxHeartbeats 8000000 in
set_option maxRecDepth 100000 in
theorem C_f7_canUse (l : Launch) (γ : GT) (ad : Nat → Nat → Nat) {fu : Nat} (a1 : (Option Nat)) (σ : St) (r : Bool) (hw : f7_canUse fu a1 σ = some r) : Met l yX6_canUse (Cond.code yX6_canUse cX6_canUse 2 (Option.some Jvm.ClassFile.FieldType.boolean) :: GW) (rmo 2 0 0) (va_Pc [.ref (gS γ 7 0), va_rf (Option.map (Ad γ ad 5) a1)] (RU γ ad σ)) (QI γ ad σ (b2i r)) 0 0 (gA γ) := by
  refine Met.ofW (cc := cX6_canUse) (maxL := 2) (ret := (Option.some Jvm.ClassFile.FieldType.boolean)) (by decide +kernel) rfl ?_
  intro p e s m args below meth c s₁ B hml hv
  obtain ⟨rfl, hU⟩ := hv
  obtain ⟨hX, hR⟩ := cx_of (own := RX6) B hml rfl hU
  have hr := B.returns
  have hlocks := B.notSynchronized
  have hc0 : (0 : Nat) ≤ 0 := Nat.le_refl 0
  show W p l e (rmo 2 0 0) s m ([.ref (gS γ 7 0), va_rf (Option.map (Ad γ ad 5) a1)] : List Value).toArray below meth c s.heap [] 0 0 (MQ below (QI γ ad σ (b2i r)) ([.ref (gS γ 7 0), va_rf (Option.map (Ad γ ad 5) a1)] : List Value).toArray s 0 0 (gA γ)) (entryFrame m ([.ref (gS γ 7 0), va_rf (Option.map (Ad γ ad 5) a1)] : List Value).toArray 2)
  unfold f7_canUse at hw
  refine rw_entry (ca1 rfl (ca1 (rf_cat _) ca0)) (Nat.le_of_ble_eq_true rfl) (fun ls hl1 => ?_)
  replace hl := hl1
  clear hl1
  refine rw_aload_n hX hl 1 rfl (va_rf_or _) dX6_canUse_0 rfl ?_
  obtain ⟨i1, e2, h3, hw1⟩ := dr_some hw
  replace hw := hw1
  clear hw1
  subst e2
  obtain ⟨v4, g6, hw1⟩ := ob1_some hw
  replace hw := hw1
  clear hw1
  refine rw_cVNi hX hR pk_f5_isAlive (mc := 0) (ms := 0) ⟨rfl, rfl, (show 1 + 1 ≤ 2 by omega), (show 8 + (1 + 11) + 64 * 1 ≤ 64 * 2 by omega)⟩ (As := []) (rest := []) rfl (C_f5_isAlive l γ ad i1 σ v4 g6) nw_647 gw_649 gs_32 (rs_recv hX hR 5 i1 (C := RX4) (T := TX4) (N := 3) rfl (by decide) h3 rfl) rfl hl.1 ca0 (Nat.le_of_ble_eq_true rfl) dX6_canUse_1 ⟨(show 0 + 0 ≤ 0 by omega), (show 0 + 0 ≤ 0 by omega)⟩ (fun H locs hR1 => ?_)
  replace hR := hR1
  clear hR1
  refine rw_ifeqZ (b := v4) (tgt := 18) hX dX6_canUse_4 (by decide) (fun c7 => ?_) (fun c7 => ?_)
  · replace hw := if_f hw c7
    refine lv_iconst (v := 0) hX.1.1 hX.1.2.1 dX6_canUse_18 (by decide) ?_
    refine W.widen (k := 0) (n := 0) (by omega) (by omega) ?_
    exact rq_z hX hR hr (v := false) rfl hw dX6_canUse_19 hlocks
  · replace hw := if_t hw c7
    refine rw_aload_n hX hl 0 rfl (Or.inr ⟨_, rfl⟩) dX6_canUse_7 rfl ?_
    refine rw_get hX hR 7 9 0 (C := RX6) (T := TX6) (N := 11) rfl (by decide) (Nat.le_of_ble_eq_true rfl) rfl (v := .int (b2i (gb σ 709 0))) rfl uw_X6 gw_158 rfl dX6_canUse_8 ?_
    refine rw_ifneZ (b := (gb σ 709 0)) (tgt := 18) hX dX6_canUse_11 (by decide) (fun c8 => ?_) (fun c8 => ?_)
    · replace hw := if_t hw c8
      refine lv_iconst (v := 0) hX.1.1 hX.1.2.1 dX6_canUse_18 (by decide) ?_
      refine W.widen (k := 0) (n := 0) (by omega) (by omega) ?_
      exact rq_z hX hR hr (v := false) rfl hw dX6_canUse_19 hlocks
    · replace hw := if_f hw c8
      refine lv_iconst (v := 1) hX.1.1 hX.1.2.1 dX6_canUse_14 (by decide) ?_
      refine lv_goto (tgt := 19) hX.1.1 hX.1.2.1 dX6_canUse_15 (by decide) ?_
      refine W.widen (k := 0) (n := 0) (by omega) (by omega) ?_
      exact rq_z hX hR hr (v := true) rfl hw dX6_canUse_19 hlocks
set_option maxHeartbeats 8000000 in
set_option maxRecDepth 100000 in
theorem C_f7_wakeForUse (l : Launch) (γ : GT) (ad : Nat → Nat → Nat) {fu : Nat} (a1 : (Option Nat)) (σ : St) (σ' : St) (hw : f7_wakeForUse fu a1 σ = some σ') : Met l yX6_wakeForUse (Cond.code yX6_wakeForUse cX6_wakeForUse 2 (Option.none : Option Jvm.ClassFile.FieldType) :: GW) (rmo 81 0 0) (va_Pc [.ref (gS γ 7 0), va_rf (Option.map (Ad γ ad 2) a1)] (RU γ ad σ)) (QV γ ad σ') 0 0 (gA γ) := by
  refine Met.ofW (cc := cX6_wakeForUse) (maxL := 2) (ret := (Option.none : Option Jvm.ClassFile.FieldType)) (by decide +kernel) rfl ?_
  intro p e s m args below meth c s₁ B hml hv
  obtain ⟨rfl, hU⟩ := hv
  obtain ⟨hX, hR⟩ := cx_of (own := RX6) B hml rfl hU
  have hr := B.returns
  have hlocks := B.notSynchronized
  have hc0 : (0 : Nat) ≤ 0 := Nat.le_refl 0
  show W p l e (rmo 81 0 0) s m ([.ref (gS γ 7 0), va_rf (Option.map (Ad γ ad 2) a1)] : List Value).toArray below meth c s.heap [] 0 0 (MQ below (QV γ ad σ') ([.ref (gS γ 7 0), va_rf (Option.map (Ad γ ad 2) a1)] : List Value).toArray s 0 0 (gA γ)) (entryFrame m ([.ref (gS γ 7 0), va_rf (Option.map (Ad γ ad 2) a1)] : List Value).toArray 2)
  unfold f7_wakeForUse at hw
  refine rw_entry (ca1 rfl (ca1 (rf_cat _) ca0)) (Nat.le_of_ble_eq_true rfl) (fun ls hl1 => ?_)
  replace hl := hl1
  clear hl1
  refine rw_aload_n hX hl 0 rfl (Or.inr ⟨_, rfl⟩) dX6_wakeForUse_0 rfl ?_
  refine rw_aload_n hX hl 1 rfl (va_rf_or _) dX6_wakeForUse_1 rfl ?_
  refine lv_iconst (v := 0) hX.1.1 hX.1.2.1 dX6_wakeForUse_2 (by decide) ?_
  obtain ⟨σ2, g3, hw1⟩ := ob1_some hw
  replace hw := hw1
  clear hw1
  refine rw_cVv hX hR pk_f7_wake (mc := 0) (ms := 0) ⟨rfl, rfl, (show 80 + 1 ≤ 81 by omega), (show 8 + (3 + 11) + 64 * 80 ≤ 64 * 81 by omega)⟩ (As := [va_rf (Option.map (Ad γ ad 2) a1), .int 0]) (rest := []) rfl (C_f7_wake l γ ad a1 0 σ σ2 g3) gw_461 gw_463 gs_18 (rs_recv hX hR 7 0 (C := RX6) (T := TX6) (N := 11) rfl (by decide) (Nat.le_of_ble_eq_true rfl) rfl) rfl hl.1 ca0 (Nat.le_of_ble_eq_true rfl) dX6_wakeForUse_3 ⟨(show 0 + 0 ≤ 0 by omega), (show 0 + 0 ≤ 0 by omega)⟩ (fun H locs hR1 => ?_)
  replace hR := hR1
  clear hR1
  refine rw_aload_n hX hl 1 rfl (va_rf_or _) dX6_wakeForUse_6 rfl ?_
  refine rw_aload_n hX hl 0 rfl (Or.inr ⟨_, rfl⟩) dX6_wakeForUse_7 rfl ?_
  refine rw_get hX hR 7 8 0 (C := RX6) (T := TX6) (N := 11) rfl (by decide) (Nat.le_of_ble_eq_true rfl) rfl (v := .int (gi σ2 708 0)) rfl uw_X6 gw_157 rfl dX6_wakeForUse_8 ?_
  obtain ⟨i4, e5, h6, hw1⟩ := dr_some hw
  replace hw := hw1
  clear hw1
  subst e5
  refine rw_putiN (x := (gi σ2 708 0)) hX hR 2 14 i4 214 (C := RX1) (T := TX1) (N := 18) rfl (by decide) rfl rfl h6 rfl uw_X1 tyX1 tyX1_ok nmX1 nw_366 rfl rfl (by decide) dX6_wakeForUse_11 (fun σ1 H locs e1 hR1 => ?_)
  replace hR := hR1
  clear hR1
  subst e1
  refine W.widen (k := 0) (n := 0) (by omega) (by omega) ?_
  exact rq_ve hX hR hr hw dX6_wakeForUse_14 hlocks
set_option maxHeartbeats 8000000 in
set_option maxRecDepth 100000 in
theorem C_f1_init (l : Launch) (γ : GT) (ad : Nat → Nat → Nat) {fu : Nat} (a0 : Nat) (a1 : (Option Nat)) (a2 : Int32) (σ : St) (σ' : St) (hw : f1_init fu a0 a1 a2 σ = some σ') : Met l yX0_init (Cond.code yX0_init cX0_init 3 (Option.none : Option Jvm.ClassFile.FieldType) :: GW) (rmo 2 0 0) (va_Pc [.ref (Ad γ ad 1 a0), va_rf (Option.map (Ad γ ad 5) a1), .int a2] (RU γ ad σ)) (QV γ ad σ') 0 0 (gA γ) := by
  refine Met.ofW (cc := cX0_init) (maxL := 3) (ret := (Option.none : Option Jvm.ClassFile.FieldType)) (by decide +kernel) rfl ?_
  intro p e s m args below meth c s₁ B hml hv
  obtain ⟨rfl, hU⟩ := hv
  obtain ⟨hX, hR⟩ := cx_of (own := RX0) B hml rfl hU
  have hr := B.returns
  have hlocks := B.notSynchronized
  have hin := (name_of_methodNamed B.named B.method).1
  have hc0 : (0 : Nat) ≤ 0 := Nat.le_refl 0
  show W p l e (rmo 2 0 0) s m ([.ref (Ad γ ad 1 a0), va_rf (Option.map (Ad γ ad 5) a1), .int a2] : List Value).toArray below meth c s.heap [] 0 0 (MQ below (QV γ ad σ') ([.ref (Ad γ ad 1 a0), va_rf (Option.map (Ad γ ad 5) a1), .int a2] : List Value).toArray s 0 0 (gA γ)) (entryFrame m ([.ref (Ad γ ad 1 a0), va_rf (Option.map (Ad γ ad 5) a1), .int a2] : List Value).toArray 3)
  unfold f1_init at hw
  refine rw_entry (ca1 rfl (ca1 (rf_cat _) (ca1 rfl ca0))) (Nat.le_of_ble_eq_true rfl) (fun ls hl1 => ?_)
  replace hl := hl1
  clear hl1
  refine rw_aload_n hX hl 0 rfl (Or.inr ⟨_, rfl⟩) dX0_init_0 rfl ?_
  refine W.objInit hX.1.1 hX.1.2.1 hX.1.2.2.2.1 (hX.1.2.2.2.2 _ gw_659) (hX.1.2.2.2.2 _ gw_31) (hX.1.2.2.2.2 _ gw_32) rfl (hl.1.1.trans hX.1.2.2.1.symm) rfl dX0_init_1 (Nat.le_of_ble_eq_true rfl) (Nat.le_of_ble_eq_true rfl) ?_
  refine rw_aload_n hX hl 0 rfl (Or.inr ⟨_, rfl⟩) dX0_init_4 rfl ?_
  refine lv_iconst (v := 0) hX.1.1 hX.1.2.1 dX0_init_5 (by decide) ?_
  obtain ⟨h1, hw1⟩ := ck_lt hw
  replace hw := hw1
  clear hw1
  refine rw_puti (x := 0) hX hR 1 2 a0 102 (C := RX0) (T := TX0) (N := 3) rfl (by decide) rfl rfl h1 rfl uw_X0 tyX0 tyX0_ok nmX0 gw_664 rfl rfl (by decide) dX0_init_6 (fun σ1 H locs e1 hR1 => ?_)
  replace hR := hR1
  clear hR1
  subst e1
  refine rw_aload_n hX hl 0 rfl (Or.inr ⟨_, rfl⟩) dX0_init_9 rfl ?_
  refine rw_aload_n hX hl 1 rfl (va_rf_or _) dX0_init_10 rfl ?_
  refine rw_putpF (E := "DriverMoor$Handle") (x := a1) hX hR 1 0 a0 100 (C := RX0) (T := TX0) (N := 3) rfl (by decide) rfl rfl h1 rfl uw_X0 tyX0 tyX0_ok nmX0 gw_660 rfl rfl hin rfl (by decide) dX0_init_11 (fun σ1 H locs e1 hR1 => ?_)
  replace hR := hR1
  clear hR1
  subst e1
  refine rw_aload_n hX hl 0 rfl (Or.inr ⟨_, rfl⟩) dX0_init_14 rfl ?_
  refine rw_iload_n hX hl 2 rfl dX0_init_15 rfl ?_
  refine rw_putiF (x := a2) hX hR 1 1 a0 101 (C := RX0) (T := TX0) (N := 3) rfl (by decide) rfl rfl h1 rfl uw_X0 tyX0 tyX0_ok nmX0 gw_662 rfl rfl hin rfl (by decide) dX0_init_16 (fun σ1 H locs e1 hR1 => ?_)
  replace hR := hR1
  clear hR1
  subst e1
  exact rq_ve hX hR hr hw dX0_init_19 hlocks
set_option maxHeartbeats 8000000 in
set_option maxRecDepth 100000 in
theorem C_f7_call (l : Launch) (hfl : l.stackTraces = false) (γ : GT) (ad : Nat → Nat → Nat) {fu : Nat} (a1 : Int32) (a2 : Int32) (σ : St) (r : Except Nat Int32) (σ' : St) (hw : f7_call fu a1 a2 σ = some (r, σ')) : vx_Met l yX6_call (Cond.code yX6_call cX6_call 5 (Option.some Jvm.ClassFile.FieldType.int) :: GW) (rmo 82 5 251) (va_Pc [.ref (gS γ 7 0), .int a1, .int a2] (RU γ ad σ)) (QXN γ σ' r) (QXX γ ad σ' r) 5 251 (gA γ) := by
  refine vx_ofW (cc := cX6_call) (maxL := 5) (ret := (Option.some Jvm.ClassFile.FieldType.int)) (by decide) rfl ?_
  intro p e s m args below meth c s₁ B hml hxt hv
  obtain ⟨rfl, hU⟩ := hv
  obtain ⟨hX, hR⟩ := cx_of (own := RX6) B hml rfl hU
  have hr := B.returns
  have hlocks := B.notSynchronized
  have hc0 : (0 : Nat) ≤ 0 := Nat.le_refl 0
  show W p l e (rmo 82 5 251) s m ([.ref (gS γ 7 0), .int a1, .int a2] : List Value).toArray below meth c s.heap [] 0 0 (vx_MQ below (QXN γ σ' r) (QXX γ ad σ' r) ([.ref (gS γ 7 0), .int a1, .int a2] : List Value).toArray s 5 251 (gA γ)) (entryFrame m ([.ref (gS γ 7 0), .int a1, .int a2] : List Value).toArray 5)
  unfold f7_call at hw
  refine rw_entry (ca1 rfl (ca1 rfl (ca1 rfl ca0))) (Nat.le_of_ble_eq_true rfl) (fun ls hl1 => ?_)
  replace hl := hl1
  clear hl1
  refine rw_aload_n hX hl 0 rfl (Or.inr ⟨_, rfl⟩) dX6_call_0 rfl ?_
  refine rw_iload_n hX hl 1 rfl dX6_call_1 rfl ?_
  obtain ⟨v1, g3, h4, h5⟩ := xb1_some hw
  refine rw_xVq hX hR pk_f7_knownHandle (mc := 1) (ms := 6) ⟨rfl, rfl, (show 15 + 1 ≤ 82 by omega), (show 8 + (2 + 11) + 64 * 15 ≤ 64 * 82 by omega)⟩ (As := [.int a1]) (rest := []) rfl (C_f7_knownHandle l hfl γ ad a1 σ v1 g3) gw_629 gw_631 gs_30 (rs_recv hX hR 7 0 (C := RX6) (T := TX6) (N := 11) rfl (by decide) (Nat.le_of_ble_eq_true rfl) rfl) rfl hl.1 ca0 (Nat.le_of_ble_eq_true rfl) dX6_call_2 ⟨(show 0 + 1 ≤ 5 by omega), (show 0 + 6 ≤ 251 by omega)⟩ (fun x ce q9 H locs hx hR1 h1 h2 h3 => ?_) (fun v1 H locs hx hR1 => ?_)
  · replace hR := hR1
    clear hR1
    replace hw := h4 x hx
    cases hw
    exact rx_out hX hR hxt rfl h1 h2 h3 hlocks (by omega) (by omega)
  replace hR := hR1
  clear hR1
  replace hw := h5 v1 hx
  refine rw_astore_n (lv' := [(3, va_rf (Option.map (Ad γ ad 5) v1)), (0, .ref (gS γ 7 0)), (1, .int a1), (2, .int a2)]) hX hl (by decide) rfl (va_rf_or _) dX6_call_5 rfl (fun ls hl1 => ?_)
  replace hl := hl1
  clear hl1
  refine rw_iload_n hX hl 3 rfl dX6_call_6 rfl ?_
  refine lv_iconst (v := 1) hX.1.1 hX.1.2.1 dX6_call_7 (by decide) ?_
  refine lv_bipush (v := 20) hX.1.1 hX.1.2.1 dX6_call_8 (by decide) ?_
  obtain ⟨v6, g8, hw1⟩ := ob1_some hw
  replace hw := hw1
  clear hw1
  refine rw_cSi hX hR pk_f7_isWithin (mc := 0) (ms := 0) ⟨rfl, rfl, (show 1 + 1 ≤ 82 by omega), (show 8 + (3 + 11) + 64 * 1 ≤ 64 * 82 by omega)⟩ (As := [.int a2, .int 1, .int 20]) (rest := []) rfl (C_f7_isWithin l γ ad a2 1 20 σ v6 g8) gw_297 gw_298 rfl hl.1 ca0 (Nat.le_of_ble_eq_true rfl) dX6_call_10 ⟨(show (0 + 1) + 0 ≤ 5 by omega), (show (0 + 6) + 0 ≤ 251 by omega)⟩ (fun H locs hR1 => ?_)
  replace hR := hR1
  clear hR1
  refine rw_ifneZ (b := v6) (tgt := 26) hX dX6_call_13 (by decide) (fun c9 => ?_) (fun c9 => ?_)
  · replace hw := if_t hw c9
    refine rw_aload_n hX hl 1 rfl (Or.inr ⟨_, rfl⟩) dX6_call_26 rfl ?_
    refine rw_aload_n hX hl 0 rfl (va_rf_or _) dX6_call_27 rfl ?_
    obtain ⟨v10, g12, hw1⟩ := ob1_some hw
    replace hw := hw1
    clear hw1
    refine rw_cVi hX hR pk_f7_canUse (mc := 0) (ms := 0) ⟨rfl, rfl, (show 2 + 1 ≤ 82 by omega), (show 8 + (2 + 11) + 64 * 2 ≤ 64 * 82 by omega)⟩ (As := [va_rf (Option.map (Ad γ ad 5) v1)]) (rest := []) rfl (C_f7_canUse l γ ad v1 σ v10 g12) gw_643 gw_645 gs_31 (rs_recv hX hR 7 0 (C := RX6) (T := TX6) (N := 11) rfl (by decide) (Nat.le_of_ble_eq_true rfl) rfl) rfl hl.1 ca0 (Nat.le_of_ble_eq_true rfl) dX6_call_28 ⟨(show ((0 + 1) + 0) + 0 ≤ 5 by omega), (show ((0 + 6) + 0) + 0 ≤ 251 by omega)⟩ (fun H locs hR1 => ?_)
    replace hR := hR1
    clear hR1
    refine rw_ifeqZ (b := v10) (tgt := 46) hX dX6_call_31 (by decide) (fun c13 => ?_) (fun c13 => ?_)
    · replace hw := if_f hw c13
      cases hw
      exact rw_throw (lv := [(3, va_rf (Option.map (Ad γ ad 5) v1)), (0, .ref (gS γ 7 0)), (1, .int a1), (2, .int a2)]) (text := "the handle is of no use, the world is suspended, or there were 100") hX hR hfl 3 74 211 78 rfl XN_fit3 XNS_fit gw_320 gw_19 (by decide +kernel) xa_3 xg_3 hl.1 hxt dX6_call_46 dX6_call_49 dX6_call_50 dX6_call_52 dX6_call_55 (Nat.le_of_ble_eq_true rfl) (Nat.le_of_ble_eq_true rfl) ⟨(show (((0 + 1) + 0) + 0) + 1 ≤ 5 by omega), (show (((0 + 6) + 0) + 0) + 6 ≤ 251 by omega)⟩ hlocks ⟨by omega, by omega⟩
    · replace hw := if_t hw c13
      refine rw_aload_n hX hl 1 rfl (Or.inr ⟨_, rfl⟩) dX6_call_34 rfl ?_
      refine rw_get hX hR 7 4 0 (C := RX6) (T := TX6) (N := 11) rfl (by decide) (Nat.le_of_ble_eq_true rfl) rfl (v := .ref (gS γ 0 4)) rfl uw_X6 gw_153 rfl dX6_call_35 ?_
      refine rw_cVi hX hR pk_lsize (mc := 0) (ms := 0) ⟨rfl, rfl, Nat.le_of_ble_eq_true rfl, Nat.le_of_ble_eq_true rfl⟩ (As := []) (rest := []) rfl (C_lsize l γ ad σ 4 (by decide)) gw_209 gw_210 gw_211 (rs_recvL hX hR 4 (by decide)) rfl hl.1 ca0 (Nat.le_of_ble_eq_true rfl) dX6_call_38 ⟨(show (((0 + 1) + 0) + 0) + 0 ≤ 5 by omega), (show (((0 + 6) + 0) + 0) + 0 ≤ 251 by omega)⟩ (fun H locs hR1 => ?_)
      replace hR := hR1
      clear hR1
      refine lv_bipush (v := 100) hX.1.1 hX.1.2.1 dX6_call_41 (by decide) ?_
      refine lv_icmp_lt (x := (nI (gl σ 4).length)) (y := 100) (tgt := 56) hX.1.1 hX.1.2.1 dX6_call_43 (by decide) (fun c14 => ?_) (fun c14 => ?_)
      · replace hw := if_t hw c14
        refine rw_aload_n hX hl 1 rfl (Or.inr ⟨_, rfl⟩) dX6_call_56 rfl ?_
        refine rw_aload_n hX hl 0 rfl (va_rf_or _) dX6_call_57 rfl ?_
        obtain ⟨i15, e16, h17, hw1⟩ := dr_some hw
        replace hw := hw1
        clear hw1
        subst e16
        obtain ⟨p18, q19⟩ : ∃ o, gp σ 500 i15 = o := ⟨_, rfl⟩
        replace hw := lt_eq hw q19
        refine rw_getN hX hR 5 0 i15 (C := RX4) (T := TX4) (N := 3) rfl (by decide) h17 rfl (v := va_rf (Option.map (Ad γ ad 2) p18)) (by rw [← q19]; rfl) uw_X4 nw_610 rfl dX6_call_58 ?_
        obtain ⟨σ21, g22, hw1⟩ := ob1_some hw
        replace hw := hw1
        clear hw1
        refine rw_cVv hX hR pk_f7_wakeForUse (mc := 0) (ms := 0) ⟨rfl, rfl, (show 81 + 1 ≤ 82 by omega), (show 8 + (2 + 11) + 64 * 81 ≤ 64 * 82 by omega)⟩ (As := [va_rf (Option.map (Ad γ ad 2) p18)]) (rest := []) rfl (C_f7_wakeForUse l γ ad p18 σ σ21 g22) gw_652 gw_654 gs_33 (rs_recv hX hR 7 0 (C := RX6) (T := TX6) (N := 11) rfl (by decide) (Nat.le_of_ble_eq_true rfl) rfl) rfl hl.1 ca0 (Nat.le_of_ble_eq_true rfl) dX6_call_61 ⟨(show ((((0 + 1) + 0) + 0) + 0) + 0 ≤ 5 by omega), (show ((((0 + 6) + 0) + 0) + 0) + 0 ≤ 251 by omega)⟩ (fun H locs hR1 => ?_)
        replace hR := hR1
        clear hR1
        refine rw_aload_n hX hl 1 rfl (Or.inr ⟨_, rfl⟩) dX6_call_64 rfl ?_
        refine rw_get hX hR 7 4 0 (C := RX6) (T := TX6) (N := 11) rfl (by decide) (Nat.le_of_ble_eq_true rfl) rfl (v := .ref (gS γ 0 4)) rfl uw_X6 gw_153 rfl dX6_call_65 ?_
        refine rw_cVi hX hR pk_lsize (mc := 0) (ms := 0) ⟨rfl, rfl, Nat.le_of_ble_eq_true rfl, Nat.le_of_ble_eq_true rfl⟩ (As := []) (rest := []) rfl (C_lsize l γ ad σ21 4 (by decide)) gw_209 gw_210 gw_211 (rs_recvL hX hR 4 (by decide)) rfl hl.1 ca0 (Nat.le_of_ble_eq_true rfl) dX6_call_68 ⟨(show (((((0 + 1) + 0) + 0) + 0) + 0) + 0 ≤ 5 by omega), (show (((((0 + 6) + 0) + 0) + 0) + 0) + 0 ≤ 251 by omega)⟩ (fun H locs hR1 => ?_)
        replace hR := hR1
        clear hR1
        refine rw_istore (lv' := [(4, .int (nI (gl σ21 4).length)), (3, .ref (Ad γ ad 5 i15)), (0, .ref (gS γ 7 0)), (1, .int a1), (2, .int a2)]) hX hl (by decide) rfl dX6_call_71 (fun ls hl1 => ?_)
        replace hl := hl1
        clear hl1
        refine rw_aload_n hX hl 2 rfl (Or.inr ⟨_, rfl⟩) dX6_call_73 rfl ?_
        refine rw_get hX hR 7 4 0 (C := RX6) (T := TX6) (N := 11) rfl (by decide) (Nat.le_of_ble_eq_true rfl) rfl (v := .ref (gS γ 0 4)) rfl uw_X6 gw_153 rfl dX6_call_74 ?_
        obtain ⟨h23, hw1⟩ := ck_lt hw
        replace hw := hw1
        clear hw1
        obtain ⟨h24, hw1⟩ := ckP_some hw
        replace hw := hw1
        clear hw1
        obtain ⟨n25, e26⟩ : ∃ i, gn σ21 1 = i := ⟨_, rfl⟩
        replace hw := lt_eq hw e26
        refine rw_new hX hR 1 tyX0 h24 rfl rfl rfl uw_X0 tyX0_ok (by decide +kernel) gw_512 gw_516 gw_23 ⟨(show ((((((0 + 1) + 0) + 0) + 0) + 0) + 0) + 1 ≤ 5 by omega), (show ((((((0 + 6) + 0) + 0) + 0) + 0) + 0) + 3 ≤ 251 by omega)⟩ dX6_call_77 (fun ad27 H hR1 hag => ?_)
        replace hR := hR1
        clear hR1
        rw [e26]
        rw [← hag 5 i15 h23] at hl
        refine lv_dup hX.1.1 hX.1.2.1 dX6_call_80 rfl ?_
        refine rw_aload_n hX hl 1 rfl (Or.inr ⟨_, rfl⟩) dX6_call_81 rfl ?_
        refine rw_aload_n hX hl 2 rfl (Or.inr ⟨_, rfl⟩) dX6_call_82 rfl ?_
        refine rw_get hX hR 7 8 0 (C := RX6) (T := TX6) (N := 11) rfl (by decide) (Nat.le_of_ble_eq_true rfl) rfl (v := .int (gi (zw σ21 1) 708 0)) rfl uw_X6 gw_157 rfl dX6_call_83 ?_
        refine rw_iload_n hX hl 4 rfl dX6_call_86 rfl ?_
        refine lv_iadd (x := (gi (zw σ21 1) 708 0)) (y := a2) hX.1.1 hX.1.2.1 dX6_call_87 ?_
        obtain ⟨h28, hw1⟩ := ck_lt hw
        replace hw := hw1
        clear hw1
        obtain ⟨σ30, g31, hw1⟩ := ob1_some hw
        replace hw := hw1
        clear hw1
        refine rw_cINv hX hR pk_f1_init (mc := 0) (ms := 0) ⟨rfl, rfl, (show 2 + 1 ≤ 82 by omega), (show 8 + (3 + 11) + 64 * 2 ≤ 64 * 82 by omega)⟩ (As := [va_rf (Option.map (Ad γ ad27 5) (some i15)), .int ((gi (zw σ21 1) 708 0) + a2)]) (rest := [.ref (Ad γ ad27 1 n25), .ref (gS γ 0 4)]) rfl (C_f1_init l γ ad27 n25 (some i15) ((gi (zw σ21 1) 708 0) + a2) (zw σ21 1) σ30 g31) nw_656 gw_657 rfl rfl hl.1 (ca1 rfl (ca1 rfl ca0)) (Nat.le_of_ble_eq_true rfl) dX6_call_88 ⟨(show (((((((0 + 1) + 0) + 0) + 0) + 0) + 0) + 1) + 0 ≤ 5 by omega), (show (((((((0 + 6) + 0) + 0) + 0) + 0) + 0) + 3) + 0 ≤ 251 by omega)⟩ (fun H locs hR1 => ?_)
        replace hR := hR1
        clear hR1
        obtain ⟨h32, hw1⟩ := ck_lt hw
        replace hw := hw1
        clear hw1
        obtain ⟨h33, hw1⟩ := ck_lt hw
        replace hw := hw1
        clear hw1
        obtain ⟨h34, hw1⟩ := ck_some hw
        replace hw := hw1
        clear hw1
        refine rw_cVi hX hR pk_ladd (mc := 1) (ms := 230) ⟨rfl, rfl, Nat.le_of_ble_eq_true rfl, Nat.le_of_ble_eq_true rfl⟩ (As := [.ref (Ad γ ad27 1 n25)]) (rest := []) rfl (C_ladd l γ ad27 σ30 4 n25 (by decide) h32 h34 h33) gw_90 gw_91 gw_92 (rs_recvL hX hR 4 (by decide)) rfl hl.1 ca0 (Nat.le_of_ble_eq_true rfl) dX6_call_91 ⟨(show ((((((((0 + 1) + 0) + 0) + 0) + 0) + 0) + 1) + 0) + 1 ≤ 5 by omega), (show ((((((((0 + 6) + 0) + 0) + 0) + 0) + 0) + 3) + 0) + 230 ≤ 251 by omega)⟩ (fun H locs hR1 => ?_)
        replace hR := hR1
        clear hR1
        refine lv_pop hX.1.1 hX.1.2.1 dX6_call_94 rfl ?_
        refine rw_iload hX hl 0 rfl dX6_call_95 ?_
        refine W.widen (k := 5) (n := 251) (by omega) (by omega) ?_
        exact ry_n hX hR hr hw dX6_call_97 hlocks
      · replace hw := if_f hw c14
        cases hw
        exact rw_throw (lv := [(3, va_rf (Option.map (Ad γ ad 5) v1)), (0, .ref (gS γ 7 0)), (1, .int a1), (2, .int a2)]) (text := "the handle is of no use, the world is suspended, or there were 100") hX hR hfl 3 74 211 78 rfl XN_fit3 XNS_fit gw_320 gw_19 (by decide +kernel) xa_3 xg_3 hl.1 hxt dX6_call_46 dX6_call_49 dX6_call_50 dX6_call_52 dX6_call_55 (Nat.le_of_ble_eq_true rfl) (Nat.le_of_ble_eq_true rfl) ⟨(show ((((0 + 1) + 0) + 0) + 0) + 1 ≤ 5 by omega), (show ((((0 + 6) + 0) + 0) + 0) + 6 ≤ 251 by omega)⟩ hlocks ⟨by omega, by omega⟩
  · replace hw := if_f hw c9
    cases hw
    exact rw_throw (lv := [(3, va_rf (Option.map (Ad γ ad 5) v1)), (0, .ref (gS γ 7 0)), (1, .int a1), (2, .int a2)]) (text := "ticks is out of range") hX hR hfl 2 61 205 65 rfl XN_fit2 XNS_fit gw_303 gw_18 (by decide +kernel) xa_2 xg_2 hl.1 hxt dX6_call_16 dX6_call_19 dX6_call_20 dX6_call_22 dX6_call_25 (Nat.le_of_ble_eq_true rfl) (Nat.le_of_ble_eq_true rfl) ⟨(show ((0 + 1) + 0) + 1 ≤ 5 by omega), (show ((0 + 6) + 0) + 6 ≤ 251 by omega)⟩ hlocks ⟨by omega, by omega⟩
set_option maxHeartbeats 8000000 in
set_option maxRecDepth 100000 in
theorem C_f7_set (l : Launch) (hfl : l.stackTraces = false) (γ : GT) (ad : Nat → Nat → Nat) {fu : Nat} (a1 : Int32) (a2 : Int32) (σ : St) (r : Except Nat Int32) (σ' : St) (hw : f7_set fu a1 a2 σ = some (r, σ')) : vx_Met l yX6_set (Cond.code yX6_set cX6_set 5 (Option.some Jvm.ClassFile.FieldType.int) :: GW) (rmo 82 3 18) (va_Pc [.ref (gS γ 7 0), .int a1, .int a2] (RU γ ad σ)) (QXI γ ad σ' r) (QXX γ ad σ' r) 3 18 (gA γ) := by
  refine vx_ofW (cc := cX6_set) (maxL := 5) (ret := (Option.some Jvm.ClassFile.FieldType.int)) (by decide) rfl ?_
  intro p e s m args below meth c s₁ B hml hxt hv
  obtain ⟨rfl, hU⟩ := hv
  obtain ⟨hX, hR⟩ := cx_of (own := RX6) B hml rfl hU
  have hr := B.returns
  have hlocks := B.notSynchronized
  have hc0 : (0 : Nat) ≤ 0 := Nat.le_refl 0
  show W p l e (rmo 82 3 18) s m ([.ref (gS γ 7 0), .int a1, .int a2] : List Value).toArray below meth c s.heap [] 0 0 (vx_MQ below (QXI γ ad σ' r) (QXX γ ad σ' r) ([.ref (gS γ 7 0), .int a1, .int a2] : List Value).toArray s 3 18 (gA γ)) (entryFrame m ([.ref (gS γ 7 0), .int a1, .int a2] : List Value).toArray 5)
  unfold f7_set at hw
  refine rw_entry (ca1 rfl (ca1 rfl (ca1 rfl ca0))) (Nat.le_of_ble_eq_true rfl) (fun ls hl1 => ?_)
  replace hl := hl1
  clear hl1
  refine rw_aload_n hX hl 0 rfl (Or.inr ⟨_, rfl⟩) dX6_set_0 rfl ?_
  refine rw_iload_n hX hl 1 rfl dX6_set_1 rfl ?_
  obtain ⟨v1, g3, h4, h5⟩ := xb1_some hw
  refine rw_xVq hX hR pk_f7_knownHandle (mc := 1) (ms := 6) ⟨rfl, rfl, (show 15 + 1 ≤ 82 by omega), (show 8 + (2 + 11) + 64 * 15 ≤ 64 * 82 by omega)⟩ (As := [.int a1]) (rest := []) rfl (C_f7_knownHandle l hfl γ ad a1 σ v1 g3) gw_629 gw_631 gs_30 (rs_recv hX hR 7 0 (C := RX6) (T := TX6) (N := 11) rfl (by decide) (Nat.le_of_ble_eq_true rfl) rfl) rfl hl.1 ca0 (Nat.le_of_ble_eq_true rfl) dX6_set_2 ⟨(show 0 + 1 ≤ 3 by omega), (show 0 + 6 ≤ 18 by omega)⟩ (fun x ce q9 H locs hx hR1 h1 h2 h3 => ?_) (fun v1 H locs hx hR1 => ?_)
  · replace hR := hR1
    clear hR1
    replace hw := h4 x hx
    cases hw
    exact rx_out hX hR hxt rfl h1 h2 h3 hlocks (by omega) (by omega)
  replace hR := hR1
  clear hR1
  replace hw := h5 v1 hx
  refine rw_astore_n (lv' := [(3, va_rf (Option.map (Ad γ ad 5) v1)), (0, .ref (gS γ 7 0)), (1, .int a1), (2, .int a2)]) hX hl (by decide) rfl (va_rf_or _) dX6_set_5 rfl (fun ls hl1 => ?_)
  replace hl := hl1
  clear hl1
  refine rw_iload_n hX hl 3 rfl dX6_set_6 rfl ?_
  refine lv_iconst (v := 0) hX.1.1 hX.1.2.1 dX6_set_7 (by decide) ?_
  refine lv_bipush (v := 99) hX.1.1 hX.1.2.1 dX6_set_8 (by decide) ?_
  obtain ⟨v6, g8, hw1⟩ := ob1_some hw
  replace hw := hw1
  clear hw1
  refine rw_cSi hX hR pk_f7_isWithin (mc := 0) (ms := 0) ⟨rfl, rfl, (show 1 + 1 ≤ 82 by omega), (show 8 + (3 + 11) + 64 * 1 ≤ 64 * 82 by omega)⟩ (As := [.int a2, .int 0, .int 99]) (rest := []) rfl (C_f7_isWithin l γ ad a2 0 99 σ v6 g8) gw_297 gw_298 rfl hl.1 ca0 (Nat.le_of_ble_eq_true rfl) dX6_set_10 ⟨(show (0 + 1) + 0 ≤ 3 by omega), (show (0 + 6) + 0 ≤ 18 by omega)⟩ (fun H locs hR1 => ?_)
  replace hR := hR1
  clear hR1
  refine rw_ifneZ (b := v6) (tgt := 26) hX dX6_set_13 (by decide) (fun c9 => ?_) (fun c9 => ?_)
  · replace hw := if_t hw c9
    refine rw_aload_n hX hl 1 rfl (Or.inr ⟨_, rfl⟩) dX6_set_26 rfl ?_
    refine rw_aload_n hX hl 0 rfl (va_rf_or _) dX6_set_27 rfl ?_
    obtain ⟨v10, g12, hw1⟩ := ob1_some hw
    replace hw := hw1
    clear hw1
    refine rw_cVi hX hR pk_f7_canUse (mc := 0) (ms := 0) ⟨rfl, rfl, (show 2 + 1 ≤ 82 by omega), (show 8 + (2 + 11) + 64 * 2 ≤ 64 * 82 by omega)⟩ (As := [va_rf (Option.map (Ad γ ad 5) v1)]) (rest := []) rfl (C_f7_canUse l γ ad v1 σ v10 g12) gw_643 gw_645 gs_31 (rs_recv hX hR 7 0 (C := RX6) (T := TX6) (N := 11) rfl (by decide) (Nat.le_of_ble_eq_true rfl) rfl) rfl hl.1 ca0 (Nat.le_of_ble_eq_true rfl) dX6_set_28 ⟨(show ((0 + 1) + 0) + 0 ≤ 3 by omega), (show ((0 + 6) + 0) + 0 ≤ 18 by omega)⟩ (fun H locs hR1 => ?_)
    replace hR := hR1
    clear hR1
    refine rw_ifneZ (b := v10) (tgt := 44) hX dX6_set_31 (by decide) (fun c13 => ?_) (fun c13 => ?_)
    · replace hw := if_t hw c13
      refine rw_aload_n hX hl 1 rfl (Or.inr ⟨_, rfl⟩) dX6_set_44 rfl ?_
      refine rw_aload_n hX hl 0 rfl (va_rf_or _) dX6_set_45 rfl ?_
      obtain ⟨i14, e15, h16, hw1⟩ := dr_some hw
      replace hw := hw1
      clear hw1
      subst e15
      obtain ⟨p17, q18⟩ : ∃ o, gp σ 500 i14 = o := ⟨_, rfl⟩
      replace hw := lt_eq hw q18
      refine rw_getN hX hR 5 0 i14 (C := RX4) (T := TX4) (N := 3) rfl (by decide) h16 rfl (v := va_rf (Option.map (Ad γ ad 2) p17)) (by rw [← q18]; rfl) uw_X4 nw_610 rfl dX6_set_46 ?_
      obtain ⟨σ20, g21, hw1⟩ := ob1_some hw
      replace hw := hw1
      clear hw1
      refine rw_cVv hX hR pk_f7_wakeForUse (mc := 0) (ms := 0) ⟨rfl, rfl, (show 81 + 1 ≤ 82 by omega), (show 8 + (2 + 11) + 64 * 81 ≤ 64 * 82 by omega)⟩ (As := [va_rf (Option.map (Ad γ ad 2) p17)]) (rest := []) rfl (C_f7_wakeForUse l γ ad p17 σ σ20 g21) gw_652 gw_654 gs_33 (rs_recv hX hR 7 0 (C := RX6) (T := TX6) (N := 11) rfl (by decide) (Nat.le_of_ble_eq_true rfl) rfl) rfl hl.1 ca0 (Nat.le_of_ble_eq_true rfl) dX6_set_49 ⟨(show (((0 + 1) + 0) + 0) + 0 ≤ 3 by omega), (show (((0 + 6) + 0) + 0) + 0 ≤ 18 by omega)⟩ (fun H locs hR1 => ?_)
      replace hR := hR1
      clear hR1
      refine rw_aload_n hX hl 0 rfl (Or.inr ⟨_, rfl⟩) dX6_set_52 rfl ?_
      obtain ⟨h22, hw1⟩ := ck_lt hw
      replace hw := hw1
      clear hw1
      obtain ⟨p23, q24⟩ : ∃ o, gp σ20 500 i14 = o := ⟨_, rfl⟩
      replace hw := lt_eq hw q24
      refine rw_getN hX hR 5 0 i14 (C := RX4) (T := TX4) (N := 3) rfl (by decide) h22 rfl (v := va_rf (Option.map (Ad γ ad 2) p23)) (by rw [← q24]; rfl) uw_X4 nw_610 rfl dX6_set_53 ?_
      obtain ⟨i25, e26, h27, hw1⟩ := dr_some hw
      replace hw := hw1
      clear hw1
      subst e26
      refine rw_getN hX hR 2 13 i25 (C := RX1) (T := TX1) (N := 18) rfl (by decide) h27 rfl (v := .int (gi σ20 213 i25)) rfl uw_X1 nw_365 rfl dX6_set_56 ?_
      refine rw_istore (lv' := [(4, .int (gi σ20 213 i25)), (3, .ref (Ad γ ad 5 i14)), (0, .ref (gS γ 7 0)), (1, .int a1), (2, .int a2)]) hX hl (by decide) rfl dX6_set_59 (fun ls hl1 => ?_)
      replace hl := hl1
      clear hl1
      refine rw_aload_n hX hl 1 rfl (Or.inr ⟨_, rfl⟩) dX6_set_61 rfl ?_
      obtain ⟨p28, q29⟩ : ∃ o, gp σ20 500 i14 = o := ⟨_, rfl⟩
      replace hw := lt_eq hw q29
      refine rw_getN hX hR 5 0 i14 (C := RX4) (T := TX4) (N := 3) rfl (by decide) h22 rfl (v := va_rf (Option.map (Ad γ ad 2) p28)) (by rw [← q29]; rfl) uw_X4 nw_610 rfl dX6_set_62 ?_
      refine rw_iload_n hX hl 4 rfl dX6_set_65 rfl ?_
      obtain ⟨i30, e31, h32, hw1⟩ := dr_some hw
      replace hw := hw1
      clear hw1
      subst e31
      refine rw_putiN (x := a2) hX hR 2 13 i30 213 (C := RX1) (T := TX1) (N := 18) rfl (by decide) rfl rfl h32 rfl uw_X1 tyX1 tyX1_ok nmX1 nw_365 rfl rfl (by decide) dX6_set_66 (fun σ1 H locs e1 hR1 => ?_)
      replace hR := hR1
      clear hR1
      subst e1
      refine rw_iload hX hl 0 rfl dX6_set_69 ?_
      refine W.widen (k := 3) (n := 18) (by omega) (by omega) ?_
      exact ry_ie hX hR hr hw dX6_set_71 hlocks
    · replace hw := if_f hw c13
      cases hw
      exact rw_throw (lv := [(3, va_rf (Option.map (Ad γ ad 5) v1)), (0, .ref (gS γ 7 0)), (1, .int a1), (2, .int a2)]) (text := "the handle is closed or dead, or the world is suspended") hX hR hfl 3 74 227 78 rfl XN_fit3 XNS_fit gw_320 gw_19 (by decide +kernel) xa_3 xg_3 hl.1 hxt dX6_set_34 dX6_set_37 dX6_set_38 dX6_set_40 dX6_set_43 (Nat.le_of_ble_eq_true rfl) (Nat.le_of_ble_eq_true rfl) ⟨(show (((0 + 1) + 0) + 0) + 1 ≤ 3 by omega), (show (((0 + 6) + 0) + 0) + 6 ≤ 18 by omega)⟩ hlocks ⟨by omega, by omega⟩
  · replace hw := if_f hw c9
    cases hw
    exact rw_throw (lv := [(3, va_rf (Option.map (Ad γ ad 5) v1)), (0, .ref (gS γ 7 0)), (1, .int a1), (2, .int a2)]) (text := "the value is out of range") hX hR hfl 2 61 225 65 rfl XN_fit2 XNS_fit gw_303 gw_18 (by decide +kernel) xa_2 xg_2 hl.1 hxt dX6_set_16 dX6_set_19 dX6_set_20 dX6_set_22 dX6_set_25 (Nat.le_of_ble_eq_true rfl) (Nat.le_of_ble_eq_true rfl) ⟨(show ((0 + 1) + 0) + 1 ≤ 3 by omega), (show ((0 + 6) + 0) + 6 ≤ 18 by omega)⟩ hlocks ⟨by omega, by omega⟩
set_option maxHeartbeats 8000000 in
set_option maxRecDepth 100000 in
theorem C_f7_get (l : Launch) (hfl : l.stackTraces = false) (γ : GT) (ad : Nat → Nat → Nat) {fu : Nat} (a1 : Int32) (σ : St) (r : Except Nat Int32) (σ' : St) (hw : f7_get fu a1 σ = some (r, σ')) : vx_Met l yX6_get (Cond.code yX6_get cX6_get 3 (Option.some Jvm.ClassFile.FieldType.int) :: GW) (rmo 82 2 12) (va_Pc [.ref (gS γ 7 0), .int a1] (RU γ ad σ)) (QXI γ ad σ' r) (QXX γ ad σ' r) 2 12 (gA γ) := by
  refine vx_ofW (cc := cX6_get) (maxL := 3) (ret := (Option.some Jvm.ClassFile.FieldType.int)) (by decide) rfl ?_
  intro p e s m args below meth c s₁ B hml hxt hv
  obtain ⟨rfl, hU⟩ := hv
  obtain ⟨hX, hR⟩ := cx_of (own := RX6) B hml rfl hU
  have hr := B.returns
  have hlocks := B.notSynchronized
  have hc0 : (0 : Nat) ≤ 0 := Nat.le_refl 0
  show W p l e (rmo 82 2 12) s m ([.ref (gS γ 7 0), .int a1] : List Value).toArray below meth c s.heap [] 0 0 (vx_MQ below (QXI γ ad σ' r) (QXX γ ad σ' r) ([.ref (gS γ 7 0), .int a1] : List Value).toArray s 2 12 (gA γ)) (entryFrame m ([.ref (gS γ 7 0), .int a1] : List Value).toArray 3)
  unfold f7_get at hw
  refine rw_entry (ca1 rfl (ca1 rfl ca0)) (Nat.le_of_ble_eq_true rfl) (fun ls hl1 => ?_)
  replace hl := hl1
  clear hl1
  refine rw_aload_n hX hl 0 rfl (Or.inr ⟨_, rfl⟩) dX6_get_0 rfl ?_
  refine rw_iload_n hX hl 1 rfl dX6_get_1 rfl ?_
  obtain ⟨v1, g3, h4, h5⟩ := xb1_some hw
  refine rw_xVq hX hR pk_f7_knownHandle (mc := 1) (ms := 6) ⟨rfl, rfl, (show 15 + 1 ≤ 82 by omega), (show 8 + (2 + 11) + 64 * 15 ≤ 64 * 82 by omega)⟩ (As := [.int a1]) (rest := []) rfl (C_f7_knownHandle l hfl γ ad a1 σ v1 g3) gw_629 gw_631 gs_30 (rs_recv hX hR 7 0 (C := RX6) (T := TX6) (N := 11) rfl (by decide) (Nat.le_of_ble_eq_true rfl) rfl) rfl hl.1 ca0 (Nat.le_of_ble_eq_true rfl) dX6_get_2 ⟨(show 0 + 1 ≤ 2 by omega), (show 0 + 6 ≤ 12 by omega)⟩ (fun x ce q9 H locs hx hR1 h1 h2 h3 => ?_) (fun v1 H locs hx hR1 => ?_)
  · replace hR := hR1
    clear hR1
    replace hw := h4 x hx
    cases hw
    exact rx_out hX hR hxt rfl h1 h2 h3 hlocks (by omega) (by omega)
  replace hR := hR1
  clear hR1
  replace hw := h5 v1 hx
  refine rw_astore_n (lv' := [(2, va_rf (Option.map (Ad γ ad 5) v1)), (0, .ref (gS γ 7 0)), (1, .int a1)]) hX hl (by decide) rfl (va_rf_or _) dX6_get_5 rfl (fun ls hl1 => ?_)
  replace hl := hl1
  clear hl1
  refine rw_aload_n hX hl 1 rfl (Or.inr ⟨_, rfl⟩) dX6_get_6 rfl ?_
  refine rw_aload_n hX hl 0 rfl (va_rf_or _) dX6_get_7 rfl ?_
  obtain ⟨v6, g8, hw1⟩ := ob1_some hw
  replace hw := hw1
  clear hw1
  refine rw_cVi hX hR pk_f7_canUse (mc := 0) (ms := 0) ⟨rfl, rfl, (show 2 + 1 ≤ 82 by omega), (show 8 + (2 + 11) + 64 * 2 ≤ 64 * 82 by omega)⟩ (As := [va_rf (Option.map (Ad γ ad 5) v1)]) (rest := []) rfl (C_f7_canUse l γ ad v1 σ v6 g8) gw_643 gw_645 gs_31 (rs_recv hX hR 7 0 (C := RX6) (T := TX6) (N := 11) rfl (by decide) (Nat.le_of_ble_eq_true rfl) rfl) rfl hl.1 ca0 (Nat.le_of_ble_eq_true rfl) dX6_get_8 ⟨(show (0 + 1) + 0 ≤ 2 by omega), (show (0 + 6) + 0 ≤ 12 by omega)⟩ (fun H locs hR1 => ?_)
  replace hR := hR1
  clear hR1
  refine rw_ifneZ (b := v6) (tgt := 24) hX dX6_get_11 (by decide) (fun c9 => ?_) (fun c9 => ?_)
  · replace hw := if_t hw c9
    refine rw_aload_n hX hl 1 rfl (Or.inr ⟨_, rfl⟩) dX6_get_24 rfl ?_
    refine rw_aload_n hX hl 0 rfl (va_rf_or _) dX6_get_25 rfl ?_
    obtain ⟨i10, e11, h12, hw1⟩ := dr_some hw
    replace hw := hw1
    clear hw1
    subst e11
    obtain ⟨p13, q14⟩ : ∃ o, gp σ 500 i10 = o := ⟨_, rfl⟩
    replace hw := lt_eq hw q14
    refine rw_getN hX hR 5 0 i10 (C := RX4) (T := TX4) (N := 3) rfl (by decide) h12 rfl (v := va_rf (Option.map (Ad γ ad 2) p13)) (by rw [← q14]; rfl) uw_X4 nw_610 rfl dX6_get_26 ?_
    obtain ⟨σ16, g17, hw1⟩ := ob1_some hw
    replace hw := hw1
    clear hw1
    refine rw_cVv hX hR pk_f7_wakeForUse (mc := 0) (ms := 0) ⟨rfl, rfl, (show 81 + 1 ≤ 82 by omega), (show 8 + (2 + 11) + 64 * 81 ≤ 64 * 82 by omega)⟩ (As := [va_rf (Option.map (Ad γ ad 2) p13)]) (rest := []) rfl (C_f7_wakeForUse l γ ad p13 σ σ16 g17) gw_652 gw_654 gs_33 (rs_recv hX hR 7 0 (C := RX6) (T := TX6) (N := 11) rfl (by decide) (Nat.le_of_ble_eq_true rfl) rfl) rfl hl.1 ca0 (Nat.le_of_ble_eq_true rfl) dX6_get_29 ⟨(show ((0 + 1) + 0) + 0 ≤ 2 by omega), (show ((0 + 6) + 0) + 0 ≤ 12 by omega)⟩ (fun H locs hR1 => ?_)
    replace hR := hR1
    clear hR1
    refine rw_aload_n hX hl 0 rfl (Or.inr ⟨_, rfl⟩) dX6_get_32 rfl ?_
    obtain ⟨h18, hw1⟩ := ck_lt hw
    replace hw := hw1
    clear hw1
    obtain ⟨p19, q20⟩ : ∃ o, gp σ16 500 i10 = o := ⟨_, rfl⟩
    replace hw := lt_eq hw q20
    refine rw_getN hX hR 5 0 i10 (C := RX4) (T := TX4) (N := 3) rfl (by decide) h18 rfl (v := va_rf (Option.map (Ad γ ad 2) p19)) (by rw [← q20]; rfl) uw_X4 nw_610 rfl dX6_get_33 ?_
    obtain ⟨i21, e22, h23, hw1⟩ := dr_some hw
    replace hw := hw1
    clear hw1
    subst e22
    refine rw_getN hX hR 2 13 i21 (C := RX1) (T := TX1) (N := 18) rfl (by decide) h23 rfl (v := .int (gi σ16 213 i21)) rfl uw_X1 nw_365 rfl dX6_get_36 ?_
    refine W.widen (k := 2) (n := 12) (by omega) (by omega) ?_
    exact ry_ie hX hR hr hw dX6_get_39 hlocks
  · replace hw := if_f hw c9
    cases hw
    exact rw_throw (lv := [(2, va_rf (Option.map (Ad γ ad 5) v1)), (0, .ref (gS γ 7 0)), (1, .int a1)]) (text := "the handle is closed or dead, or the world is suspended") hX hR hfl 3 74 227 78 rfl XN_fit3 XNS_fit gw_320 gw_19 (by decide +kernel) xa_3 xg_3 hl.1 hxt dX6_get_14 dX6_get_17 dX6_get_18 dX6_get_20 dX6_get_23 (Nat.le_of_ble_eq_true rfl) (Nat.le_of_ble_eq_true rfl) ⟨(show ((0 + 1) + 0) + 1 ≤ 2 by omega), (show ((0 + 6) + 0) + 6 ≤ 12 by omega)⟩ hlocks ⟨by omega, by omega⟩
set_option maxHeartbeats 8000000 in
set_option maxRecDepth 100000 in
theorem C_f7_lowestFreeSlot (l : Launch) (γ : GT) (ad : Nat → Nat → Nat) {fu : Nat} (σ : St) (r : Int32) (hw : f7_lowestFreeSlot fu σ = some r) : Met l yX6_lowestFreeSlot (Cond.code yX6_lowestFreeSlot cX6_lowestFreeSlot 2 (Option.some Jvm.ClassFile.FieldType.int) :: GW) (rmo 15 0 0) (va_Pc [.ref (gS γ 7 0)] (RU γ ad σ)) (QI γ ad σ r) 0 0 (gA γ) := by
  refine Met.ofW (cc := cX6_lowestFreeSlot) (maxL := 2) (ret := (Option.some Jvm.ClassFile.FieldType.int)) (by decide +kernel) rfl ?_
  intro p e s m args below meth c s₁ B hml hv
  obtain ⟨rfl, hU⟩ := hv
  obtain ⟨hX, hR⟩ := cx_of (own := RX6) B hml rfl hU
  have hr := B.returns
  have hlocks := B.notSynchronized
  have hc0 : (0 : Nat) ≤ 0 := Nat.le_refl 0
  show W p l e (rmo 15 0 0) s m ([.ref (gS γ 7 0)] : List Value).toArray below meth c s.heap [] 0 0 (MQ below (QI γ ad σ r) ([.ref (gS γ 7 0)] : List Value).toArray s 0 0 (gA γ)) (entryFrame m ([.ref (gS γ 7 0)] : List Value).toArray 2)
  unfold f7_lowestFreeSlot at hw
  have L2 : ∀ (n : Nat) (s9 : Int32) (cells slots : Nat), cells ≤ 0 → slots ≤ 0 → ∀ (H : Heap) (locs : List Loc) (ls : Array Slot), lp (fun s8 => f7_lowestFreeSlot_b2 fu s8 σ) n s9 = some r → RS γ ad σ s H locs → lh ls 2 [(0, .ref (gS γ 7 0)), (1, .int s9)] → W p l e (rmo 15 0 0) s m ([.ref (gS γ 7 0)] : List Value).toArray below meth c H locs cells slots (MQ below (QI γ ad σ r) ([.ref (gS γ 7 0)] : List Value).toArray s 0 0 (gA γ)) (F0 m 2 ls []) := by
    intro n2
    induction n2 with
    | zero => intro s9 cells slots hc1 hc2 H locs ls hw hR hl; exact (lp_zero hw).elim
    | succ n2 ih2 =>
      intro x1 cells slots hc1 hc2 H locs ls hw hR hl
      obtain ⟨o2, hw1, hb2, ho2⟩ := lp_succ hw
      replace hw := hw1
      clear hw1
      replace hw : f7_lowestFreeSlot_b2 fu x1 σ = some o2 := hw
      replace hl : lh ls 2 [(0, .ref (gS γ 7 0)), (1, .int x1)] := hl
      unfold f7_lowestFreeSlot_b2 at hw
      refine rw_iload_n hX hl 1 rfl dX6_lowestFreeSlot_2 rfl ?_
      refine rw_aload_n hX hl 0 rfl (Or.inr ⟨_, rfl⟩) dX6_lowestFreeSlot_3 rfl ?_
      refine rw_get hX hR 7 5 0 (C := RX6) (T := TX6) (N := 11) rfl (by decide) (Nat.le_of_ble_eq_true rfl) rfl (v := .ref (gS γ 0 5)) rfl uw_X6 gw_154 rfl dX6_lowestFreeSlot_4 ?_
      refine rw_cVi hX hR pk_lsize (mc := 0) (ms := 0) ⟨rfl, rfl, Nat.le_of_ble_eq_true rfl, Nat.le_of_ble_eq_true rfl⟩ (As := []) (rest := [.int x1]) rfl (C_lsize l γ ad σ 5 (by decide)) gw_209 gw_210 gw_211 (rs_recvL hX hR 5 (by decide)) rfl hl.1 (ca1 rfl ca0) (Nat.le_of_ble_eq_true rfl) dX6_lowestFreeSlot_7 ⟨(show cells + 0 ≤ 0 by omega), (show slots + 0 ≤ 0 by omega)⟩ (fun H locs hR1 => ?_)
      replace hR := hR1
      clear hR1
      refine lv_icmp_ge (x := x1) (y := (nI (gl σ 5).length)) (tgt := 38) hX.1.1 hX.1.2.1 dX6_lowestFreeSlot_10 (by decide) (fun c1 => ?_) (fun c1 => ?_)
      · replace hw := if_t hw c1
        replace hw := lp_out hw ho2
        refine lv_iconst (v := (-1)) hX.1.1 hX.1.2.1 dX6_lowestFreeSlot_38 (by decide) ?_
        refine W.widen (k := 0) (n := 0) (by omega) (by omega) ?_
        exact rq_i hX hR hr hw dX6_lowestFreeSlot_39 hlocks
      · replace hw := if_f hw c1
        refine rw_aload_n hX hl 0 rfl (Or.inr ⟨_, rfl⟩) dX6_lowestFreeSlot_13 rfl ?_
        refine rw_get hX hR 7 5 0 (C := RX6) (T := TX6) (N := 11) rfl (by decide) (Nat.le_of_ble_eq_true rfl) rfl (v := .ref (gS γ 0 5)) rfl uw_X6 gw_154 rfl dX6_lowestFreeSlot_14 ?_
        refine rw_iload_n hX hl 1 rfl dX6_lowestFreeSlot_17 rfl ?_
        obtain ⟨h3, k2, h4, h5, hw1⟩ := lg_some hw
        replace hw := hw1
        clear hw1
        refine rw_cVq (r := some k2) (k := 6) hX hR pk_lget (mc := 0) (ms := 0) ⟨rfl, rfl, Nat.le_of_ble_eq_true rfl, Nat.le_of_ble_eq_true rfl⟩ (As := [.int x1]) (rest := []) rfl (C_lget l γ ad σ 5 x1 k2 (by decide) h3 h4) gw_281 gw_282 gw_283 (rs_recvL hX hR 5 (by decide)) rfl hl.1 ca0 (Nat.le_of_ble_eq_true rfl) dX6_lowestFreeSlot_18 ⟨(show (cells + 0) + 0 ≤ 0 by omega), (show (slots + 0) + 0 ≤ 0 by omega)⟩ (fun H locs hR1 => ?_)
        replace hR := hR1
        clear hR1
        refine va_castS (a := Ad γ ad 6 k2) (nm := RX5) hX.1.1 hX.1.2.1 hX.1.2.2.2.1 (hX.1.2.2.2.2 _ gw_77) (hX.2.1.1 6 (RX5, TX5, 2) rfl).2 (rs_recv hX hR 6 k2 (C := RX5) (T := TX5) (N := 2) rfl (by decide) h5 rfl) dX6_lowestFreeSlot_21 ?_
        obtain ⟨p6, q7⟩ : ∃ o, gp σ 600 k2 = o := ⟨_, rfl⟩
        replace hw := lt_eq hw q7
        refine rw_getN hX hR 6 0 k2 (C := RX5) (T := TX5) (N := 2) rfl (by decide) h5 rfl (v := va_rf (Option.map (Ad γ ad 2) p6)) (by rw [← q7]; rfl) uw_X5 nw_83 rfl dX6_lowestFreeSlot_24 ?_
        refine rw_ifnonnull hX (o := p6) (g := Ad γ ad 2) (tgt := 32) dX6_lowestFreeSlot_27 (by decide) (fun c8 => ?_) (fun c8 => ?_)
        · replace hw := if_f hw c8
          refine rw_iinc (k := 1) (v := (x1 + 1)) (lv' := [(1, .int (x1 + 1)), (0, .ref (gS γ 7 0))]) hX hl rfl (congrArg (fun q => x1 + q) (show Int32.ofInt 1 = 1 by decide)) (by decide) rfl dX6_lowestFreeSlot_32 (fun ls hl1 => ?_)
          replace hl := hl1
          clear hl1
          refine lv_goto (tgt := 2) hX.1.1 hX.1.2.1 dX6_lowestFreeSlot_35 (by decide) ?_
          exact ih2 _ _ _ (by omega) (by omega) _ _ _ (lp_back hw hb2) hR (lh_sub hl [1, 0] rfl)
        · replace hw := if_t hw c8
          replace hw := lp_out hw ho2
          refine rw_iload_n hX hl 1 rfl dX6_lowestFreeSlot_30 rfl ?_
          refine W.widen (k := 0) (n := 0) (by omega) (by omega) ?_
          exact rq_i hX hR hr hw dX6_lowestFreeSlot_31 hlocks
  refine rw_entry (ca1 rfl ca0) (Nat.le_of_ble_eq_true rfl) (fun ls hl1 => ?_)
  replace hl := hl1
  clear hl1
  refine lv_iconst (v := 0) hX.1.1 hX.1.2.1 dX6_lowestFreeSlot_0 (by decide) ?_
  refine rw_istore_n (lv' := [(1, .int 0), (0, .ref (gS γ 7 0))]) hX hl (by decide) rfl dX6_lowestFreeSlot_1 rfl (fun ls hl1 => ?_)
  replace hl := hl1
  clear hl1
  exact L2 _ _ _ _ (by omega) (by omega) _ _ _ hw hR (lh_sub hl [1, 0] rfl)
set_option maxHeartbeats 8000000 in
set_option maxRecDepth 100000 in
theorem C_f7_knownSlot (l : Launch) (hfl : l.stackTraces = false) (γ : GT) (ad : Nat → Nat → Nat) {fu : Nat} (a1 : Int32) (σ : St) (r : Except Nat (Option Nat)) (hw : f7_knownSlot fu a1 σ = some r) : vx_Met l yX6_knownSlot (Cond.code yX6_knownSlot cX6_knownSlot 2 (Option.some (Jvm.ClassFile.FieldType.object "DriverMoor$Slot")) :: GW) (rmo 15 1 6) (va_Pc [.ref (gS γ 7 0), .int a1] (RU γ ad σ)) (QXR γ ad 6 σ r) (QXX γ ad σ r) 1 6 (gA γ) := by
  refine vx_ofW (cc := cX6_knownSlot) (maxL := 2) (ret := (Option.some (Jvm.ClassFile.FieldType.object "DriverMoor$Slot"))) (by decide) rfl ?_
  intro p e s m args below meth c s₁ B hml hxt hv
  obtain ⟨rfl, hU⟩ := hv
  obtain ⟨hX, hR⟩ := cx_of (own := RX6) B hml rfl hU
  have hr := B.returns
  have hlocks := B.notSynchronized
  have hc0 : (0 : Nat) ≤ 0 := Nat.le_refl 0
  show W p l e (rmo 15 1 6) s m ([.ref (gS γ 7 0), .int a1] : List Value).toArray below meth c s.heap [] 0 0 (vx_MQ below (QXR γ ad 6 σ r) (QXX γ ad σ r) ([.ref (gS γ 7 0), .int a1] : List Value).toArray s 1 6 (gA γ)) (entryFrame m ([.ref (gS γ 7 0), .int a1] : List Value).toArray 2)
  unfold f7_knownSlot at hw
  refine rw_entry (ca1 rfl (ca1 rfl ca0)) (Nat.le_of_ble_eq_true rfl) (fun ls hl1 => ?_)
  replace hl := hl1
  clear hl1
  refine rw_iload_n hX hl 1 rfl dX6_knownSlot_0 rfl ?_
  refine lv_if_lt (x := a1) (tgt := 15) hX.1.1 hX.1.2.1 dX6_knownSlot_1 (by decide) (fun c1 => ?_) (fun c1 => ?_)
  · replace hw := if_t hw c1
    exact rw_throwW (lv := [(0, .ref (gS γ 7 0)), (1, .int a1)]) (text := "there is no such slot") hX hR hfl 1 136 352 140 (Option.some.inj hw).symm XN_fit1 XNS_fit gw_213 gw_15 (by decide +kernel) xa_1 xg_1 hl.1 hxt dX6_knownSlot_15 dX6_knownSlot_18 dX6_knownSlot_19 dX6_knownSlot_22 dX6_knownSlot_25 (Nat.le_of_ble_eq_true rfl) (Nat.le_of_ble_eq_true rfl) ⟨(show 0 + 1 ≤ 1 by omega), (show 0 + 6 ≤ 6 by omega)⟩ hlocks ⟨by omega, by omega⟩
  · replace hw := if_f hw c1
    refine rw_iload_n hX hl 1 rfl dX6_knownSlot_4 rfl ?_
    refine rw_aload_n hX hl 0 rfl (Or.inr ⟨_, rfl⟩) dX6_knownSlot_5 rfl ?_
    refine rw_get hX hR 7 5 0 (C := RX6) (T := TX6) (N := 11) rfl (by decide) (Nat.le_of_ble_eq_true rfl) rfl (v := .ref (gS γ 0 5)) rfl uw_X6 gw_154 rfl dX6_knownSlot_6 ?_
    refine rw_cVi hX hR pk_lsize (mc := 0) (ms := 0) ⟨rfl, rfl, Nat.le_of_ble_eq_true rfl, Nat.le_of_ble_eq_true rfl⟩ (As := []) (rest := [.int a1]) rfl (C_lsize l γ ad σ 5 (by decide)) gw_209 gw_210 gw_211 (rs_recvL hX hR 5 (by decide)) rfl hl.1 (ca1 rfl ca0) (Nat.le_of_ble_eq_true rfl) dX6_knownSlot_9 ⟨(show 0 + 0 ≤ 1 by omega), (show 0 + 0 ≤ 6 by omega)⟩ (fun H locs hR1 => ?_)
    replace hR := hR1
    clear hR1
    refine lv_icmp_lt (x := a1) (y := (nI (gl σ 5).length)) (tgt := 26) hX.1.1 hX.1.2.1 dX6_knownSlot_12 (by decide) (fun c2 => ?_) (fun c2 => ?_)
    · replace hw := if_t hw c2
      refine rw_aload_n hX hl 0 rfl (Or.inr ⟨_, rfl⟩) dX6_knownSlot_26 rfl ?_
      refine rw_get hX hR 7 5 0 (C := RX6) (T := TX6) (N := 11) rfl (by decide) (Nat.le_of_ble_eq_true rfl) rfl (v := .ref (gS γ 0 5)) rfl uw_X6 gw_154 rfl dX6_knownSlot_27 ?_
      refine rw_iload_n hX hl 1 rfl dX6_knownSlot_30 rfl ?_
      obtain ⟨h4, k3, h5, h6, hw1⟩ := lg_some hw
      replace hw := hw1
      clear hw1
      refine rw_cVq (r := some k3) (k := 6) hX hR pk_lget (mc := 0) (ms := 0) ⟨rfl, rfl, Nat.le_of_ble_eq_true rfl, Nat.le_of_ble_eq_true rfl⟩ (As := [.int a1]) (rest := []) rfl (C_lget l γ ad σ 5 a1 k3 (by decide) h4 h5) gw_281 gw_282 gw_283 (rs_recvL hX hR 5 (by decide)) rfl hl.1 ca0 (Nat.le_of_ble_eq_true rfl) dX6_knownSlot_31 ⟨(show (0 + 0) + 0 ≤ 1 by omega), (show (0 + 0) + 0 ≤ 6 by omega)⟩ (fun H locs hR1 => ?_)
      replace hR := hR1
      clear hR1
      refine va_castS (a := Ad γ ad 6 k3) (nm := RX5) hX.1.1 hX.1.2.1 hX.1.2.2.2.1 (hX.1.2.2.2.2 _ gw_77) (hX.2.1.1 6 (RX5, TX5, 2) rfl).2 (rs_recv hX hR 6 k3 (C := RX5) (T := TX5) (N := 2) rfl (by decide) h6 rfl) dX6_knownSlot_34 ?_
      refine W.widen (k := 1) (n := 6) (by omega) (by omega) ?_
      exact ry_q hX hR hr (k := 6) hw dX6_knownSlot_37 hlocks
    · replace hw := if_f hw c2
      exact rw_throwW (lv := [(0, .ref (gS γ 7 0)), (1, .int a1)]) (text := "there is no such slot") hX hR hfl 1 136 352 140 (Option.some.inj hw).symm XN_fit1 XNS_fit gw_213 gw_15 (by decide +kernel) xa_1 xg_1 hl.1 hxt dX6_knownSlot_15 dX6_knownSlot_18 dX6_knownSlot_19 dX6_knownSlot_22 dX6_knownSlot_25 (Nat.le_of_ble_eq_true rfl) (Nat.le_of_ble_eq_true rfl) ⟨(show (0 + 0) + 1 ≤ 1 by omega), (show (0 + 0) + 6 ≤ 6 by omega)⟩ hlocks ⟨by omega, by omega⟩
set_option maxHeartbeats 8000000 in
set_option maxRecDepth 100000 in
theorem C_f7_map (l : Launch) (hfl : l.stackTraces = false) (γ : GT) (ad : Nat → Nat → Nat) {fu : Nat} (a1 : Int32) (a2 : Int32) (σ : St) (r : Except Nat Int32) (σ' : St) (hw : f7_map fu a1 a2 σ = some (r, σ')) : vx_Met l yX6_map (Cond.code yX6_map cX6_map 6 (Option.some Jvm.ClassFile.FieldType.int) :: GW) (rmo 16 4 24) (va_Pc [.ref (gS γ 7 0), .int a1, .int a2] (RU γ ad σ)) (QXI γ ad σ' r) (QXX γ ad σ' r) 4 24 (gA γ) := by
  refine vx_ofW (cc := cX6_map) (maxL := 6) (ret := (Option.some Jvm.ClassFile.FieldType.int)) (by decide) rfl ?_
  intro p e s m args below meth c s₁ B hml hxt hv
  obtain ⟨rfl, hU⟩ := hv
  obtain ⟨hX, hR⟩ := cx_of (own := RX6) B hml rfl hU
  have hr := B.returns
  have hlocks := B.notSynchronized
  have hc0 : (0 : Nat) ≤ 0 := Nat.le_refl 0
  show W p l e (rmo 16 4 24) s m ([.ref (gS γ 7 0), .int a1, .int a2] : List Value).toArray below meth c s.heap [] 0 0 (vx_MQ below (QXI γ ad σ' r) (QXX γ ad σ' r) ([.ref (gS γ 7 0), .int a1, .int a2] : List Value).toArray s 4 24 (gA γ)) (entryFrame m ([.ref (gS γ 7 0), .int a1, .int a2] : List Value).toArray 6)
  unfold f7_map at hw
  refine rw_entry (ca1 rfl (ca1 rfl (ca1 rfl ca0))) (Nat.le_of_ble_eq_true rfl) (fun ls hl1 => ?_)
  replace hl := hl1
  clear hl1
  refine rw_aload_n hX hl 0 rfl (Or.inr ⟨_, rfl⟩) dX6_map_0 rfl ?_
  refine rw_iload_n hX hl 1 rfl dX6_map_1 rfl ?_
  obtain ⟨v1, g3, h4, h5⟩ := xb1_some hw
  refine rw_xVq hX hR pk_f7_knownHandle (mc := 1) (ms := 6) ⟨rfl, rfl, (show 15 + 1 ≤ 16 by omega), (show 8 + (2 + 11) + 64 * 15 ≤ 64 * 16 by omega)⟩ (As := [.int a1]) (rest := []) rfl (C_f7_knownHandle l hfl γ ad a1 σ v1 g3) gw_629 gw_631 gs_30 (rs_recv hX hR 7 0 (C := RX6) (T := TX6) (N := 11) rfl (by decide) (Nat.le_of_ble_eq_true rfl) rfl) rfl hl.1 ca0 (Nat.le_of_ble_eq_true rfl) dX6_map_2 ⟨(show 0 + 1 ≤ 4 by omega), (show 0 + 6 ≤ 24 by omega)⟩ (fun x ce q9 H locs hx hR1 h1 h2 h3 => ?_) (fun v1 H locs hx hR1 => ?_)
  · replace hR := hR1
    clear hR1
    replace hw := h4 x hx
    cases hw
    exact rx_out hX hR hxt rfl h1 h2 h3 hlocks (by omega) (by omega)
  replace hR := hR1
  clear hR1
  replace hw := h5 v1 hx
  refine rw_astore_n (lv' := [(3, va_rf (Option.map (Ad γ ad 5) v1)), (0, .ref (gS γ 7 0)), (1, .int a1), (2, .int a2)]) hX hl (by decide) rfl (va_rf_or _) dX6_map_5 rfl (fun ls hl1 => ?_)
  replace hl := hl1
  clear hl1
  refine rw_iload_n hX hl 3 rfl dX6_map_6 rfl ?_
  refine lv_iconst (v := 0) hX.1.1 hX.1.2.1 dX6_map_7 (by decide) ?_
  refine lv_bipush (v := 31) hX.1.1 hX.1.2.1 dX6_map_8 (by decide) ?_
  obtain ⟨v6, g8, hw1⟩ := ob1_some hw
  replace hw := hw1
  clear hw1
  refine rw_cSi hX hR pk_f7_isWithin (mc := 0) (ms := 0) ⟨rfl, rfl, (show 1 + 1 ≤ 16 by omega), (show 8 + (3 + 11) + 64 * 1 ≤ 64 * 16 by omega)⟩ (As := [.int a2, .int 0, .int 31]) (rest := []) rfl (C_f7_isWithin l γ ad a2 0 31 σ v6 g8) gw_297 gw_298 rfl hl.1 ca0 (Nat.le_of_ble_eq_true rfl) dX6_map_10 ⟨(show (0 + 1) + 0 ≤ 4 by omega), (show (0 + 6) + 0 ≤ 24 by omega)⟩ (fun H locs hR1 => ?_)
  replace hR := hR1
  clear hR1
  refine rw_ifneZ (b := v6) (tgt := 26) hX dX6_map_13 (by decide) (fun c9 => ?_) (fun c9 => ?_)
  · replace hw := if_t hw c9
    refine rw_aload_n hX hl 1 rfl (Or.inr ⟨_, rfl⟩) dX6_map_26 rfl ?_
    obtain ⟨v10, g12, hw1⟩ := ob1_some hw
    replace hw := hw1
    clear hw1
    refine rw_cVi hX hR pk_f7_lowestFreeSlot (mc := 0) (ms := 0) ⟨rfl, rfl, (show 15 + 1 ≤ 16 by omega), (show 8 + (2 + 11) + 64 * 15 ≤ 64 * 16 by omega)⟩ (As := []) (rest := []) rfl (C_f7_lowestFreeSlot l γ ad σ v10 g12) gw_697 gw_699 gs_34 (rs_recv hX hR 7 0 (C := RX6) (T := TX6) (N := 11) rfl (by decide) (Nat.le_of_ble_eq_true rfl) rfl) rfl hl.1 ca0 (Nat.le_of_ble_eq_true rfl) dX6_map_27 ⟨(show ((0 + 1) + 0) + 0 ≤ 4 by omega), (show ((0 + 6) + 0) + 0 ≤ 24 by omega)⟩ (fun H locs hR1 => ?_)
    replace hR := hR1
    clear hR1
    refine rw_istore (lv' := [(4, .int v10), (3, va_rf (Option.map (Ad γ ad 5) v1)), (0, .ref (gS γ 7 0)), (1, .int a1), (2, .int a2)]) hX hl (by decide) rfl dX6_map_30 (fun ls hl1 => ?_)
    replace hl := hl1
    clear hl1
    refine rw_aload_n hX hl 2 rfl (Or.inr ⟨_, rfl⟩) dX6_map_32 rfl ?_
    refine rw_aload_n hX hl 1 rfl (va_rf_or _) dX6_map_33 rfl ?_
    obtain ⟨v13, g15, hw1⟩ := ob1_some hw
    replace hw := hw1
    clear hw1
    refine rw_cVi hX hR pk_f7_canUse (mc := 0) (ms := 0) ⟨rfl, rfl, (show 2 + 1 ≤ 16 by omega), (show 8 + (2 + 11) + 64 * 2 ≤ 64 * 16 by omega)⟩ (As := [va_rf (Option.map (Ad γ ad 5) v1)]) (rest := []) rfl (C_f7_canUse l γ ad v1 σ v13 g15) gw_643 gw_645 gs_31 (rs_recv hX hR 7 0 (C := RX6) (T := TX6) (N := 11) rfl (by decide) (Nat.le_of_ble_eq_true rfl) rfl) rfl hl.1 ca0 (Nat.le_of_ble_eq_true rfl) dX6_map_34 ⟨(show (((0 + 1) + 0) + 0) + 0 ≤ 4 by omega), (show (((0 + 6) + 0) + 0) + 0 ≤ 24 by omega)⟩ (fun H locs hR1 => ?_)
    replace hR := hR1
    clear hR1
    refine rw_ifeqZ (b := v13) (tgt := 46) hX dX6_map_37 (by decide) (fun c16 => ?_) (fun c16 => ?_)
    · replace hw := if_f hw c16
      cases hw
      exact rw_throw (lv := [(4, .int v10), (3, va_rf (Option.map (Ad γ ad 5) v1)), (0, .ref (gS γ 7 0)), (1, .int a1), (2, .int a2)]) (text := "the handle is of no use, the world is suspended, or no slot is free") hX hR hfl 3 74 234 78 rfl XN_fit3 XNS_fit gw_320 gw_19 (by decide +kernel) xa_3 xg_3 hl.1 hxt dX6_map_46 dX6_map_49 dX6_map_50 dX6_map_52 dX6_map_55 (Nat.le_of_ble_eq_true rfl) (Nat.le_of_ble_eq_true rfl) ⟨(show ((((0 + 1) + 0) + 0) + 0) + 1 ≤ 4 by omega), (show ((((0 + 6) + 0) + 0) + 0) + 6 ≤ 24 by omega)⟩ hlocks ⟨by omega, by omega⟩
    · replace hw := if_t hw c16
      refine rw_iload hX hl 0 rfl dX6_map_40 ?_
      refine lv_iconst (v := (-1)) hX.1.1 hX.1.2.1 dX6_map_42 (by decide) ?_
      refine lv_icmp_ne (x := v10) (y := (-1)) (tgt := 56) hX.1.1 hX.1.2.1 dX6_map_43 (by decide) (fun c17 => ?_) (fun c17 => ?_)
      · replace hw := if_f hw c17
        refine rw_aload_n hX hl 2 rfl (Or.inr ⟨_, rfl⟩) dX6_map_56 rfl ?_
        refine rw_iload hX hl 0 rfl dX6_map_57 ?_
        obtain ⟨v18, g20, h21, h22⟩ := xb1_some hw
        refine rw_xVq hX hR pk_f7_knownSlot (mc := 1) (ms := 6) ⟨rfl, rfl, (show 15 + 1 ≤ 16 by omega), (show 8 + (2 + 11) + 64 * 15 ≤ 64 * 16 by omega)⟩ (As := [.int v10]) (rest := []) rfl (C_f7_knownSlot l hfl γ ad v10 σ v18 g20) gw_702 gw_704 gs_35 (rs_recv hX hR 7 0 (C := RX6) (T := TX6) (N := 11) rfl (by decide) (Nat.le_of_ble_eq_true rfl) rfl) rfl hl.1 ca0 (Nat.le_of_ble_eq_true rfl) dX6_map_59 ⟨(show ((((0 + 1) + 0) + 0) + 0) + 1 ≤ 4 by omega), (show ((((0 + 6) + 0) + 0) + 0) + 6 ≤ 24 by omega)⟩ (fun x ce q9 H locs hx hR1 h1 h2 h3 => ?_) (fun v18 H locs hx hR1 => ?_)
        · replace hR := hR1
          clear hR1
          replace hw := h21 x hx
          cases hw
          exact rx_out hX hR hxt rfl h1 h2 h3 hlocks (by omega) (by omega)
        replace hR := hR1
        clear hR1
        replace hw := h22 v18 hx
        refine rw_astore (lv' := [(5, va_rf (Option.map (Ad γ ad 6) v18)), (4, .int v10), (3, va_rf (Option.map (Ad γ ad 5) v1)), (0, .ref (gS γ 7 0)), (1, .int a1), (2, .int a2)]) hX hl (by decide) rfl (va_rf_or _) dX6_map_62 (fun ls hl1 => ?_)
        replace hl := hl1
        clear hl1
        refine rw_aload hX hl 0 rfl (va_rf_or _) dX6_map_64 ?_
        refine rw_aload_n hX hl 2 rfl (va_rf_or _) dX6_map_66 rfl ?_
        obtain ⟨i23, e24, h25, hw1⟩ := dr_some hw
        replace hw := hw1
        clear hw1
        subst e24
        obtain ⟨p26, q27⟩ : ∃ o, gp σ 500 i23 = o := ⟨_, rfl⟩
        replace hw := lt_eq hw q27
        refine rw_getN hX hR 5 0 i23 (C := RX4) (T := TX4) (N := 3) rfl (by decide) h25 rfl (v := va_rf (Option.map (Ad γ ad 2) p26)) (by rw [← q27]; rfl) uw_X4 nw_610 rfl dX6_map_67 ?_
        obtain ⟨i28, e29, h30, hw1⟩ := dr_some hw
        replace hw := hw1
        clear hw1
        subst e29
        refine rw_putpN (E := "DriverMoor$Device") (x := p26) hX hR 6 0 i28 600 (C := RX5) (T := TX5) (N := 2) rfl (by decide) rfl rfl h30 rfl uw_X5 tyX5 tyX5_ok nmX5 nw_83 rfl rfl (by decide) dX6_map_70 (fun σ1 H locs e1 hR1 => ?_)
        replace hR := hR1
        clear hR1
        subst e1
        refine rw_aload hX hl 0 rfl (Or.inr ⟨_, rfl⟩) dX6_map_73 ?_
        refine rw_iload_n hX hl 5 rfl dX6_map_75 rfl ?_
        refine rw_putiN (x := a2) hX hR 6 1 i28 601 (C := RX5) (T := TX5) (N := 2) rfl (by decide) rfl rfl h30 rfl uw_X5 tyX5 tyX5_ok nmX5 nw_84 rfl rfl (by decide) dX6_map_76 (fun σ1 H locs e1 hR1 => ?_)
        replace hR := hR1
        clear hR1
        subst e1
        refine rw_iload hX hl 1 rfl dX6_map_79 ?_
        refine W.widen (k := 4) (n := 24) (by omega) (by omega) ?_
        exact ry_ie hX hR hr hw dX6_map_81 hlocks
      · replace hw := if_t hw c17
        cases hw
        exact rw_throw (lv := [(4, .int v10), (3, va_rf (Option.map (Ad γ ad 5) v1)), (0, .ref (gS γ 7 0)), (1, .int a1), (2, .int a2)]) (text := "the handle is of no use, the world is suspended, or no slot is free") hX hR hfl 3 74 234 78 rfl XN_fit3 XNS_fit gw_320 gw_19 (by decide +kernel) xa_3 xg_3 hl.1 hxt dX6_map_46 dX6_map_49 dX6_map_50 dX6_map_52 dX6_map_55 (Nat.le_of_ble_eq_true rfl) (Nat.le_of_ble_eq_true rfl) ⟨(show ((((0 + 1) + 0) + 0) + 0) + 1 ≤ 4 by omega), (show ((((0 + 6) + 0) + 0) + 0) + 6 ≤ 24 by omega)⟩ hlocks ⟨by omega, by omega⟩
  · replace hw := if_f hw c9
    cases hw
    exact rw_throw (lv := [(3, va_rf (Option.map (Ad γ ad 5) v1)), (0, .ref (gS γ 7 0)), (1, .int a1), (2, .int a2)]) (text := "the page is out of range") hX hR hfl 2 61 229 65 rfl XN_fit2 XNS_fit gw_303 gw_18 (by decide +kernel) xa_2 xg_2 hl.1 hxt dX6_map_16 dX6_map_19 dX6_map_20 dX6_map_22 dX6_map_25 (Nat.le_of_ble_eq_true rfl) (Nat.le_of_ble_eq_true rfl) ⟨(show ((0 + 1) + 0) + 1 ≤ 4 by omega), (show ((0 + 6) + 0) + 6 ≤ 24 by omega)⟩ hlocks ⟨by omega, by omega⟩
set_option maxHeartbeats 8000000 in
set_option maxRecDepth 100000 in
theorem C_f7_unmap (l : Launch) (hfl : l.stackTraces = false) (γ : GT) (ad : Nat → Nat → Nat) {fu : Nat} (a1 : Int32) (a2 : Int32) (σ : St) (r : Except Nat Int32) (σ' : St) (hw : f7_unmap fu a1 a2 σ = some (r, σ')) : vx_Met l yX6_unmap (Cond.code yX6_unmap cX6_unmap 5 (Option.some Jvm.ClassFile.FieldType.int) :: GW) (rmo 16 3 18) (va_Pc [.ref (gS γ 7 0), .int a1, .int a2] (RU γ ad σ)) (QXI γ ad σ' r) (QXX γ ad σ' r) 3 18 (gA γ) := by
  refine vx_ofW (cc := cX6_unmap) (maxL := 5) (ret := (Option.some Jvm.ClassFile.FieldType.int)) (by decide) rfl ?_
  intro p e s m args below meth c s₁ B hml hxt hv
  obtain ⟨rfl, hU⟩ := hv
  obtain ⟨hX, hR⟩ := cx_of (own := RX6) B hml rfl hU
  have hr := B.returns
  have hlocks := B.notSynchronized
  have hc0 : (0 : Nat) ≤ 0 := Nat.le_refl 0
  show W p l e (rmo 16 3 18) s m ([.ref (gS γ 7 0), .int a1, .int a2] : List Value).toArray below meth c s.heap [] 0 0 (vx_MQ below (QXI γ ad σ' r) (QXX γ ad σ' r) ([.ref (gS γ 7 0), .int a1, .int a2] : List Value).toArray s 3 18 (gA γ)) (entryFrame m ([.ref (gS γ 7 0), .int a1, .int a2] : List Value).toArray 5)
  unfold f7_unmap at hw
  refine rw_entry (ca1 rfl (ca1 rfl (ca1 rfl ca0))) (Nat.le_of_ble_eq_true rfl) (fun ls hl1 => ?_)
  replace hl := hl1
  clear hl1
  refine rw_aload_n hX hl 0 rfl (Or.inr ⟨_, rfl⟩) dX6_unmap_0 rfl ?_
  refine rw_iload_n hX hl 1 rfl dX6_unmap_1 rfl ?_
  obtain ⟨v1, g3, h4, h5⟩ := xb1_some hw
  refine rw_xVq hX hR pk_f7_knownHandle (mc := 1) (ms := 6) ⟨rfl, rfl, (show 15 + 1 ≤ 16 by omega), (show 8 + (2 + 11) + 64 * 15 ≤ 64 * 16 by omega)⟩ (As := [.int a1]) (rest := []) rfl (C_f7_knownHandle l hfl γ ad a1 σ v1 g3) gw_629 gw_631 gs_30 (rs_recv hX hR 7 0 (C := RX6) (T := TX6) (N := 11) rfl (by decide) (Nat.le_of_ble_eq_true rfl) rfl) rfl hl.1 ca0 (Nat.le_of_ble_eq_true rfl) dX6_unmap_2 ⟨(show 0 + 1 ≤ 3 by omega), (show 0 + 6 ≤ 18 by omega)⟩ (fun x ce q9 H locs hx hR1 h1 h2 h3 => ?_) (fun v1 H locs hx hR1 => ?_)
  · replace hR := hR1
    clear hR1
    replace hw := h4 x hx
    cases hw
    exact rx_out hX hR hxt rfl h1 h2 h3 hlocks (by omega) (by omega)
  replace hR := hR1
  clear hR1
  replace hw := h5 v1 hx
  refine rw_astore_n (lv' := [(3, va_rf (Option.map (Ad γ ad 5) v1)), (0, .ref (gS γ 7 0)), (1, .int a1), (2, .int a2)]) hX hl (by decide) rfl (va_rf_or _) dX6_unmap_5 rfl (fun ls hl1 => ?_)
  replace hl := hl1
  clear hl1
  refine rw_aload_n hX hl 1 rfl (Or.inr ⟨_, rfl⟩) dX6_unmap_6 rfl ?_
  refine rw_iload_n hX hl 3 rfl dX6_unmap_7 rfl ?_
  obtain ⟨v6, g8, h9, h10⟩ := xb1_some hw
  refine rw_xVq hX hR pk_f7_knownSlot (mc := 1) (ms := 6) ⟨rfl, rfl, (show 15 + 1 ≤ 16 by omega), (show 8 + (2 + 11) + 64 * 15 ≤ 64 * 16 by omega)⟩ (As := [.int a2]) (rest := []) rfl (C_f7_knownSlot l hfl γ ad a2 σ v6 g8) gw_702 gw_704 gs_35 (rs_recv hX hR 7 0 (C := RX6) (T := TX6) (N := 11) rfl (by decide) (Nat.le_of_ble_eq_true rfl) rfl) rfl hl.1 ca0 (Nat.le_of_ble_eq_true rfl) dX6_unmap_8 ⟨(show (0 + 1) + 1 ≤ 3 by omega), (show (0 + 6) + 6 ≤ 18 by omega)⟩ (fun x ce q9 H locs hx hR1 h1 h2 h3 => ?_) (fun v6 H locs hx hR1 => ?_)
  · replace hR := hR1
    clear hR1
    replace hw := h9 x hx
    cases hw
    exact rx_out hX hR hxt rfl h1 h2 h3 hlocks (by omega) (by omega)
  replace hR := hR1
  clear hR1
  replace hw := h10 v6 hx
  refine rw_astore (lv' := [(4, va_rf (Option.map (Ad γ ad 6) v6)), (3, va_rf (Option.map (Ad γ ad 5) v1)), (0, .ref (gS γ 7 0)), (1, .int a1), (2, .int a2)]) hX hl (by decide) rfl (va_rf_or _) dX6_unmap_11 (fun ls hl1 => ?_)
  replace hl := hl1
  clear hl1
  refine rw_aload_n hX hl 1 rfl (va_rf_or _) dX6_unmap_13 rfl ?_
  obtain ⟨i11, e12, h13, hw1⟩ := dr_some hw
  replace hw := hw1
  clear hw1
  subst e12
  obtain ⟨v14, g16, hw1⟩ := ob1_some hw
  replace hw := hw1
  clear hw1
  refine rw_cVNi hX hR pk_f5_isAlive (mc := 0) (ms := 0) ⟨rfl, rfl, (show 1 + 1 ≤ 16 by omega), (show 8 + (1 + 11) + 64 * 1 ≤ 64 * 16 by omega)⟩ (As := []) (rest := []) rfl (C_f5_isAlive l γ ad i11 σ v14 g16) nw_647 gw_649 gs_32 (rs_recv hX hR 5 i11 (C := RX4) (T := TX4) (N := 3) rfl (by decide) h13 rfl) rfl hl.1 ca0 (Nat.le_of_ble_eq_true rfl) dX6_unmap_14 ⟨(show ((0 + 1) + 1) + 0 ≤ 3 by omega), (show ((0 + 6) + 6) + 0 ≤ 18 by omega)⟩ (fun H locs hR1 => ?_)
  replace hR := hR1
  clear hR1
  refine rw_ifeqZ (b := v14) (tgt := 32) hX dX6_unmap_17 (by decide) (fun c17 => ?_) (fun c17 => ?_)
  · replace hw := if_f hw c17
    cases hw
    exact rw_throw (lv := [(4, va_rf (Option.map (Ad γ ad 6) v6)), (3, .ref (Ad γ ad 5 i11)), (0, .ref (gS γ 7 0)), (1, .int a1), (2, .int a2)]) (text := "the handle is closed or dead, or the slot is not of its device") hX hR hfl 3 74 249 78 rfl XN_fit3 XNS_fit gw_320 gw_19 (by decide +kernel) xa_3 xg_3 hl.1 hxt dX6_unmap_32 dX6_unmap_35 dX6_unmap_36 dX6_unmap_38 dX6_unmap_41 (Nat.le_of_ble_eq_true rfl) (Nat.le_of_ble_eq_true rfl) ⟨(show (((0 + 1) + 1) + 0) + 1 ≤ 3 by omega), (show (((0 + 6) + 6) + 0) + 6 ≤ 18 by omega)⟩ hlocks ⟨by omega, by omega⟩
  · replace hw := if_t hw c17
    refine rw_aload hX hl 0 rfl (va_rf_or _) dX6_unmap_20 ?_
    obtain ⟨i18, e19, h20, hw1⟩ := dr_some hw
    replace hw := hw1
    clear hw1
    subst e19
    obtain ⟨p21, q22⟩ : ∃ o, gp σ 600 i18 = o := ⟨_, rfl⟩
    replace hw := lt_eq hw q22
    refine rw_getN hX hR 6 0 i18 (C := RX5) (T := TX5) (N := 2) rfl (by decide) h20 rfl (v := va_rf (Option.map (Ad γ ad 2) p21)) (by rw [← q22]; rfl) uw_X5 nw_83 rfl dX6_unmap_22 ?_
    refine rw_aload_n hX hl 1 rfl (Or.inr ⟨_, rfl⟩) dX6_unmap_25 rfl ?_
    obtain ⟨p23, q24⟩ : ∃ o, gp σ 500 i11 = o := ⟨_, rfl⟩
    replace hw := lt_eq hw q24
    refine rw_getN hX hR 5 0 i11 (C := RX4) (T := TX4) (N := 3) rfl (by decide) h13 rfl (v := va_rf (Option.map (Ad γ ad 2) p23)) (by rw [← q24]; rfl) uw_X4 nw_610 rfl dX6_unmap_26 ?_
    obtain ⟨h25, hw1⟩ := ck_some hw
    replace hw := hw1
    clear hw1
    obtain ⟨h26, hw1⟩ := ck_some hw
    replace hw := hw1
    clear hw1
    refine rw_acmpeq hX hR 2 (by decide) (o1 := p21) (o2 := p23) h25 h26 (tgt := 42) dX6_unmap_29 (by decide) (fun c27 => ?_) (fun c27 => ?_)
    · replace hw := if_t hw c27
      refine rw_aload hX hl 0 rfl (Or.inr ⟨_, rfl⟩) dX6_unmap_42 ?_
      refine lv_null hX.1.1 hX.1.2.1 dX6_unmap_44 ?_
      refine rw_putpN (E := "DriverMoor$Device") (x := none) hX hR 6 0 i18 600 (C := RX5) (T := TX5) (N := 2) rfl (by decide) rfl rfl h20 rfl uw_X5 tyX5 tyX5_ok nmX5 nw_83 rfl rfl (by decide) dX6_unmap_45 (fun σ1 H locs e1 hR1 => ?_)
      replace hR := hR1
      clear hR1
      subst e1
      refine rw_aload hX hl 0 rfl (Or.inr ⟨_, rfl⟩) dX6_unmap_48 ?_
      refine rw_getN hX hR 6 1 i18 (C := RX5) (T := TX5) (N := 2) rfl (by decide) h20 rfl (v := .int (gi (zp σ 600 i18 none) 601 i18)) rfl uw_X5 nw_84 rfl dX6_unmap_50 ?_
      refine W.widen (k := 3) (n := 18) (by omega) (by omega) ?_
      exact ry_ie hX hR hr hw dX6_unmap_53 hlocks
    · replace hw := if_f hw c27
      cases hw
      exact rw_throw (lv := [(4, .ref (Ad γ ad 6 i18)), (3, .ref (Ad γ ad 5 i11)), (0, .ref (gS γ 7 0)), (1, .int a1), (2, .int a2)]) (text := "the handle is closed or dead, or the slot is not of its device") hX hR hfl 3 74 249 78 rfl XN_fit3 XNS_fit gw_320 gw_19 (by decide +kernel) xa_3 xg_3 hl.1 hxt dX6_unmap_32 dX6_unmap_35 dX6_unmap_36 dX6_unmap_38 dX6_unmap_41 (Nat.le_of_ble_eq_true rfl) (Nat.le_of_ble_eq_true rfl) ⟨(show (((0 + 1) + 1) + 0) + 1 ≤ 3 by omega), (show (((0 + 6) + 6) + 0) + 6 ≤ 18 by omega)⟩ hlocks ⟨by omega, by omega⟩
set_option maxHeartbeats 8000000 in
set_option maxRecDepth 100000 in
theorem C_f7_access (l : Launch) (hfl : l.stackTraces = false) (γ : GT) (ad : Nat → Nat → Nat) {fu : Nat} (a1 : Int32) (a2 : Int32) (σ : St) (r : Except Nat Int32) (σ' : St) (hw : f7_access fu a1 a2 σ = some (r, σ')) : vx_Met l yX6_access (Cond.code yX6_access cX6_access 5 (Option.some Jvm.ClassFile.FieldType.int) :: GW) (rmo 16 3 18) (va_Pc [.ref (gS γ 7 0), .int a1, .int a2] (RU γ ad σ)) (QXI γ ad σ' r) (QXX γ ad σ' r) 3 18 (gA γ) := by
  refine vx_ofW (cc := cX6_access) (maxL := 5) (ret := (Option.some Jvm.ClassFile.FieldType.int)) (by decide) rfl ?_
  intro p e s m args below meth c s₁ B hml hxt hv
  obtain ⟨rfl, hU⟩ := hv
  obtain ⟨hX, hR⟩ := cx_of (own := RX6) B hml rfl hU
  have hr := B.returns
  have hlocks := B.notSynchronized
  have hc0 : (0 : Nat) ≤ 0 := Nat.le_refl 0
  show W p l e (rmo 16 3 18) s m ([.ref (gS γ 7 0), .int a1, .int a2] : List Value).toArray below meth c s.heap [] 0 0 (vx_MQ below (QXI γ ad σ' r) (QXX γ ad σ' r) ([.ref (gS γ 7 0), .int a1, .int a2] : List Value).toArray s 3 18 (gA γ)) (entryFrame m ([.ref (gS γ 7 0), .int a1, .int a2] : List Value).toArray 5)
  unfold f7_access at hw
  have J46 : ∀ (σ : St) (cells slots : Nat), cells ≤ 3 → slots ≤ 18 → ∀ (H : Heap) (locs : List Loc) (ls : Array Slot), f7_access_j46 fu σ = some (r, σ') → RS γ ad σ s H locs → lh ls 5 [(0, .ref (gS γ 7 0))] → W p l e (rmo 16 3 18) s m ([.ref (gS γ 7 0), .int a1, .int a2] : List Value).toArray below meth c H locs cells slots (vx_MQ below (QXI γ ad σ' r) (QXX γ ad σ' r) ([.ref (gS γ 7 0), .int a1, .int a2] : List Value).toArray s 3 18 (gA γ)) (F0 m 46 ls []) := by
    intro σ cells slots hc1 hc2 H locs ls hw hR hl
    unfold f7_access_j46 at hw
    refine rw_aload_n hX hl 0 rfl (Or.inr ⟨_, rfl⟩) dX6_access_46 rfl ?_
    refine lv_dup hX.1.1 hX.1.2.1 dX6_access_47 rfl ?_
    refine rw_get hX hR 7 10 0 (C := RX6) (T := TX6) (N := 11) rfl (by decide) (Nat.le_of_ble_eq_true rfl) rfl (v := .int (gi σ 710 0)) rfl uw_X6 gw_159 rfl dX6_access_48 ?_
    refine lv_iconst (v := 1) hX.1.1 hX.1.2.1 dX6_access_51 (by decide) ?_
    refine lv_iadd (x := (gi σ 710 0)) (y := 1) hX.1.1 hX.1.2.1 dX6_access_52 ?_
    refine rw_puti (x := ((gi σ 710 0) + 1)) hX hR 7 10 0 710 (C := RX6) (T := TX6) (N := 11) rfl (by decide) rfl rfl (Nat.le_of_ble_eq_true rfl) rfl uw_X6 tyX6 tyX6_ok nmX6 gw_159 rfl rfl (by decide) dX6_access_53 (fun σ1 H locs e1 hR1 => ?_)
    replace hR := hR1
    clear hR1
    subst e1
    refine lv_iconst (v := (-1)) hX.1.1 hX.1.2.1 dX6_access_56 (by decide) ?_
    refine W.widen (k := 3) (n := 18) (by omega) (by omega) ?_
    exact ry_ie hX hR hr hw dX6_access_57 hlocks
  refine rw_entry (ca1 rfl (ca1 rfl (ca1 rfl ca0))) (Nat.le_of_ble_eq_true rfl) (fun ls hl1 => ?_)
  replace hl := hl1
  clear hl1
  refine rw_aload_n hX hl 0 rfl (Or.inr ⟨_, rfl⟩) dX6_access_0 rfl ?_
  refine rw_iload_n hX hl 1 rfl dX6_access_1 rfl ?_
  obtain ⟨v1, g3, h4, h5⟩ := xb1_some hw
  refine rw_xVq hX hR pk_f7_known (mc := 1) (ms := 6) ⟨rfl, rfl, (show 15 + 1 ≤ 16 by omega), (show 8 + (2 + 11) + 64 * 15 ≤ 64 * 16 by omega)⟩ (As := [.int a1]) (rest := []) rfl (C_f7_known l hfl γ ad a1 σ v1 g3) gw_205 gw_207 gs_4 (rs_recv hX hR 7 0 (C := RX6) (T := TX6) (N := 11) rfl (by decide) (Nat.le_of_ble_eq_true rfl) rfl) rfl hl.1 ca0 (Nat.le_of_ble_eq_true rfl) dX6_access_2 ⟨(show 0 + 1 ≤ 3 by omega), (show 0 + 6 ≤ 18 by omega)⟩ (fun x ce q9 H locs hx hR1 h1 h2 h3 => ?_) (fun v1 H locs hx hR1 => ?_)
  · replace hR := hR1
    clear hR1
    replace hw := h4 x hx
    cases hw
    exact rx_out hX hR hxt rfl h1 h2 h3 hlocks (by omega) (by omega)
  replace hR := hR1
  clear hR1
  replace hw := h5 v1 hx
  refine rw_astore_n (lv' := [(3, va_rf (Option.map (Ad γ ad 2) v1)), (0, .ref (gS γ 7 0)), (1, .int a1), (2, .int a2)]) hX hl (by decide) rfl (va_rf_or _) dX6_access_5 rfl (fun ls hl1 => ?_)
  replace hl := hl1
  clear hl1
  refine rw_aload_n hX hl 1 rfl (Or.inr ⟨_, rfl⟩) dX6_access_6 rfl ?_
  refine rw_iload_n hX hl 3 rfl dX6_access_7 rfl ?_
  obtain ⟨v6, g8, h9, h10⟩ := xb1_some hw
  refine rw_xVq hX hR pk_f7_knownSlot (mc := 1) (ms := 6) ⟨rfl, rfl, (show 15 + 1 ≤ 16 by omega), (show 8 + (2 + 11) + 64 * 15 ≤ 64 * 16 by omega)⟩ (As := [.int a2]) (rest := []) rfl (C_f7_knownSlot l hfl γ ad a2 σ v6 g8) gw_702 gw_704 gs_35 (rs_recv hX hR 7 0 (C := RX6) (T := TX6) (N := 11) rfl (by decide) (Nat.le_of_ble_eq_true rfl) rfl) rfl hl.1 ca0 (Nat.le_of_ble_eq_true rfl) dX6_access_8 ⟨(show (0 + 1) + 1 ≤ 3 by omega), (show (0 + 6) + 6 ≤ 18 by omega)⟩ (fun x ce q9 H locs hx hR1 h1 h2 h3 => ?_) (fun v6 H locs hx hR1 => ?_)
  · replace hR := hR1
    clear hR1
    replace hw := h9 x hx
    cases hw
    exact rx_out hX hR hxt rfl h1 h2 h3 hlocks (by omega) (by omega)
  replace hR := hR1
  clear hR1
  replace hw := h10 v6 hx
  refine rw_astore (lv' := [(4, va_rf (Option.map (Ad γ ad 6) v6)), (3, va_rf (Option.map (Ad γ ad 2) v1)), (0, .ref (gS γ 7 0)), (1, .int a1), (2, .int a2)]) hX hl (by decide) rfl (va_rf_or _) dX6_access_11 (fun ls hl1 => ?_)
  replace hl := hl1
  clear hl1
  refine rw_aload_n hX hl 1 rfl (va_rf_or _) dX6_access_13 rfl ?_
  obtain ⟨i11, e12, h13, hw1⟩ := dr_some hw
  replace hw := hw1
  clear hw1
  subst e12
  refine rw_getN hX hR 2 8 i11 (C := RX1) (T := TX1) (N := 18) rfl (by decide) h13 rfl (v := .int (b2i (gb σ 208 i11))) rfl uw_X1 nw_358 rfl dX6_access_14 ?_
  refine rw_ifneZ (b := (gb σ 208 i11)) (tgt := 30) hX dX6_access_17 (by decide) (fun c14 => ?_) (fun c14 => ?_)
  · replace hw := if_t hw c14
    refine rw_aload_n hX hl 1 rfl (Or.inr ⟨_, rfl⟩) dX6_access_30 rfl ?_
    refine rw_getN hX hR 2 12 i11 (C := RX1) (T := TX1) (N := 18) rfl (by decide) h13 rfl (v := .int (b2i (gb σ 212 i11))) rfl uw_X1 nw_364 rfl dX6_access_31 ?_
    refine rw_ifeqZ (b := (gb σ 212 i11)) (tgt := 46) hX dX6_access_34 (by decide) (fun c15 => ?_) (fun c15 => ?_)
    · replace hw := if_f hw c15
      exact J46 σ _ _ (by omega) (by omega) _ _ _ hw hR (lh_sub hl [2] rfl)
    · replace hw := if_t hw c15
      refine rw_aload hX hl 0 rfl (va_rf_or _) dX6_access_37 ?_
      obtain ⟨i16, e17, h18, hw1⟩ := dr_some hw
      replace hw := hw1
      clear hw1
      subst e17
      obtain ⟨p19, q20⟩ : ∃ o, gp σ 600 i16 = o := ⟨_, rfl⟩
      replace hw := lt_eq hw q20
      refine rw_getN hX hR 6 0 i16 (C := RX5) (T := TX5) (N := 2) rfl (by decide) h18 rfl (v := va_rf (Option.map (Ad γ ad 2) p19)) (by rw [← q20]; rfl) uw_X5 nw_83 rfl dX6_access_39 ?_
      refine rw_aload_n hX hl 1 rfl (Or.inr ⟨_, rfl⟩) dX6_access_42 rfl ?_
      obtain ⟨h21, hw1⟩ := ck_some hw
      replace hw := hw1
      clear hw1
      obtain ⟨h22, hw1⟩ := ck_some hw
      replace hw := hw1
      clear hw1
      refine rw_acmpeq hX hR 2 (by decide) (o1 := p19) (o2 := (some i11)) h21 h22 (tgt := 58) dX6_access_43 (by decide) (fun c23 => ?_) (fun c23 => ?_)
      · replace hw := if_t hw c23
        refine rw_aload hX hl 0 rfl (Or.inr ⟨_, rfl⟩) dX6_access_58 ?_
        refine rw_getN hX hR 6 1 i16 (C := RX5) (T := TX5) (N := 2) rfl (by decide) h18 rfl (v := .int (gi σ 601 i16)) rfl uw_X5 nw_84 rfl dX6_access_60 ?_
        refine W.widen (k := 3) (n := 18) (by omega) (by omega) ?_
        exact ry_ie hX hR hr hw dX6_access_63 hlocks
      · replace hw := if_f hw c23
        exact J46 σ _ _ (by omega) (by omega) _ _ _ hw hR (lh_sub hl [2] rfl)
  · replace hw := if_f hw c14
    cases hw
    exact rw_throw (lv := [(4, va_rf (Option.map (Ad γ ad 6) v6)), (3, .ref (Ad γ ad 2 i11)), (0, .ref (gS γ 7 0)), (1, .int a1), (2, .int a2)]) (text := "the device is there no more") hX hR hfl 3 74 108 78 rfl XN_fit3 XNS_fit gw_320 gw_19 (by decide +kernel) xa_3 xg_3 hl.1 hxt dX6_access_20 dX6_access_23 dX6_access_24 dX6_access_26 dX6_access_29 (Nat.le_of_ble_eq_true rfl) (Nat.le_of_ble_eq_true rfl) ⟨(show ((0 + 1) + 1) + 1 ≤ 3 by omega), (show ((0 + 6) + 6) + 6 ≤ 18 by omega)⟩ hlocks ⟨by omega, by omega⟩
set_option maxHeartbeats 8000000 in
set_option maxRecDepth 100000 in
theorem C_f7_finishCalls (l : Launch) (γ : GT) (ad : Nat → Nat → Nat) {fu : Nat} (σ : St) (σ' : St) (hw : f7_finishCalls fu σ = some σ') : Met l yX6_finishCalls (Cond.code yX6_finishCalls cX6_finishCalls 3 (Option.none : Option Jvm.ClassFile.FieldType) :: GW) (rmo 15 0 0) (va_Pc [.ref (gS γ 7 0)] (RU γ ad σ)) (QV γ ad σ') 0 0 (gA γ) := by
  refine Met.ofW (cc := cX6_finishCalls) (maxL := 3) (ret := (Option.none : Option Jvm.ClassFile.FieldType)) (by decide +kernel) rfl ?_
  intro p e s m args below meth c s₁ B hml hv
  obtain ⟨rfl, hU⟩ := hv
  obtain ⟨hX, hR⟩ := cx_of (own := RX6) B hml rfl hU
  have hr := B.returns
  have hlocks := B.notSynchronized
  have hc0 : (0 : Nat) ≤ 0 := Nat.le_refl 0
  show W p l e (rmo 15 0 0) s m ([.ref (gS γ 7 0)] : List Value).toArray below meth c s.heap [] 0 0 (MQ below (QV γ ad σ') ([.ref (gS γ 7 0)] : List Value).toArray s 0 0 (gA γ)) (entryFrame m ([.ref (gS γ 7 0)] : List Value).toArray 3)
  unfold f7_finishCalls at hw
  have L2 : ∀ (n : Nat) (s9 : (Int32 × St)) (cells slots : Nat), cells ≤ 0 → slots ≤ 0 → ∀ (H : Heap) (locs : List Loc) (ls : Array Slot), lp (fun s8 => f7_finishCalls_b2 fu s8.1 s8.2) n s9 = some σ' → RS γ ad (s9.2) s H locs → lh ls 3 [(0, .ref (gS γ 7 0)), (1, .int s9.1)] → W p l e (rmo 15 0 0) s m ([.ref (gS γ 7 0)] : List Value).toArray below meth c H locs cells slots (MQ below (QV γ ad σ') ([.ref (gS γ 7 0)] : List Value).toArray s 0 0 (gA γ)) (F0 m 2 ls []) := by
    intro n2
    induction n2 with
    | zero => intro s9 cells slots hc1 hc2 H locs ls hw hR hl; exact (lp_zero hw).elim
    | succ n2 ih2 =>
      intro s9 cells slots hc1 hc2 H locs ls hw hR hl
      obtain ⟨o2, hw1, hb2, ho2⟩ := lp_succ hw
      replace hw := hw1
      clear hw1
      obtain ⟨x1, σ⟩ := s9
      replace hw : f7_finishCalls_b2 fu x1 σ = some o2 := hw
      replace hR : RS γ ad σ s H locs := hR
      replace hl : lh ls 3 [(0, .ref (gS γ 7 0)), (1, .int x1)] := hl
      unfold f7_finishCalls_b2 at hw
      have J48 : ∀ (x1 : Int32) (σ : St) (cells slots : Nat), cells ≤ 0 → slots ≤ 0 → ∀ (H : Heap) (locs : List Loc) (ls : Array Slot), f7_finishCalls_j48 fu x1 σ = some o2 → RS γ ad σ s H locs → lh ls 3 [(0, .ref (gS γ 7 0)), (1, .int x1)] → W p l e (rmo 15 0 0) s m ([.ref (gS γ 7 0)] : List Value).toArray below meth c H locs cells slots (MQ below (QV γ ad σ') ([.ref (gS γ 7 0)] : List Value).toArray s 0 0 (gA γ)) (F0 m 48 ls []) := by
        intro x1 σ cells slots hc1 hc2 H locs ls hw hR hl
        unfold f7_finishCalls_j48 at hw
        refine rw_iinc (k := 1) (v := (x1 + 1)) (lv' := [(1, .int (x1 + 1)), (0, .ref (gS γ 7 0))]) hX hl rfl (congrArg (fun q => x1 + q) (show Int32.ofInt 1 = 1 by decide)) (by decide) rfl dX6_finishCalls_48 (fun ls hl1 => ?_)
        replace hl := hl1
        clear hl1
        refine lv_goto (tgt := 2) hX.1.1 hX.1.2.1 dX6_finishCalls_51 (by decide) ?_
        exact ih2 _ _ _ (by omega) (by omega) _ _ _ (lp_back hw hb2) hR (lh_sub hl [1, 0] rfl)
      refine rw_iload_n hX hl 1 rfl dX6_finishCalls_2 rfl ?_
      refine rw_aload_n hX hl 0 rfl (Or.inr ⟨_, rfl⟩) dX6_finishCalls_3 rfl ?_
      refine rw_get hX hR 7 4 0 (C := RX6) (T := TX6) (N := 11) rfl (by decide) (Nat.le_of_ble_eq_true rfl) rfl (v := .ref (gS γ 0 4)) rfl uw_X6 gw_153 rfl dX6_finishCalls_4 ?_
      refine rw_cVi hX hR pk_lsize (mc := 0) (ms := 0) ⟨rfl, rfl, Nat.le_of_ble_eq_true rfl, Nat.le_of_ble_eq_true rfl⟩ (As := []) (rest := [.int x1]) rfl (C_lsize l γ ad σ 4 (by decide)) gw_209 gw_210 gw_211 (rs_recvL hX hR 4 (by decide)) rfl hl.1 (ca1 rfl ca0) (Nat.le_of_ble_eq_true rfl) dX6_finishCalls_7 ⟨(show cells + 0 ≤ 0 by omega), (show slots + 0 ≤ 0 by omega)⟩ (fun H locs hR1 => ?_)
      replace hR := hR1
      clear hR1
      refine lv_icmp_ge (x := x1) (y := (nI (gl σ 4).length)) (tgt := 54) hX.1.1 hX.1.2.1 dX6_finishCalls_10 (by decide) (fun c1 => ?_) (fun c1 => ?_)
      · replace hw := if_t hw c1
        replace hw := lp_out hw ho2
        refine W.widen (k := 0) (n := 0) (by omega) (by omega) ?_
        exact rq_ve hX hR hr hw dX6_finishCalls_54 hlocks
      · replace hw := if_f hw c1
        refine rw_aload_n hX hl 0 rfl (Or.inr ⟨_, rfl⟩) dX6_finishCalls_13 rfl ?_
        refine rw_get hX hR 7 4 0 (C := RX6) (T := TX6) (N := 11) rfl (by decide) (Nat.le_of_ble_eq_true rfl) rfl (v := .ref (gS γ 0 4)) rfl uw_X6 gw_153 rfl dX6_finishCalls_14 ?_
        refine rw_iload_n hX hl 1 rfl dX6_finishCalls_17 rfl ?_
        obtain ⟨h3, k2, h4, h5, hw1⟩ := lg_some hw
        replace hw := hw1
        clear hw1
        refine rw_cVq (r := some k2) (k := 1) hX hR pk_lget (mc := 0) (ms := 0) ⟨rfl, rfl, Nat.le_of_ble_eq_true rfl, Nat.le_of_ble_eq_true rfl⟩ (As := [.int x1]) (rest := []) rfl (C_lget l γ ad σ 4 x1 k2 (by decide) h3 h4) gw_281 gw_282 gw_283 (rs_recvL hX hR 4 (by decide)) rfl hl.1 ca0 (Nat.le_of_ble_eq_true rfl) dX6_finishCalls_18 ⟨(show (cells + 0) + 0 ≤ 0 by omega), (show (slots + 0) + 0 ≤ 0 by omega)⟩ (fun H locs hR1 => ?_)
        replace hR := hR1
        clear hR1
        refine va_castS (a := Ad γ ad 1 k2) (nm := RX0) hX.1.1 hX.1.2.1 hX.1.2.2.2.1 (hX.1.2.2.2.2 _ gw_512) (hX.2.1.1 1 (RX0, TX0, 3) rfl).2 (rs_recv hX hR 1 k2 (C := RX0) (T := TX0) (N := 3) rfl (by decide) h5 rfl) dX6_finishCalls_21 ?_
        refine rw_astore_n (lv' := [(2, .ref (Ad γ ad 1 k2)), (0, .ref (gS γ 7 0)), (1, .int x1)]) hX hl (by decide) rfl (Or.inr ⟨_, rfl⟩) dX6_finishCalls_24 rfl (fun ls hl1 => ?_)
        replace hl := hl1
        clear hl1
        refine rw_aload_n hX hl 0 rfl (Or.inr ⟨_, rfl⟩) dX6_finishCalls_25 rfl ?_
        refine rw_getN hX hR 1 2 k2 (C := RX0) (T := TX0) (N := 3) rfl (by decide) h5 rfl (v := .int (gi σ 102 k2)) rfl uw_X0 nw_665 rfl dX6_finishCalls_26 ?_
        refine lv_if_ne (x := (gi σ 102 k2)) (tgt := 48) hX.1.1 hX.1.2.1 dX6_finishCalls_29 (by decide) (fun c6 => ?_) (fun c6 => ?_)
        · replace hw := if_f hw c6
          exact J48 x1 σ _ _ (by omega) (by omega) _ _ _ hw hR (lh_sub hl [1, 2] rfl)
        · replace hw := if_t hw c6
          refine rw_aload_n hX hl 0 rfl (Or.inr ⟨_, rfl⟩) dX6_finishCalls_32 rfl ?_
          refine rw_getN hX hR 1 1 k2 (C := RX0) (T := TX0) (N := 3) rfl (by decide) h5 rfl (v := .int (gi σ 101 k2)) rfl uw_X0 nw_663 rfl dX6_finishCalls_33 ?_
          refine rw_aload_n hX hl 1 rfl (Or.inr ⟨_, rfl⟩) dX6_finishCalls_36 rfl ?_
          refine rw_get hX hR 7 8 0 (C := RX6) (T := TX6) (N := 11) rfl (by decide) (Nat.le_of_ble_eq_true rfl) rfl (v := .int (gi σ 708 0)) rfl uw_X6 gw_157 rfl dX6_finishCalls_37 ?_
          refine lv_icmp_gt (x := (gi σ 101 k2)) (y := (gi σ 708 0)) (tgt := 48) hX.1.1 hX.1.2.1 dX6_finishCalls_40 (by decide) (fun c7 => ?_) (fun c7 => ?_)
          · replace hw := if_t hw c7
            exact J48 x1 σ _ _ (by omega) (by omega) _ _ _ hw hR (lh_sub hl [1, 2] rfl)
          · replace hw := if_f hw c7
            refine rw_aload_n hX hl 0 rfl (Or.inr ⟨_, rfl⟩) dX6_finishCalls_43 rfl ?_
            refine lv_iconst (v := 1) hX.1.1 hX.1.2.1 dX6_finishCalls_44 (by decide) ?_
            refine rw_putiN (x := 1) hX hR 1 2 k2 102 (C := RX0) (T := TX0) (N := 3) rfl (by decide) rfl rfl h5 rfl uw_X0 tyX0 tyX0_ok nmX0 nw_665 rfl rfl (by decide) dX6_finishCalls_45 (fun σ1 H locs e1 hR1 => ?_)
            replace hR := hR1
            clear hR1
            subst e1
            exact J48 x1 (zi σ 102 k2 1) _ _ (by omega) (by omega) _ _ _ hw hR (lh_sub hl [1, 2] rfl)
  refine rw_entry (ca1 rfl ca0) (Nat.le_of_ble_eq_true rfl) (fun ls hl1 => ?_)
  replace hl := hl1
  clear hl1
  refine lv_iconst (v := 0) hX.1.1 hX.1.2.1 dX6_finishCalls_0 (by decide) ?_
  refine rw_istore_n (lv' := [(1, .int 0), (0, .ref (gS γ 7 0))]) hX hl (by decide) rfl dX6_finishCalls_1 rfl (fun ls hl1 => ?_)
  replace hl := hl1
  clear hl1
  exact L2 _ _ _ _ (by omega) (by omega) _ _ _ hw hR (lh_sub hl [1, 0] rfl)
set_option maxHeartbeats 8000000 in
set_option maxRecDepth 100000 in
theorem C_f7_touch (l : Launch) (γ : GT) (ad : Nat → Nat → Nat) {fu : Nat} (a1 : (Option Nat)) (σ : St) (σ' : St) (hw : f7_touch fu a1 σ = some σ') : Met l yX6_touch (Cond.code yX6_touch cX6_touch 2 (Option.none : Option Jvm.ClassFile.FieldType) :: GW) (rmo 1 0 0) (va_Pc [.ref (gS γ 7 0), va_rf (Option.map (Ad γ ad 2) a1)] (RU γ ad σ)) (QV γ ad σ') 0 0 (gA γ) := by
  refine Met.ofW (cc := cX6_touch) (maxL := 2) (ret := (Option.none : Option Jvm.ClassFile.FieldType)) (by decide +kernel) rfl ?_
  intro p e s m args below meth c s₁ B hml hv
  obtain ⟨rfl, hU⟩ := hv
  obtain ⟨hX, hR⟩ := cx_of (own := RX6) B hml rfl hU
  have hr := B.returns
  have hlocks := B.notSynchronized
  have hc0 : (0 : Nat) ≤ 0 := Nat.le_refl 0
  show W p l e (rmo 1 0 0) s m ([.ref (gS γ 7 0), va_rf (Option.map (Ad γ ad 2) a1)] : List Value).toArray below meth c s.heap [] 0 0 (MQ below (QV γ ad σ') ([.ref (gS γ 7 0), va_rf (Option.map (Ad γ ad 2) a1)] : List Value).toArray s 0 0 (gA γ)) (entryFrame m ([.ref (gS γ 7 0), va_rf (Option.map (Ad γ ad 2) a1)] : List Value).toArray 2)
  unfold f7_touch at hw
  refine rw_entry (ca1 rfl (ca1 (rf_cat _) ca0)) (Nat.le_of_ble_eq_true rfl) (fun ls hl1 => ?_)
  replace hl := hl1
  clear hl1
  refine rw_aload_n hX hl 1 rfl (va_rf_or _) dX6_touch_0 rfl ?_
  refine rw_ifnull hX (o := a1) (g := Ad γ ad 2) (tgt := 12) dX6_touch_1 (by decide) (fun c1 => ?_) (fun c1 => ?_)
  · replace hw := if_t hw c1
    exact rq_ve hX hR hr hw dX6_touch_12 hlocks
  · replace hw := if_f hw c1
    refine rw_aload_n hX hl 1 rfl (va_rf_or _) dX6_touch_4 rfl ?_
    refine rw_aload_n hX hl 0 rfl (Or.inr ⟨_, rfl⟩) dX6_touch_5 rfl ?_
    refine rw_get hX hR 7 8 0 (C := RX6) (T := TX6) (N := 11) rfl (by decide) (Nat.le_of_ble_eq_true rfl) rfl (v := .int (gi σ 708 0)) rfl uw_X6 gw_157 rfl dX6_touch_6 ?_
    obtain ⟨i2, e3, h4, hw1⟩ := dr_some hw
    replace hw := hw1
    clear hw1
    subst e3
    refine rw_putiN (x := (gi σ 708 0)) hX hR 2 14 i2 214 (C := RX1) (T := TX1) (N := 18) rfl (by decide) rfl rfl h4 rfl uw_X1 tyX1 tyX1_ok nmX1 nw_366 rfl rfl (by decide) dX6_touch_9 (fun σ1 H locs e1 hR1 => ?_)
    replace hR := hR1
    clear hR1
    subst e1
    exact rq_ve hX hR hr hw dX6_touch_12 hlocks
set_option maxHeartbeats 8000000 in
set_option maxRecDepth 100000 in
theorem C_f7_touchTheHeld (l : Launch) (γ : GT) (ad : Nat → Nat → Nat) {fu : Nat} (σ : St) (σ' : St) (hw : f7_touchTheHeld fu σ = some σ') : Met l yX6_touchTheHeld (Cond.code yX6_touchTheHeld cX6_touchTheHeld 3 (Option.none : Option Jvm.ClassFile.FieldType) :: GW) (rmo 15 0 0) (va_Pc [.ref (gS γ 7 0)] (RU γ ad σ)) (QV γ ad σ') 0 0 (gA γ) := by
  refine Met.ofW (cc := cX6_touchTheHeld) (maxL := 3) (ret := (Option.none : Option Jvm.ClassFile.FieldType)) (by decide +kernel) rfl ?_
  intro p e s m args below meth c s₁ B hml hv
  obtain ⟨rfl, hU⟩ := hv
  obtain ⟨hX, hR⟩ := cx_of (own := RX6) B hml rfl hU
  have hr := B.returns
  have hlocks := B.notSynchronized
  have hc0 : (0 : Nat) ≤ 0 := Nat.le_refl 0
  show W p l e (rmo 15 0 0) s m ([.ref (gS γ 7 0)] : List Value).toArray below meth c s.heap [] 0 0 (MQ below (QV γ ad σ') ([.ref (gS γ 7 0)] : List Value).toArray s 0 0 (gA γ)) (entryFrame m ([.ref (gS γ 7 0)] : List Value).toArray 3)
  unfold f7_touchTheHeld at hw
  have L54 : ∀ (n : Nat) (s9 : (Int32 × St)) (cells slots : Nat), cells ≤ 0 → slots ≤ 0 → ∀ (H : Heap) (locs : List Loc) (ls : Array Slot), lp (fun s8 => f7_touchTheHeld_b54 fu s8.1 s8.2) n s9 = some σ' → RS γ ad (s9.2) s H locs → lh ls 3 [(0, .ref (gS γ 7 0)), (1, .int s9.1)] → W p l e (rmo 15 0 0) s m ([.ref (gS γ 7 0)] : List Value).toArray below meth c H locs cells slots (MQ below (QV γ ad σ') ([.ref (gS γ 7 0)] : List Value).toArray s 0 0 (gA γ)) (F0 m 54 ls []) := by
    intro n54
    induction n54 with
    | zero => intro s9 cells slots hc1 hc2 H locs ls hw hR hl; exact (lp_zero hw).elim
    | succ n54 ih54 =>
      intro s9 cells slots hc1 hc2 H locs ls hw hR hl
      obtain ⟨o54, hw1, hb54, ho54⟩ := lp_succ hw
      replace hw := hw1
      clear hw1
      obtain ⟨x1, σ⟩ := s9
      replace hw : f7_touchTheHeld_b54 fu x1 σ = some o54 := hw
      replace hR : RS γ ad σ s H locs := hR
      replace hl : lh ls 3 [(0, .ref (gS γ 7 0)), (1, .int x1)] := hl
      unfold f7_touchTheHeld_b54 at hw
      have J108 : ∀ (x1 : Int32) (σ : St) (cells slots : Nat), cells ≤ 0 → slots ≤ 0 → ∀ (H : Heap) (locs : List Loc) (ls : Array Slot), f7_touchTheHeld_j108 fu x1 σ = some o54 → RS γ ad σ s H locs → lh ls 3 [(0, .ref (gS γ 7 0)), (1, .int x1)] → W p l e (rmo 15 0 0) s m ([.ref (gS γ 7 0)] : List Value).toArray below meth c H locs cells slots (MQ below (QV γ ad σ') ([.ref (gS γ 7 0)] : List Value).toArray s 0 0 (gA γ)) (F0 m 108 ls []) := by
        intro x1 σ cells slots hc1 hc2 H locs ls hw hR hl
        unfold f7_touchTheHeld_j108 at hw
        refine rw_iinc (k := 1) (v := (x1 + 1)) (lv' := [(1, .int (x1 + 1)), (0, .ref (gS γ 7 0))]) hX hl rfl (congrArg (fun q => x1 + q) (show Int32.ofInt 1 = 1 by decide)) (by decide) rfl dX6_touchTheHeld_108 (fun ls hl1 => ?_)
        replace hl := hl1
        clear hl1
        refine lv_goto (tgt := 54) hX.1.1 hX.1.2.1 dX6_touchTheHeld_111 (by decide) ?_
        exact ih54 _ _ _ (by omega) (by omega) _ _ _ (lp_back hw hb54) hR (lh_sub hl [1, 0] rfl)
      refine rw_iload_n hX hl 1 rfl dX6_touchTheHeld_54 rfl ?_
      refine rw_aload_n hX hl 0 rfl (Or.inr ⟨_, rfl⟩) dX6_touchTheHeld_55 rfl ?_
      refine rw_get hX hR 7 1 0 (C := RX6) (T := TX6) (N := 11) rfl (by decide) (Nat.le_of_ble_eq_true rfl) rfl (v := .ref (gS γ 0 1)) rfl uw_X6 gw_150 rfl dX6_touchTheHeld_56 ?_
      refine rw_cVi hX hR pk_lsize (mc := 0) (ms := 0) ⟨rfl, rfl, Nat.le_of_ble_eq_true rfl, Nat.le_of_ble_eq_true rfl⟩ (As := []) (rest := [.int x1]) rfl (C_lsize l γ ad σ 1 (by decide)) gw_209 gw_210 gw_211 (rs_recvL hX hR 1 (by decide)) rfl hl.1 (ca1 rfl ca0) (Nat.le_of_ble_eq_true rfl) dX6_touchTheHeld_59 ⟨(show cells + 0 ≤ 0 by omega), (show slots + 0 ≤ 0 by omega)⟩ (fun H locs hR1 => ?_)
      replace hR := hR1
      clear hR1
      refine lv_icmp_ge (x := x1) (y := (nI (gl σ 1).length)) (tgt := 114) hX.1.1 hX.1.2.1 dX6_touchTheHeld_62 (by decide) (fun c2 => ?_) (fun c2 => ?_)
      · replace hw := if_t hw c2
        replace hw := lp_out hw ho54
        refine W.widen (k := 0) (n := 0) (by omega) (by omega) ?_
        exact rq_ve hX hR hr hw dX6_touchTheHeld_114 hlocks
      · replace hw := if_f hw c2
        refine rw_aload_n hX hl 0 rfl (Or.inr ⟨_, rfl⟩) dX6_touchTheHeld_65 rfl ?_
        refine rw_get hX hR 7 1 0 (C := RX6) (T := TX6) (N := 11) rfl (by decide) (Nat.le_of_ble_eq_true rfl) rfl (v := .ref (gS γ 0 1)) rfl uw_X6 gw_150 rfl dX6_touchTheHeld_66 ?_
        refine rw_iload_n hX hl 1 rfl dX6_touchTheHeld_69 rfl ?_
        obtain ⟨h4, k3, h5, h6, hw1⟩ := lg_some hw
        replace hw := hw1
        clear hw1
        refine rw_cVq (r := some k3) (k := 2) hX hR pk_lget (mc := 0) (ms := 0) ⟨rfl, rfl, Nat.le_of_ble_eq_true rfl, Nat.le_of_ble_eq_true rfl⟩ (As := [.int x1]) (rest := []) rfl (C_lget l γ ad σ 1 x1 k3 (by decide) h4 h5) gw_281 gw_282 gw_283 (rs_recvL hX hR 1 (by decide)) rfl hl.1 ca0 (Nat.le_of_ble_eq_true rfl) dX6_touchTheHeld_70 ⟨(show (cells + 0) + 0 ≤ 0 by omega), (show (slots + 0) + 0 ≤ 0 by omega)⟩ (fun H locs hR1 => ?_)
        replace hR := hR1
        clear hR1
        refine va_castS (a := Ad γ ad 2 k3) (nm := RX1) hX.1.1 hX.1.2.1 hX.1.2.2.2.1 (hX.1.2.2.2.2 _ gw_295) (hX.2.1.1 2 (RX1, TX1, 18) rfl).2 (rs_recv hX hR 2 k3 (C := RX1) (T := TX1) (N := 18) rfl (by decide) h6 rfl) dX6_touchTheHeld_73 ?_
        refine rw_astore_n (lv' := [(2, .ref (Ad γ ad 2 k3)), (0, .ref (gS γ 7 0)), (1, .int x1)]) hX hl (by decide) rfl (Or.inr ⟨_, rfl⟩) dX6_touchTheHeld_76 rfl (fun ls hl1 => ?_)
        replace hl := hl1
        clear hl1
        refine rw_aload_n hX hl 0 rfl (Or.inr ⟨_, rfl⟩) dX6_touchTheHeld_77 rfl ?_
        refine rw_getN hX hR 2 12 k3 (C := RX1) (T := TX1) (N := 18) rfl (by decide) h6 rfl (v := .int (b2i (gb σ 212 k3))) rfl uw_X1 nw_364 rfl dX6_touchTheHeld_78 ?_
        refine rw_ifeqZ (b := (gb σ 212 k3)) (tgt := 108) hX dX6_touchTheHeld_81 (by decide) (fun c7 => ?_) (fun c7 => ?_)
        · replace hw := if_f hw c7
          exact J108 x1 σ _ _ (by omega) (by omega) _ _ _ hw hR (lh_sub hl [1, 2] rfl)
        · replace hw := if_t hw c7
          refine rw_aload_n hX hl 1 rfl (Or.inr ⟨_, rfl⟩) dX6_touchTheHeld_84 rfl ?_
          refine rw_aload_n hX hl 0 rfl (Or.inr ⟨_, rfl⟩) dX6_touchTheHeld_85 rfl ?_
          obtain ⟨p8, q9⟩ : ∃ o, gp σ 205 k3 = o := ⟨_, rfl⟩
          replace hw := lt_eq hw q9
          refine rw_getN hX hR 2 5 k3 (C := RX1) (T := TX1) (N := 18) rfl (by decide) h6 rfl (v := va_rf (Option.map (Ad γ ad 2) p8)) (by rw [← q9]; rfl) uw_X1 nw_351 rfl dX6_touchTheHeld_86 ?_
          obtain ⟨σ11, g12, hw1⟩ := ob1_some hw
          replace hw := hw1
          clear hw1
          refine rw_cVv hX hR pk_f7_touch (mc := 0) (ms := 0) ⟨rfl, rfl, (show 1 + 1 ≤ 15 by omega), (show 8 + (2 + 11) + 64 * 1 ≤ 64 * 15 by omega)⟩ (As := [va_rf (Option.map (Ad γ ad 2) p8)]) (rest := []) rfl (C_f7_touch l γ ad p8 σ σ11 g12) gw_738 gw_740 gs_38 (rs_recv hX hR 7 0 (C := RX6) (T := TX6) (N := 11) rfl (by decide) (Nat.le_of_ble_eq_true rfl) rfl) rfl hl.1 ca0 (Nat.le_of_ble_eq_true rfl) dX6_touchTheHeld_89 ⟨(show ((cells + 0) + 0) + 0 ≤ 0 by omega), (show ((slots + 0) + 0) + 0 ≤ 0 by omega)⟩ (fun H locs hR1 => ?_)
          replace hR := hR1
          clear hR1
          refine rw_aload_n hX hl 1 rfl (Or.inr ⟨_, rfl⟩) dX6_touchTheHeld_92 rfl ?_
          refine rw_aload_n hX hl 0 rfl (Or.inr ⟨_, rfl⟩) dX6_touchTheHeld_93 rfl ?_
          obtain ⟨h13, hw1⟩ := ck_lt hw
          replace hw := hw1
          clear hw1
          obtain ⟨p14, q15⟩ : ∃ o, gp σ11 206 k3 = o := ⟨_, rfl⟩
          replace hw := lt_eq hw q15
          refine rw_getN hX hR 2 6 k3 (C := RX1) (T := TX1) (N := 18) rfl (by decide) h13 rfl (v := va_rf (Option.map (Ad γ ad 2) p14)) (by rw [← q15]; rfl) uw_X1 nw_353 rfl dX6_touchTheHeld_94 ?_
          obtain ⟨σ17, g18, hw1⟩ := ob1_some hw
          replace hw := hw1
          clear hw1
          refine rw_cVv hX hR pk_f7_touch (mc := 0) (ms := 0) ⟨rfl, rfl, (show 1 + 1 ≤ 15 by omega), (show 8 + (2 + 11) + 64 * 1 ≤ 64 * 15 by omega)⟩ (As := [va_rf (Option.map (Ad γ ad 2) p14)]) (rest := []) rfl (C_f7_touch l γ ad p14 σ11 σ17 g18) gw_738 gw_740 gs_38 (rs_recv hX hR 7 0 (C := RX6) (T := TX6) (N := 11) rfl (by decide) (Nat.le_of_ble_eq_true rfl) rfl) rfl hl.1 ca0 (Nat.le_of_ble_eq_true rfl) dX6_touchTheHeld_97 ⟨(show (((cells + 0) + 0) + 0) + 0 ≤ 0 by omega), (show (((slots + 0) + 0) + 0) + 0 ≤ 0 by omega)⟩ (fun H locs hR1 => ?_)
          replace hR := hR1
          clear hR1
          refine rw_aload_n hX hl 1 rfl (Or.inr ⟨_, rfl⟩) dX6_touchTheHeld_100 rfl ?_
          refine rw_aload_n hX hl 0 rfl (Or.inr ⟨_, rfl⟩) dX6_touchTheHeld_101 rfl ?_
          obtain ⟨h19, hw1⟩ := ck_lt hw
          replace hw := hw1
          clear hw1
          obtain ⟨p20, q21⟩ : ∃ o, gp σ17 207 k3 = o := ⟨_, rfl⟩
          replace hw := lt_eq hw q21
          refine rw_getN hX hR 2 7 k3 (C := RX1) (T := TX1) (N := 18) rfl (by decide) h19 rfl (v := va_rf (Option.map (Ad γ ad 2) p20)) (by rw [← q21]; rfl) uw_X1 nw_355 rfl dX6_touchTheHeld_102 ?_
          obtain ⟨σ23, g24, hw1⟩ := ob1_some hw
          replace hw := hw1
          clear hw1
          refine rw_cVv hX hR pk_f7_touch (mc := 0) (ms := 0) ⟨rfl, rfl, (show 1 + 1 ≤ 15 by omega), (show 8 + (2 + 11) + 64 * 1 ≤ 64 * 15 by omega)⟩ (As := [va_rf (Option.map (Ad γ ad 2) p20)]) (rest := []) rfl (C_f7_touch l γ ad p20 σ17 σ23 g24) gw_738 gw_740 gs_38 (rs_recv hX hR 7 0 (C := RX6) (T := TX6) (N := 11) rfl (by decide) (Nat.le_of_ble_eq_true rfl) rfl) rfl hl.1 ca0 (Nat.le_of_ble_eq_true rfl) dX6_touchTheHeld_105 ⟨(show ((((cells + 0) + 0) + 0) + 0) + 0 ≤ 0 by omega), (show ((((slots + 0) + 0) + 0) + 0) + 0 ≤ 0 by omega)⟩ (fun H locs hR1 => ?_)
          replace hR := hR1
          clear hR1
          exact J108 x1 σ23 _ _ (by omega) (by omega) _ _ _ hw hR (lh_sub hl [1, 2] rfl)
  have L2 : ∀ (n : Nat) (s9 : (Int32 × St)) (cells slots : Nat), cells ≤ 0 → slots ≤ 0 → ∀ (H : Heap) (locs : List Loc) (ls : Array Slot), lp (fun s8 => f7_touchTheHeld_b2 fu s8.1 s8.2) n s9 = some σ' → RS γ ad (s9.2) s H locs → lh ls 3 [(0, .ref (gS γ 7 0)), (1, .int s9.1)] → W p l e (rmo 15 0 0) s m ([.ref (gS γ 7 0)] : List Value).toArray below meth c H locs cells slots (MQ below (QV γ ad σ') ([.ref (gS γ 7 0)] : List Value).toArray s 0 0 (gA γ)) (F0 m 2 ls []) := by
    intro n2
    induction n2 with
    | zero => intro s9 cells slots hc1 hc2 H locs ls hw hR hl; exact (lp_zero hw).elim
    | succ n2 ih2 =>
      intro s9 cells slots hc1 hc2 H locs ls hw hR hl
      obtain ⟨o2, hw1, hb2, ho2⟩ := lp_succ hw
      replace hw := hw1
      clear hw1
      obtain ⟨x1, σ⟩ := s9
      replace hw : f7_touchTheHeld_b2 fu x1 σ = some o2 := hw
      replace hR : RS γ ad σ s H locs := hR
      replace hl : lh ls 3 [(0, .ref (gS γ 7 0)), (1, .int x1)] := hl
      unfold f7_touchTheHeld_b2 at hw
      have J46 : ∀ (x1 : Int32) (σ : St) (cells slots : Nat), cells ≤ 0 → slots ≤ 0 → ∀ (H : Heap) (locs : List Loc) (ls : Array Slot), f7_touchTheHeld_j46 fu x1 σ = some o2 → RS γ ad σ s H locs → lh ls 3 [(0, .ref (gS γ 7 0)), (1, .int x1)] → W p l e (rmo 15 0 0) s m ([.ref (gS γ 7 0)] : List Value).toArray below meth c H locs cells slots (MQ below (QV γ ad σ') ([.ref (gS γ 7 0)] : List Value).toArray s 0 0 (gA γ)) (F0 m 46 ls []) := by
        intro x1 σ cells slots hc1 hc2 H locs ls hw hR hl
        unfold f7_touchTheHeld_j46 at hw
        refine rw_iinc (k := 1) (v := (x1 + 1)) (lv' := [(1, .int (x1 + 1)), (0, .ref (gS γ 7 0))]) hX hl rfl (congrArg (fun q => x1 + q) (show Int32.ofInt 1 = 1 by decide)) (by decide) rfl dX6_touchTheHeld_46 (fun ls hl1 => ?_)
        replace hl := hl1
        clear hl1
        refine lv_goto (tgt := 2) hX.1.1 hX.1.2.1 dX6_touchTheHeld_49 (by decide) ?_
        exact ih2 _ _ _ (by omega) (by omega) _ _ _ (lp_back hw hb2) hR (lh_sub hl [1, 0] rfl)
      refine rw_iload_n hX hl 1 rfl dX6_touchTheHeld_2 rfl ?_
      refine rw_aload_n hX hl 0 rfl (Or.inr ⟨_, rfl⟩) dX6_touchTheHeld_3 rfl ?_
      refine rw_get hX hR 7 4 0 (C := RX6) (T := TX6) (N := 11) rfl (by decide) (Nat.le_of_ble_eq_true rfl) rfl (v := .ref (gS γ 0 4)) rfl uw_X6 gw_153 rfl dX6_touchTheHeld_4 ?_
      refine rw_cVi hX hR pk_lsize (mc := 0) (ms := 0) ⟨rfl, rfl, Nat.le_of_ble_eq_true rfl, Nat.le_of_ble_eq_true rfl⟩ (As := []) (rest := [.int x1]) rfl (C_lsize l γ ad σ 4 (by decide)) gw_209 gw_210 gw_211 (rs_recvL hX hR 4 (by decide)) rfl hl.1 (ca1 rfl ca0) (Nat.le_of_ble_eq_true rfl) dX6_touchTheHeld_7 ⟨(show cells + 0 ≤ 0 by omega), (show slots + 0 ≤ 0 by omega)⟩ (fun H locs hR1 => ?_)
      replace hR := hR1
      clear hR1
      refine lv_icmp_ge (x := x1) (y := (nI (gl σ 4).length)) (tgt := 52) hX.1.1 hX.1.2.1 dX6_touchTheHeld_10 (by decide) (fun c1 => ?_) (fun c1 => ?_)
      · replace hw := if_t hw c1
        replace hw := lp_out hw ho2
        refine lv_iconst (v := 0) hX.1.1 hX.1.2.1 dX6_touchTheHeld_52 (by decide) ?_
        refine rw_istore_n (lv' := [(1, .int 0), (0, .ref (gS γ 7 0))]) hX hl (by decide) rfl dX6_touchTheHeld_53 rfl (fun ls hl1 => ?_)
        replace hl := hl1
        clear hl1
        exact L54 _ _ _ _ (by omega) (by omega) _ _ _ hw hR (lh_sub hl [1, 0] rfl)
      · replace hw := if_f hw c1
        refine rw_aload_n hX hl 0 rfl (Or.inr ⟨_, rfl⟩) dX6_touchTheHeld_13 rfl ?_
        refine rw_get hX hR 7 4 0 (C := RX6) (T := TX6) (N := 11) rfl (by decide) (Nat.le_of_ble_eq_true rfl) rfl (v := .ref (gS γ 0 4)) rfl uw_X6 gw_153 rfl dX6_touchTheHeld_14 ?_
        refine rw_iload_n hX hl 1 rfl dX6_touchTheHeld_17 rfl ?_
        obtain ⟨h26, k25, h27, h28, hw1⟩ := lg_some hw
        replace hw := hw1
        clear hw1
        refine rw_cVq (r := some k25) (k := 1) hX hR pk_lget (mc := 0) (ms := 0) ⟨rfl, rfl, Nat.le_of_ble_eq_true rfl, Nat.le_of_ble_eq_true rfl⟩ (As := [.int x1]) (rest := []) rfl (C_lget l γ ad σ 4 x1 k25 (by decide) h26 h27) gw_281 gw_282 gw_283 (rs_recvL hX hR 4 (by decide)) rfl hl.1 ca0 (Nat.le_of_ble_eq_true rfl) dX6_touchTheHeld_18 ⟨(show (cells + 0) + 0 ≤ 0 by omega), (show (slots + 0) + 0 ≤ 0 by omega)⟩ (fun H locs hR1 => ?_)
        replace hR := hR1
        clear hR1
        refine va_castS (a := Ad γ ad 1 k25) (nm := RX0) hX.1.1 hX.1.2.1 hX.1.2.2.2.1 (hX.1.2.2.2.2 _ gw_512) (hX.2.1.1 1 (RX0, TX0, 3) rfl).2 (rs_recv hX hR 1 k25 (C := RX0) (T := TX0) (N := 3) rfl (by decide) h28 rfl) dX6_touchTheHeld_21 ?_
        refine rw_astore_n (lv' := [(2, .ref (Ad γ ad 1 k25)), (0, .ref (gS γ 7 0)), (1, .int x1)]) hX hl (by decide) rfl (Or.inr ⟨_, rfl⟩) dX6_touchTheHeld_24 rfl (fun ls hl1 => ?_)
        replace hl := hl1
        clear hl1
        refine rw_aload_n hX hl 0 rfl (Or.inr ⟨_, rfl⟩) dX6_touchTheHeld_25 rfl ?_
        refine rw_getN hX hR 1 2 k25 (C := RX0) (T := TX0) (N := 3) rfl (by decide) h28 rfl (v := .int (gi σ 102 k25)) rfl uw_X0 nw_665 rfl dX6_touchTheHeld_26 ?_
        refine lv_if_ne (x := (gi σ 102 k25)) (tgt := 46) hX.1.1 hX.1.2.1 dX6_touchTheHeld_29 (by decide) (fun c29 => ?_) (fun c29 => ?_)
        · replace hw := if_f hw c29
          exact J46 x1 σ _ _ (by omega) (by omega) _ _ _ hw hR (lh_sub hl [1, 2] rfl)
        · replace hw := if_t hw c29
          refine rw_aload_n hX hl 0 rfl (Or.inr ⟨_, rfl⟩) dX6_touchTheHeld_32 rfl ?_
          obtain ⟨p30, q31⟩ : ∃ o, gp σ 100 k25 = o := ⟨_, rfl⟩
          replace hw := lt_eq hw q31
          refine rw_getN hX hR 1 0 k25 (C := RX0) (T := TX0) (N := 3) rfl (by decide) h28 rfl (v := va_rf (Option.map (Ad γ ad 5) p30)) (by rw [← q31]; rfl) uw_X0 nw_661 rfl dX6_touchTheHeld_33 ?_
          obtain ⟨i32, e33, h34, hw1⟩ := dr_some hw
          replace hw := hw1
          clear hw1
          subst e33
          obtain ⟨p35, q36⟩ : ∃ o, gp σ 500 i32 = o := ⟨_, rfl⟩
          replace hw := lt_eq hw q36
          refine rw_getN hX hR 5 0 i32 (C := RX4) (T := TX4) (N := 3) rfl (by decide) h34 rfl (v := va_rf (Option.map (Ad γ ad 2) p35)) (by rw [← q36]; rfl) uw_X4 nw_610 rfl dX6_touchTheHeld_36 ?_
          refine rw_aload_n hX hl 1 rfl (Or.inr ⟨_, rfl⟩) dX6_touchTheHeld_39 rfl ?_
          refine rw_get hX hR 7 8 0 (C := RX6) (T := TX6) (N := 11) rfl (by decide) (Nat.le_of_ble_eq_true rfl) rfl (v := .int (gi σ 708 0)) rfl uw_X6 gw_157 rfl dX6_touchTheHeld_40 ?_
          obtain ⟨i37, e38, h39, hw1⟩ := dr_some hw
          replace hw := hw1
          clear hw1
          subst e38
          refine rw_putiN (x := (gi σ 708 0)) hX hR 2 14 i37 214 (C := RX1) (T := TX1) (N := 18) rfl (by decide) rfl rfl h39 rfl uw_X1 tyX1 tyX1_ok nmX1 nw_366 rfl rfl (by decide) dX6_touchTheHeld_43 (fun σ1 H locs e1 hR1 => ?_)
          replace hR := hR1
          clear hR1
          subst e1
          exact J46 x1 (zi σ 214 i37 (gi σ 708 0)) _ _ (by omega) (by omega) _ _ _ hw hR (lh_sub hl [1, 2] rfl)
  refine rw_entry (ca1 rfl ca0) (Nat.le_of_ble_eq_true rfl) (fun ls hl1 => ?_)
  replace hl := hl1
  clear hl1
  refine lv_iconst (v := 0) hX.1.1 hX.1.2.1 dX6_touchTheHeld_0 (by decide) ?_
  refine rw_istore_n (lv' := [(1, .int 0), (0, .ref (gS γ 7 0))]) hX hl (by decide) rfl dX6_touchTheHeld_1 rfl (fun ls hl1 => ?_)
  replace hl := hl1
  clear hl1
  exact L2 _ _ _ _ (by omega) (by omega) _ _ _ hw hR (lh_sub hl [1, 0] rfl)
set_option maxHeartbeats 8000000 in
set_option maxRecDepth 100000 in
theorem C_f7_fallAsleep (l : Launch) (γ : GT) (ad : Nat → Nat → Nat) {fu : Nat} (a1 : (Option Nat)) (σ : St) (σ' : St) (hw : f7_fallAsleep fu a1 σ = some σ') : Met l yX6_fallAsleep (Cond.code yX6_fallAsleep cX6_fallAsleep 2 (Option.none : Option Jvm.ClassFile.FieldType) :: GW) (rmo 3 0 0) (va_Pc [.ref (gS γ 7 0), va_rf (Option.map (Ad γ ad 2) a1)] (RU γ ad σ)) (QV γ ad σ') 0 0 (gA γ) := by
  refine Met.ofW (cc := cX6_fallAsleep) (maxL := 2) (ret := (Option.none : Option Jvm.ClassFile.FieldType)) (by decide +kernel) rfl ?_
  intro p e s m args below meth c s₁ B hml hv
  obtain ⟨rfl, hU⟩ := hv
  obtain ⟨hX, hR⟩ := cx_of (own := RX6) B hml rfl hU
  have hr := B.returns
  have hlocks := B.notSynchronized
  have hc0 : (0 : Nat) ≤ 0 := Nat.le_refl 0
  show W p l e (rmo 3 0 0) s m ([.ref (gS γ 7 0), va_rf (Option.map (Ad γ ad 2) a1)] : List Value).toArray below meth c s.heap [] 0 0 (MQ below (QV γ ad σ') ([.ref (gS γ 7 0), va_rf (Option.map (Ad γ ad 2) a1)] : List Value).toArray s 0 0 (gA γ)) (entryFrame m ([.ref (gS γ 7 0), va_rf (Option.map (Ad γ ad 2) a1)] : List Value).toArray 2)
  unfold f7_fallAsleep at hw
  refine rw_entry (ca1 rfl (ca1 (rf_cat _) ca0)) (Nat.le_of_ble_eq_true rfl) (fun ls hl1 => ?_)
  replace hl := hl1
  clear hl1
  refine rw_aload_n hX hl 1 rfl (va_rf_or _) dX6_fallAsleep_0 rfl ?_
  refine lv_iconst (v := 0) hX.1.1 hX.1.2.1 dX6_fallAsleep_1 (by decide) ?_
  obtain ⟨i1, e2, h3, hw1⟩ := dr_some hw
  replace hw := hw1
  clear hw1
  subst e2
  refine rw_putbN (x := false) hX hR 2 12 i1 212 (C := RX1) (T := TX1) (N := 18) rfl (by decide) rfl rfl h3 rfl uw_X1 tyX1 tyX1_ok nmX1 nw_364 rfl rfl (by decide) dX6_fallAsleep_2 (fun σ1 H locs e1 hR1 => ?_)
  replace hR := hR1
  clear hR1
  subst e1
  refine rw_aload_n hX hl 0 rfl (Or.inr ⟨_, rfl⟩) dX6_fallAsleep_5 rfl ?_
  refine rw_get hX hR 7 7 0 (C := RX6) (T := TX6) (N := 11) rfl (by decide) (Nat.le_of_ble_eq_true rfl) rfl (v := .ref (gS γ 4 0)) rfl uw_X6 gw_156 rfl dX6_fallAsleep_6 ?_
  refine lv_iconst (v := 3) hX.1.1 hX.1.2.1 dX6_fallAsleep_9 (by decide) ?_
  refine rw_aload_n hX hl 1 rfl (Or.inr ⟨_, rfl⟩) dX6_fallAsleep_10 rfl ?_
  refine rw_getN hX hR 2 0 i1 (C := RX1) (T := TX1) (N := 18) rfl (by decide) h3 rfl (v := .int (gi (zb σ 212 i1 false) 200 i1)) rfl uw_X1 nw_342 rfl dX6_fallAsleep_11 ?_
  obtain ⟨σ5, g6, hw1⟩ := ob1_some hw
  replace hw := hw1
  clear hw1
  refine rw_cVNv hX hR pk_f4_note (mc := 0) (ms := 0) ⟨rfl, rfl, (show 2 + 1 ≤ 3 by omega), (show 8 + (4 + 11) + 64 * 2 ≤ 64 * 3 by omega)⟩ (As := [.int 3, .int (gi (zb σ 212 i1 false) 200 i1)]) (rest := []) rfl (C_f4_note l γ ad 3 (gi (zb σ 212 i1 false) 200 i1) (zb σ 212 i1 false) σ5 g6) nw_469 gw_471 gs_20 (rs_recv hX hR 4 0 (C := RX3) (T := TX3) (N := 3) rfl (by decide) (Nat.le_of_ble_eq_true rfl) rfl) rfl hl.1 ca0 (Nat.le_of_ble_eq_true rfl) dX6_fallAsleep_14 ⟨(show 0 + 0 ≤ 0 by omega), (show 0 + 0 ≤ 0 by omega)⟩ (fun H locs hR1 => ?_)
  replace hR := hR1
  clear hR1
  refine W.widen (k := 0) (n := 0) (by omega) (by omega) ?_
  exact rq_ve hX hR hr hw dX6_fallAsleep_17 hlocks
set_option maxHeartbeats 8000000 in
set_option maxRecDepth 100000 in
theorem C_f7_putIdleToSleep (l : Launch) (γ : GT) (ad : Nat → Nat → Nat) {fu : Nat} (σ : St) (σ' : St) (hw : f7_putIdleToSleep fu σ = some σ') : Met l yX6_putIdleToSleep (Cond.code yX6_putIdleToSleep cX6_putIdleToSleep 3 (Option.none : Option Jvm.ClassFile.FieldType) :: GW) (rmo 15 0 0) (va_Pc [.ref (gS γ 7 0)] (RU γ ad σ)) (QV γ ad σ') 0 0 (gA γ) := by
  refine Met.ofW (cc := cX6_putIdleToSleep) (maxL := 3) (ret := (Option.none : Option Jvm.ClassFile.FieldType)) (by decide +kernel) rfl ?_
  intro p e s m args below meth c s₁ B hml hv
  obtain ⟨rfl, hU⟩ := hv
  obtain ⟨hX, hR⟩ := cx_of (own := RX6) B hml rfl hU
  have hr := B.returns
  have hlocks := B.notSynchronized
  have hc0 : (0 : Nat) ≤ 0 := Nat.le_refl 0
  show W p l e (rmo 15 0 0) s m ([.ref (gS γ 7 0)] : List Value).toArray below meth c s.heap [] 0 0 (MQ below (QV γ ad σ') ([.ref (gS γ 7 0)] : List Value).toArray s 0 0 (gA γ)) (entryFrame m ([.ref (gS γ 7 0)] : List Value).toArray 3)
  unfold f7_putIdleToSleep at hw
  have L10 : ∀ (n : Nat) (s9 : (Int32 × St)) (cells slots : Nat), cells ≤ 0 → slots ≤ 0 → ∀ (H : Heap) (locs : List Loc) (ls : Array Slot), lp (fun s8 => f7_putIdleToSleep_b10 fu s8.1 s8.2) n s9 = some σ' → RS γ ad (s9.2) s H locs → lh ls 3 [(0, .ref (gS γ 7 0)), (1, .int s9.1)] → W p l e (rmo 15 0 0) s m ([.ref (gS γ 7 0)] : List Value).toArray below meth c H locs cells slots (MQ below (QV γ ad σ') ([.ref (gS γ 7 0)] : List Value).toArray s 0 0 (gA γ)) (F0 m 10 ls []) := by
    intro n10
    induction n10 with
    | zero => intro s9 cells slots hc1 hc2 H locs ls hw hR hl; exact (lp_zero hw).elim
    | succ n10 ih10 =>
      intro s9 cells slots hc1 hc2 H locs ls hw hR hl
      obtain ⟨o10, hw1, hb10, ho10⟩ := lp_succ hw
      replace hw := hw1
      clear hw1
      obtain ⟨x1, σ⟩ := s9
      replace hw : f7_putIdleToSleep_b10 fu x1 σ = some o10 := hw
      replace hR : RS γ ad σ s H locs := hR
      replace hl : lh ls 3 [(0, .ref (gS γ 7 0)), (1, .int x1)] := hl
      unfold f7_putIdleToSleep_b10 at hw
      have J51 : ∀ (x1 : Int32) (σ : St) (cells slots : Nat), cells ≤ 0 → slots ≤ 0 → ∀ (H : Heap) (locs : List Loc) (ls : Array Slot), f7_putIdleToSleep_j51 fu x1 σ = some o10 → RS γ ad σ s H locs → lh ls 3 [(0, .ref (gS γ 7 0)), (1, .int x1)] → W p l e (rmo 15 0 0) s m ([.ref (gS γ 7 0)] : List Value).toArray below meth c H locs cells slots (MQ below (QV γ ad σ') ([.ref (gS γ 7 0)] : List Value).toArray s 0 0 (gA γ)) (F0 m 51 ls []) := by
        intro x1 σ cells slots hc1 hc2 H locs ls hw hR hl
        unfold f7_putIdleToSleep_j51 at hw
        refine rw_iinc (k := 1) (v := (x1 + (-1))) (lv' := [(1, .int (x1 + (-1))), (0, .ref (gS γ 7 0))]) hX hl rfl (congrArg (fun q => x1 + q) (show Int32.ofInt (-1) = (-1) by decide)) (by decide) rfl dX6_putIdleToSleep_51 (fun ls hl1 => ?_)
        replace hl := hl1
        clear hl1
        refine lv_goto (tgt := 10) hX.1.1 hX.1.2.1 dX6_putIdleToSleep_54 (by decide) ?_
        exact ih10 _ _ _ (by omega) (by omega) _ _ _ (lp_back hw hb10) hR (lh_sub hl [1, 0] rfl)
      refine rw_iload_n hX hl 1 rfl dX6_putIdleToSleep_10 rfl ?_
      refine lv_if_lt (x := x1) (tgt := 57) hX.1.1 hX.1.2.1 dX6_putIdleToSleep_11 (by decide) (fun c1 => ?_) (fun c1 => ?_)
      · replace hw := if_t hw c1
        replace hw := lp_out hw ho10
        refine W.widen (k := 0) (n := 0) (by omega) (by omega) ?_
        exact rq_ve hX hR hr hw dX6_putIdleToSleep_57 hlocks
      · replace hw := if_f hw c1
        refine rw_aload_n hX hl 0 rfl (Or.inr ⟨_, rfl⟩) dX6_putIdleToSleep_14 rfl ?_
        refine rw_get hX hR 7 1 0 (C := RX6) (T := TX6) (N := 11) rfl (by decide) (Nat.le_of_ble_eq_true rfl) rfl (v := .ref (gS γ 0 1)) rfl uw_X6 gw_150 rfl dX6_putIdleToSleep_15 ?_
        refine rw_iload_n hX hl 1 rfl dX6_putIdleToSleep_18 rfl ?_
        obtain ⟨h3, k2, h4, h5, hw1⟩ := lg_some hw
        replace hw := hw1
        clear hw1
        refine rw_cVq (r := some k2) (k := 2) hX hR pk_lget (mc := 0) (ms := 0) ⟨rfl, rfl, Nat.le_of_ble_eq_true rfl, Nat.le_of_ble_eq_true rfl⟩ (As := [.int x1]) (rest := []) rfl (C_lget l γ ad σ 1 x1 k2 (by decide) h3 h4) gw_281 gw_282 gw_283 (rs_recvL hX hR 1 (by decide)) rfl hl.1 ca0 (Nat.le_of_ble_eq_true rfl) dX6_putIdleToSleep_19 ⟨(show cells + 0 ≤ 0 by omega), (show slots + 0 ≤ 0 by omega)⟩ (fun H locs hR1 => ?_)
        replace hR := hR1
        clear hR1
        refine va_castS (a := Ad γ ad 2 k2) (nm := RX1) hX.1.1 hX.1.2.1 hX.1.2.2.2.1 (hX.1.2.2.2.2 _ gw_295) (hX.2.1.1 2 (RX1, TX1, 18) rfl).2 (rs_recv hX hR 2 k2 (C := RX1) (T := TX1) (N := 18) rfl (by decide) h5 rfl) dX6_putIdleToSleep_22 ?_
        refine rw_astore_n (lv' := [(2, .ref (Ad γ ad 2 k2)), (0, .ref (gS γ 7 0)), (1, .int x1)]) hX hl (by decide) rfl (Or.inr ⟨_, rfl⟩) dX6_putIdleToSleep_25 rfl (fun ls hl1 => ?_)
        replace hl := hl1
        clear hl1
        refine rw_aload_n hX hl 0 rfl (Or.inr ⟨_, rfl⟩) dX6_putIdleToSleep_26 rfl ?_
        refine rw_getN hX hR 2 12 k2 (C := RX1) (T := TX1) (N := 18) rfl (by decide) h5 rfl (v := .int (b2i (gb σ 212 k2))) rfl uw_X1 nw_364 rfl dX6_putIdleToSleep_27 ?_
        refine rw_ifeqZ (b := (gb σ 212 k2)) (tgt := 51) hX dX6_putIdleToSleep_30 (by decide) (fun c6 => ?_) (fun c6 => ?_)
        · replace hw := if_f hw c6
          exact J51 x1 σ _ _ (by omega) (by omega) _ _ _ hw hR (lh_sub hl [1, 2] rfl)
        · replace hw := if_t hw c6
          refine rw_aload_n hX hl 1 rfl (Or.inr ⟨_, rfl⟩) dX6_putIdleToSleep_33 rfl ?_
          refine rw_get hX hR 7 8 0 (C := RX6) (T := TX6) (N := 11) rfl (by decide) (Nat.le_of_ble_eq_true rfl) rfl (v := .int (gi σ 708 0)) rfl uw_X6 gw_157 rfl dX6_putIdleToSleep_34 ?_
          refine rw_aload_n hX hl 0 rfl (Or.inr ⟨_, rfl⟩) dX6_putIdleToSleep_37 rfl ?_
          refine rw_getN hX hR 2 14 k2 (C := RX1) (T := TX1) (N := 18) rfl (by decide) h5 rfl (v := .int (gi σ 214 k2)) rfl uw_X1 nw_366 rfl dX6_putIdleToSleep_38 ?_
          refine lv_isub (x := (gi σ 708 0)) (y := (gi σ 214 k2)) hX.1.1 hX.1.2.1 dX6_putIdleToSleep_41 ?_
          refine lv_iconst (v := 5) hX.1.1 hX.1.2.1 dX6_putIdleToSleep_42 (by decide) ?_
          refine lv_icmp_lt (x := ((gi σ 708 0) - (gi σ 214 k2))) (y := 5) (tgt := 51) hX.1.1 hX.1.2.1 dX6_putIdleToSleep_43 (by decide) (fun c7 => ?_) (fun c7 => ?_)
          · replace hw := if_t hw c7
            exact J51 x1 σ _ _ (by omega) (by omega) _ _ _ hw hR (lh_sub hl [1, 2] rfl)
          · replace hw := if_f hw c7
            refine rw_aload_n hX hl 1 rfl (Or.inr ⟨_, rfl⟩) dX6_putIdleToSleep_46 rfl ?_
            refine rw_aload_n hX hl 0 rfl (Or.inr ⟨_, rfl⟩) dX6_putIdleToSleep_47 rfl ?_
            obtain ⟨σ9, g10, hw1⟩ := ob1_some hw
            replace hw := hw1
            clear hw1
            refine rw_cVv hX hR pk_f7_fallAsleep (mc := 0) (ms := 0) ⟨rfl, rfl, (show 3 + 1 ≤ 15 by omega), (show 8 + (2 + 11) + 64 * 3 ≤ 64 * 15 by omega)⟩ (As := [va_rf (Option.map (Ad γ ad 2) (some k2))]) (rest := []) rfl (C_f7_fallAsleep l γ ad (some k2) σ σ9 g10) gw_746 gw_748 gs_40 (rs_recv hX hR 7 0 (C := RX6) (T := TX6) (N := 11) rfl (by decide) (Nat.le_of_ble_eq_true rfl) rfl) rfl hl.1 ca0 (Nat.le_of_ble_eq_true rfl) dX6_putIdleToSleep_48 ⟨(show (cells + 0) + 0 ≤ 0 by omega), (show (slots + 0) + 0 ≤ 0 by omega)⟩ (fun H locs hR1 => ?_)
            replace hR := hR1
            clear hR1
            exact J51 x1 σ9 _ _ (by omega) (by omega) _ _ _ hw hR (lh_sub hl [1, 2] rfl)
  refine rw_entry (ca1 rfl ca0) (Nat.le_of_ble_eq_true rfl) (fun ls hl1 => ?_)
  replace hl := hl1
  clear hl1
  refine rw_aload_n hX hl 0 rfl (Or.inr ⟨_, rfl⟩) dX6_putIdleToSleep_0 rfl ?_
  refine rw_get hX hR 7 1 0 (C := RX6) (T := TX6) (N := 11) rfl (by decide) (Nat.le_of_ble_eq_true rfl) rfl (v := .ref (gS γ 0 1)) rfl uw_X6 gw_150 rfl dX6_putIdleToSleep_1 ?_
  refine rw_cVi hX hR pk_lsize (mc := 0) (ms := 0) ⟨rfl, rfl, Nat.le_of_ble_eq_true rfl, Nat.le_of_ble_eq_true rfl⟩ (As := []) (rest := []) rfl (C_lsize l γ ad σ 1 (by decide)) gw_209 gw_210 gw_211 (rs_recvL hX hR 1 (by decide)) rfl hl.1 ca0 (Nat.le_of_ble_eq_true rfl) dX6_putIdleToSleep_4 ⟨(show 0 + 0 ≤ 0 by omega), (show 0 + 0 ≤ 0 by omega)⟩ (fun H locs hR1 => ?_)
  replace hR := hR1
  clear hR1
  refine lv_iconst (v := 1) hX.1.1 hX.1.2.1 dX6_putIdleToSleep_7 (by decide) ?_
  refine lv_isub (x := (nI (gl σ 1).length)) (y := 1) hX.1.1 hX.1.2.1 dX6_putIdleToSleep_8 ?_
  refine rw_istore_n (lv' := [(1, .int ((nI (gl σ 1).length) - 1)), (0, .ref (gS γ 7 0))]) hX hl (by decide) rfl dX6_putIdleToSleep_9 rfl (fun ls hl1 => ?_)
  replace hl := hl1
  clear hl1
  exact L10 _ _ _ _ (by omega) (by omega) _ _ _ hw hR (lh_sub hl [1, 0] rfl)
set_option maxHeartbeats 8000000 in
set_option maxRecDepth 100000 in
theorem C_f7_pass (l : Launch) (hfl : l.stackTraces = false) (γ : GT) (ad : Nat → Nat → Nat) {fu : Nat} (a1 : Int32) (σ : St) (r : Except Nat Int32) (σ' : St) (hw : f7_pass fu a1 σ = some (r, σ')) : vx_Met l yX6_pass (Cond.code yX6_pass cX6_pass 3 (Option.some Jvm.ClassFile.FieldType.int) :: GW) (rmo 16 2 12) (va_Pc [.ref (gS γ 7 0), .int a1] (RU γ ad σ)) (QXI γ ad σ' r) (QXX γ ad σ' r) 2 12 (gA γ) := by
  refine vx_ofW (cc := cX6_pass) (maxL := 3) (ret := (Option.some Jvm.ClassFile.FieldType.int)) (by decide) rfl ?_
  intro p e s m args below meth c s₁ B hml hxt hv
  obtain ⟨rfl, hU⟩ := hv
  obtain ⟨hX, hR⟩ := cx_of (own := RX6) B hml rfl hU
  have hr := B.returns
  have hlocks := B.notSynchronized
  have hc0 : (0 : Nat) ≤ 0 := Nat.le_refl 0
  show W p l e (rmo 16 2 12) s m ([.ref (gS γ 7 0), .int a1] : List Value).toArray below meth c s.heap [] 0 0 (vx_MQ below (QXI γ ad σ' r) (QXX γ ad σ' r) ([.ref (gS γ 7 0), .int a1] : List Value).toArray s 2 12 (gA γ)) (entryFrame m ([.ref (gS γ 7 0), .int a1] : List Value).toArray 3)
  unfold f7_pass at hw
  have L40 : ∀ (x1 : Int32) (n : Nat) (s9 : (Int32 × St)) (cells slots : Nat), cells ≤ 2 → slots ≤ 12 → ∀ (H : Heap) (locs : List Loc) (ls : Array Slot), lp (fun s8 => f7_pass_b40 fu x1 s8.1 s8.2) n s9 = some (r, σ') → RS γ ad (s9.2) s H locs → lh ls 3 [(0, .ref (gS γ 7 0)), (1, .int x1), (2, .int s9.1)] → W p l e (rmo 16 2 12) s m ([.ref (gS γ 7 0), .int a1] : List Value).toArray below meth c H locs cells slots (vx_MQ below (QXI γ ad σ' r) (QXX γ ad σ' r) ([.ref (gS γ 7 0), .int a1] : List Value).toArray s 2 12 (gA γ)) (F0 m 40 ls []) := by
    intro x1 n40
    induction n40 with
    | zero => intro s9 cells slots hc1 hc2 H locs ls hw hR hl; exact (lp_zero hw).elim
    | succ n40 ih40 =>
      intro s9 cells slots hc1 hc2 H locs ls hw hR hl
      obtain ⟨o40, hw1, hb40, ho40⟩ := lp_succ hw
      replace hw := hw1
      clear hw1
      obtain ⟨x2, σ⟩ := s9
      replace hw : f7_pass_b40 fu x1 x2 σ = some o40 := hw
      replace hR : RS γ ad σ s H locs := hR
      replace hl : lh ls 3 [(0, .ref (gS γ 7 0)), (1, .int x1), (2, .int x2)] := hl
      unfold f7_pass_b40 at hw
      refine rw_iload_n hX hl 2 rfl dX6_pass_40 rfl ?_
      refine rw_iload_n hX hl 1 rfl dX6_pass_41 rfl ?_
      refine lv_icmp_ge (x := x2) (y := x1) (tgt := 73) hX.1.1 hX.1.2.1 dX6_pass_42 (by decide) (fun c6 => ?_) (fun c6 => ?_)
      · replace hw := if_t hw c6
        replace hw := lp_out hw ho40
        refine rw_aload_n hX hl 0 rfl (Or.inr ⟨_, rfl⟩) dX6_pass_73 rfl ?_
        refine rw_get hX hR 7 8 0 (C := RX6) (T := TX6) (N := 11) rfl (by decide) (Nat.le_of_ble_eq_true rfl) rfl (v := .int (gi σ 708 0)) rfl uw_X6 gw_157 rfl dX6_pass_74 ?_
        refine W.widen (k := 2) (n := 12) (by omega) (by omega) ?_
        exact ry_ie hX hR hr hw dX6_pass_77 hlocks
      · replace hw := if_f hw c6
        refine rw_aload_n hX hl 0 rfl (Or.inr ⟨_, rfl⟩) dX6_pass_45 rfl ?_
        refine lv_dup hX.1.1 hX.1.2.1 dX6_pass_46 rfl ?_
        refine rw_get hX hR 7 8 0 (C := RX6) (T := TX6) (N := 11) rfl (by decide) (Nat.le_of_ble_eq_true rfl) rfl (v := .int (gi σ 708 0)) rfl uw_X6 gw_157 rfl dX6_pass_47 ?_
        refine lv_iconst (v := 1) hX.1.1 hX.1.2.1 dX6_pass_50 (by decide) ?_
        refine lv_iadd (x := (gi σ 708 0)) (y := 1) hX.1.1 hX.1.2.1 dX6_pass_51 ?_
        refine rw_puti (x := ((gi σ 708 0) + 1)) hX hR 7 8 0 708 (C := RX6) (T := TX6) (N := 11) rfl (by decide) rfl rfl (Nat.le_of_ble_eq_true rfl) rfl uw_X6 tyX6 tyX6_ok nmX6 gw_157 rfl rfl (by decide) dX6_pass_52 (fun σ1 H locs e1 hR1 => ?_)
        replace hR := hR1
        clear hR1
        subst e1
        refine rw_aload_n hX hl 0 rfl (Or.inr ⟨_, rfl⟩) dX6_pass_55 rfl ?_
        obtain ⟨σ8, g9, hw1⟩ := ob1_some hw
        replace hw := hw1
        clear hw1
        refine rw_cVv hX hR pk_f7_finishCalls (mc := 0) (ms := 0) ⟨rfl, rfl, (show 15 + 1 ≤ 16 by omega), (show 8 + (3 + 11) + 64 * 15 ≤ 64 * 16 by omega)⟩ (As := []) (rest := []) rfl (C_f7_finishCalls l γ ad (zi σ 708 0 ((gi σ 708 0) + 1)) σ8 g9) gw_730 gw_732 gs_36 (rs_recv hX hR 7 0 (C := RX6) (T := TX6) (N := 11) rfl (by decide) (Nat.le_of_ble_eq_true rfl) rfl) rfl hl.1 ca0 (Nat.le_of_ble_eq_true rfl) dX6_pass_56 ⟨(show cells + 0 ≤ 2 by omega), (show slots + 0 ≤ 12 by omega)⟩ (fun H locs hR1 => ?_)
        replace hR := hR1
        clear hR1
        refine rw_aload_n hX hl 0 rfl (Or.inr ⟨_, rfl⟩) dX6_pass_59 rfl ?_
        obtain ⟨σ11, g12, hw1⟩ := ob1_some hw
        replace hw := hw1
        clear hw1
        refine rw_cVv hX hR pk_f7_touchTheHeld (mc := 0) (ms := 0) ⟨rfl, rfl, (show 15 + 1 ≤ 16 by omega), (show 8 + (3 + 11) + 64 * 15 ≤ 64 * 16 by omega)⟩ (As := []) (rest := []) rfl (C_f7_touchTheHeld l γ ad σ8 σ11 g12) gw_734 gw_736 gs_37 (rs_recv hX hR 7 0 (C := RX6) (T := TX6) (N := 11) rfl (by decide) (Nat.le_of_ble_eq_true rfl) rfl) rfl hl.1 ca0 (Nat.le_of_ble_eq_true rfl) dX6_pass_60 ⟨(show (cells + 0) + 0 ≤ 2 by omega), (show (slots + 0) + 0 ≤ 12 by omega)⟩ (fun H locs hR1 => ?_)
        replace hR := hR1
        clear hR1
        refine rw_aload_n hX hl 0 rfl (Or.inr ⟨_, rfl⟩) dX6_pass_63 rfl ?_
        obtain ⟨σ14, g15, hw1⟩ := ob1_some hw
        replace hw := hw1
        clear hw1
        refine rw_cVv hX hR pk_f7_putIdleToSleep (mc := 0) (ms := 0) ⟨rfl, rfl, (show 15 + 1 ≤ 16 by omega), (show 8 + (3 + 11) + 64 * 15 ≤ 64 * 16 by omega)⟩ (As := []) (rest := []) rfl (C_f7_putIdleToSleep l γ ad σ11 σ14 g15) gw_742 gw_744 gs_39 (rs_recv hX hR 7 0 (C := RX6) (T := TX6) (N := 11) rfl (by decide) (Nat.le_of_ble_eq_true rfl) rfl) rfl hl.1 ca0 (Nat.le_of_ble_eq_true rfl) dX6_pass_64 ⟨(show ((cells + 0) + 0) + 0 ≤ 2 by omega), (show ((slots + 0) + 0) + 0 ≤ 12 by omega)⟩ (fun H locs hR1 => ?_)
        replace hR := hR1
        clear hR1
        refine rw_iinc (k := 2) (v := (x2 + 1)) (lv' := [(2, .int (x2 + 1)), (0, .ref (gS γ 7 0)), (1, .int x1)]) hX hl rfl (congrArg (fun q => x2 + q) (show Int32.ofInt 1 = 1 by decide)) (by decide) rfl dX6_pass_67 (fun ls hl1 => ?_)
        replace hl := hl1
        clear hl1
        refine lv_goto (tgt := 40) hX.1.1 hX.1.2.1 dX6_pass_70 (by decide) ?_
        exact ih40 _ _ _ (by omega) (by omega) _ _ _ (lp_back hw hb40) hR (lh_sub hl [1, 2, 0] rfl)
  refine rw_entry (ca1 rfl (ca1 rfl ca0)) (Nat.le_of_ble_eq_true rfl) (fun ls hl1 => ?_)
  replace hl := hl1
  clear hl1
  refine rw_iload_n hX hl 1 rfl dX6_pass_0 rfl ?_
  refine lv_iconst (v := 1) hX.1.1 hX.1.2.1 dX6_pass_1 (by decide) ?_
  refine lv_bipush (v := 50) hX.1.1 hX.1.2.1 dX6_pass_2 (by decide) ?_
  obtain ⟨v1, g3, hw1⟩ := ob1_some hw
  replace hw := hw1
  clear hw1
  refine rw_cSi hX hR pk_f7_isWithin (mc := 0) (ms := 0) ⟨rfl, rfl, (show 1 + 1 ≤ 16 by omega), (show 8 + (3 + 11) + 64 * 1 ≤ 64 * 16 by omega)⟩ (As := [.int a1, .int 1, .int 50]) (rest := []) rfl (C_f7_isWithin l γ ad a1 1 50 σ v1 g3) gw_297 gw_298 rfl hl.1 ca0 (Nat.le_of_ble_eq_true rfl) dX6_pass_4 ⟨(show 0 + 0 ≤ 2 by omega), (show 0 + 0 ≤ 12 by omega)⟩ (fun H locs hR1 => ?_)
  replace hR := hR1
  clear hR1
  refine rw_ifneZ (b := v1) (tgt := 20) hX dX6_pass_7 (by decide) (fun c4 => ?_) (fun c4 => ?_)
  · replace hw := if_t hw c4
    refine rw_aload_n hX hl 0 rfl (Or.inr ⟨_, rfl⟩) dX6_pass_20 rfl ?_
    refine rw_get hX hR 7 9 0 (C := RX6) (T := TX6) (N := 11) rfl (by decide) (Nat.le_of_ble_eq_true rfl) rfl (v := .int (b2i (gb σ 709 0))) rfl uw_X6 gw_158 rfl dX6_pass_21 ?_
    refine rw_ifeqZ (b := (gb σ 709 0)) (tgt := 38) hX dX6_pass_24 (by decide) (fun c5 => ?_) (fun c5 => ?_)
    · replace hw := if_f hw c5
      refine lv_iconst (v := 0) hX.1.1 hX.1.2.1 dX6_pass_38 (by decide) ?_
      refine rw_istore_n (lv' := [(2, .int 0), (0, .ref (gS γ 7 0)), (1, .int a1)]) hX hl (by decide) rfl dX6_pass_39 rfl (fun ls hl1 => ?_)
      replace hl := hl1
      clear hl1
      exact L40 a1 _ _ _ _ (by omega) (by omega) _ _ _ hw hR (lh_sub hl [1, 2, 0] rfl)
    · replace hw := if_t hw c5
      cases hw
      exact rw_throwW (lv := [(0, .ref (gS γ 7 0)), (1, .int a1)]) (text := "the world is suspended") hX hR hfl 3 74 257 78 rfl XN_fit3 XNS_fit gw_320 gw_19 (by decide +kernel) xa_3 xg_3 hl.1 hxt dX6_pass_27 dX6_pass_30 dX6_pass_31 dX6_pass_34 dX6_pass_37 (Nat.le_of_ble_eq_true rfl) (Nat.le_of_ble_eq_true rfl) ⟨(show (0 + 0) + 1 ≤ 2 by omega), (show (0 + 0) + 6 ≤ 12 by omega)⟩ hlocks ⟨by omega, by omega⟩
  · replace hw := if_f hw c4
    cases hw
    exact rw_throw (lv := [(0, .ref (gS γ 7 0)), (1, .int a1)]) (text := "ticks is out of range") hX hR hfl 2 61 205 65 rfl XN_fit2 XNS_fit gw_303 gw_18 (by decide +kernel) xa_2 xg_2 hl.1 hxt dX6_pass_10 dX6_pass_13 dX6_pass_14 dX6_pass_16 dX6_pass_19 (Nat.le_of_ble_eq_true rfl) (Nat.le_of_ble_eq_true rfl) ⟨(show (0 + 0) + 1 ≤ 2 by omega), (show (0 + 0) + 6 ≤ 12 by omega)⟩ hlocks ⟨by omega, by omega⟩
set_option maxHeartbeats 8000000 in
set_option maxRecDepth 100000 in
theorem C_f7_hasCallGoing (l : Launch) (γ : GT) (ad : Nat → Nat → Nat) {fu : Nat} (a1 : (Option Nat)) (σ : St) (r : Bool) (hw : f7_hasCallGoing fu a1 σ = some r) : Met l yX6_hasCallGoing (Cond.code yX6_hasCallGoing cX6_hasCallGoing 4 (Option.some Jvm.ClassFile.FieldType.boolean) :: GW) (rmo 15 0 0) (va_Pc [.ref (gS γ 7 0), va_rf (Option.map (Ad γ ad 2) a1)] (RU γ ad σ)) (QI γ ad σ (b2i r)) 0 0 (gA γ) := by
  refine Met.ofW (cc := cX6_hasCallGoing) (maxL := 4) (ret := (Option.some Jvm.ClassFile.FieldType.boolean)) (by decide +kernel) rfl ?_
  intro p e s m args below meth c s₁ B hml hv
  obtain ⟨rfl, hU⟩ := hv
  obtain ⟨hX, hR⟩ := cx_of (own := RX6) B hml rfl hU
  have hr := B.returns
  have hlocks := B.notSynchronized
  have hc0 : (0 : Nat) ≤ 0 := Nat.le_refl 0
  show W p l e (rmo 15 0 0) s m ([.ref (gS γ 7 0), va_rf (Option.map (Ad γ ad 2) a1)] : List Value).toArray below meth c s.heap [] 0 0 (MQ below (QI γ ad σ (b2i r)) ([.ref (gS γ 7 0), va_rf (Option.map (Ad γ ad 2) a1)] : List Value).toArray s 0 0 (gA γ)) (entryFrame m ([.ref (gS γ 7 0), va_rf (Option.map (Ad γ ad 2) a1)] : List Value).toArray 4)
  unfold f7_hasCallGoing at hw
  have L2 : ∀ (x1 : (Option Nat)) (n : Nat) (s9 : Int32) (cells slots : Nat), cells ≤ 0 → slots ≤ 0 → ∀ (H : Heap) (locs : List Loc) (ls : Array Slot), lp (fun s8 => f7_hasCallGoing_b2 fu x1 s8 σ) n s9 = some r → RS γ ad σ s H locs → lh ls 4 [(0, .ref (gS γ 7 0)), (1, va_rf (Option.map (Ad γ ad 2) x1)), (2, .int s9)] → W p l e (rmo 15 0 0) s m ([.ref (gS γ 7 0), va_rf (Option.map (Ad γ ad 2) a1)] : List Value).toArray below meth c H locs cells slots (MQ below (QI γ ad σ (b2i r)) ([.ref (gS γ 7 0), va_rf (Option.map (Ad γ ad 2) a1)] : List Value).toArray s 0 0 (gA γ)) (F0 m 2 ls []) := by
    intro x1 n2
    induction n2 with
    | zero => intro s9 cells slots hc1 hc2 H locs ls hw hR hl; exact (lp_zero hw).elim
    | succ n2 ih2 =>
      intro x2 cells slots hc1 hc2 H locs ls hw hR hl
      obtain ⟨o2, hw1, hb2, ho2⟩ := lp_succ hw
      replace hw := hw1
      clear hw1
      replace hw : f7_hasCallGoing_b2 fu x1 x2 σ = some o2 := hw
      replace hl : lh ls 4 [(0, .ref (gS γ 7 0)), (1, va_rf (Option.map (Ad γ ad 2) x1)), (2, .int x2)] := hl
      unfold f7_hasCallGoing_b2 at hw
      have J45 : ∀ (x2 : Int32) (cells slots : Nat), cells ≤ 0 → slots ≤ 0 → ∀ (H : Heap) (locs : List Loc) (ls : Array Slot), f7_hasCallGoing_j45 fu x1 x2 σ = some o2 → RS γ ad σ s H locs → lh ls 4 [(0, .ref (gS γ 7 0)), (1, va_rf (Option.map (Ad γ ad 2) x1)), (2, .int x2)] → W p l e (rmo 15 0 0) s m ([.ref (gS γ 7 0), va_rf (Option.map (Ad γ ad 2) a1)] : List Value).toArray below meth c H locs cells slots (MQ below (QI γ ad σ (b2i r)) ([.ref (gS γ 7 0), va_rf (Option.map (Ad γ ad 2) a1)] : List Value).toArray s 0 0 (gA γ)) (F0 m 45 ls []) := by
        intro x2 cells slots hc1 hc2 H locs ls hw hR hl
        unfold f7_hasCallGoing_j45 at hw
        refine rw_iinc (k := 2) (v := (x2 + 1)) (lv' := [(2, .int (x2 + 1)), (0, .ref (gS γ 7 0)), (1, va_rf (Option.map (Ad γ ad 2) x1))]) hX hl rfl (congrArg (fun q => x2 + q) (show Int32.ofInt 1 = 1 by decide)) (by decide) rfl dX6_hasCallGoing_45 (fun ls hl1 => ?_)
        replace hl := hl1
        clear hl1
        refine lv_goto (tgt := 2) hX.1.1 hX.1.2.1 dX6_hasCallGoing_48 (by decide) ?_
        exact ih2 _ _ _ (by omega) (by omega) _ _ _ (lp_back hw hb2) hR (lh_sub hl [1, 2, 0] rfl)
      refine rw_iload_n hX hl 2 rfl dX6_hasCallGoing_2 rfl ?_
      refine rw_aload_n hX hl 0 rfl (Or.inr ⟨_, rfl⟩) dX6_hasCallGoing_3 rfl ?_
      refine rw_get hX hR 7 4 0 (C := RX6) (T := TX6) (N := 11) rfl (by decide) (Nat.le_of_ble_eq_true rfl) rfl (v := .ref (gS γ 0 4)) rfl uw_X6 gw_153 rfl dX6_hasCallGoing_4 ?_
      refine rw_cVi hX hR pk_lsize (mc := 0) (ms := 0) ⟨rfl, rfl, Nat.le_of_ble_eq_true rfl, Nat.le_of_ble_eq_true rfl⟩ (As := []) (rest := [.int x2]) rfl (C_lsize l γ ad σ 4 (by decide)) gw_209 gw_210 gw_211 (rs_recvL hX hR 4 (by decide)) rfl hl.1 (ca1 rfl ca0) (Nat.le_of_ble_eq_true rfl) dX6_hasCallGoing_7 ⟨(show cells + 0 ≤ 0 by omega), (show slots + 0 ≤ 0 by omega)⟩ (fun H locs hR1 => ?_)
      replace hR := hR1
      clear hR1
      refine lv_icmp_ge (x := x2) (y := (nI (gl σ 4).length)) (tgt := 51) hX.1.1 hX.1.2.1 dX6_hasCallGoing_10 (by decide) (fun c1 => ?_) (fun c1 => ?_)
      · replace hw := if_t hw c1
        replace hw := lp_out hw ho2
        refine lv_iconst (v := 0) hX.1.1 hX.1.2.1 dX6_hasCallGoing_51 (by decide) ?_
        refine W.widen (k := 0) (n := 0) (by omega) (by omega) ?_
        exact rq_z hX hR hr (v := false) rfl hw dX6_hasCallGoing_52 hlocks
      · replace hw := if_f hw c1
        refine rw_aload_n hX hl 0 rfl (Or.inr ⟨_, rfl⟩) dX6_hasCallGoing_13 rfl ?_
        refine rw_get hX hR 7 4 0 (C := RX6) (T := TX6) (N := 11) rfl (by decide) (Nat.le_of_ble_eq_true rfl) rfl (v := .ref (gS γ 0 4)) rfl uw_X6 gw_153 rfl dX6_hasCallGoing_14 ?_
        refine rw_iload_n hX hl 2 rfl dX6_hasCallGoing_17 rfl ?_
        obtain ⟨h3, k2, h4, h5, hw1⟩ := lg_some hw
        replace hw := hw1
        clear hw1
        refine rw_cVq (r := some k2) (k := 1) hX hR pk_lget (mc := 0) (ms := 0) ⟨rfl, rfl, Nat.le_of_ble_eq_true rfl, Nat.le_of_ble_eq_true rfl⟩ (As := [.int x2]) (rest := []) rfl (C_lget l γ ad σ 4 x2 k2 (by decide) h3 h4) gw_281 gw_282 gw_283 (rs_recvL hX hR 4 (by decide)) rfl hl.1 ca0 (Nat.le_of_ble_eq_true rfl) dX6_hasCallGoing_18 ⟨(show (cells + 0) + 0 ≤ 0 by omega), (show (slots + 0) + 0 ≤ 0 by omega)⟩ (fun H locs hR1 => ?_)
        replace hR := hR1
        clear hR1
        refine va_castS (a := Ad γ ad 1 k2) (nm := RX0) hX.1.1 hX.1.2.1 hX.1.2.2.2.1 (hX.1.2.2.2.2 _ gw_512) (hX.2.1.1 1 (RX0, TX0, 3) rfl).2 (rs_recv hX hR 1 k2 (C := RX0) (T := TX0) (N := 3) rfl (by decide) h5 rfl) dX6_hasCallGoing_21 ?_
        refine rw_astore_n (lv' := [(3, .ref (Ad γ ad 1 k2)), (0, .ref (gS γ 7 0)), (1, va_rf (Option.map (Ad γ ad 2) x1)), (2, .int x2)]) hX hl (by decide) rfl (Or.inr ⟨_, rfl⟩) dX6_hasCallGoing_24 rfl (fun ls hl1 => ?_)
        replace hl := hl1
        clear hl1
        refine rw_aload_n hX hl 0 rfl (Or.inr ⟨_, rfl⟩) dX6_hasCallGoing_25 rfl ?_
        refine rw_getN hX hR 1 2 k2 (C := RX0) (T := TX0) (N := 3) rfl (by decide) h5 rfl (v := .int (gi σ 102 k2)) rfl uw_X0 nw_665 rfl dX6_hasCallGoing_26 ?_
        refine lv_if_ne (x := (gi σ 102 k2)) (tgt := 45) hX.1.1 hX.1.2.1 dX6_hasCallGoing_29 (by decide) (fun c6 => ?_) (fun c6 => ?_)
        · replace hw := if_f hw c6
          exact J45 x2 _ _ (by omega) (by omega) _ _ _ hw hR (lh_sub hl [1, 2, 3] rfl)
        · replace hw := if_t hw c6
          refine rw_aload_n hX hl 0 rfl (Or.inr ⟨_, rfl⟩) dX6_hasCallGoing_32 rfl ?_
          obtain ⟨p7, q8⟩ : ∃ o, gp σ 100 k2 = o := ⟨_, rfl⟩
          replace hw := lt_eq hw q8
          refine rw_getN hX hR 1 0 k2 (C := RX0) (T := TX0) (N := 3) rfl (by decide) h5 rfl (v := va_rf (Option.map (Ad γ ad 5) p7)) (by rw [← q8]; rfl) uw_X0 nw_661 rfl dX6_hasCallGoing_33 ?_
          obtain ⟨i9, e10, h11, hw1⟩ := dr_some hw
          replace hw := hw1
          clear hw1
          subst e10
          obtain ⟨p12, q13⟩ : ∃ o, gp σ 500 i9 = o := ⟨_, rfl⟩
          replace hw := lt_eq hw q13
          refine rw_getN hX hR 5 0 i9 (C := RX4) (T := TX4) (N := 3) rfl (by decide) h11 rfl (v := va_rf (Option.map (Ad γ ad 2) p12)) (by rw [← q13]; rfl) uw_X4 nw_610 rfl dX6_hasCallGoing_36 ?_
          refine rw_aload_n hX hl 2 rfl (va_rf_or _) dX6_hasCallGoing_39 rfl ?_
          obtain ⟨h14, hw1⟩ := ck_some hw
          replace hw := hw1
          clear hw1
          obtain ⟨h15, hw1⟩ := ck_some hw
          replace hw := hw1
          clear hw1
          refine rw_acmpne hX hR 2 (by decide) (o1 := p12) (o2 := x1) h14 h15 (tgt := 45) dX6_hasCallGoing_40 (by decide) (fun c16 => ?_) (fun c16 => ?_)
          · replace hw := if_f hw c16
            exact J45 x2 _ _ (by omega) (by omega) _ _ _ hw hR (lh_sub hl [1, 2, 3] rfl)
          · replace hw := if_t hw c16
            replace hw := lp_out hw ho2
            refine lv_iconst (v := 1) hX.1.1 hX.1.2.1 dX6_hasCallGoing_43 (by decide) ?_
            refine W.widen (k := 0) (n := 0) (by omega) (by omega) ?_
            exact rq_z hX hR hr (v := true) rfl hw dX6_hasCallGoing_44 hlocks
  refine rw_entry (ca1 rfl (ca1 (rf_cat _) ca0)) (Nat.le_of_ble_eq_true rfl) (fun ls hl1 => ?_)
  replace hl := hl1
  clear hl1
  refine lv_iconst (v := 0) hX.1.1 hX.1.2.1 dX6_hasCallGoing_0 (by decide) ?_
  refine rw_istore_n (lv' := [(2, .int 0), (0, .ref (gS γ 7 0)), (1, va_rf (Option.map (Ad γ ad 2) a1))]) hX hl (by decide) rfl dX6_hasCallGoing_1 rfl (fun ls hl1 => ?_)
  replace hl := hl1
  clear hl1
  exact L2 a1 _ _ _ _ (by omega) (by omega) _ _ _ hw hR (lh_sub hl [1, 2, 0] rfl)
set_option maxHeartbeats 8000000 in
set_option maxRecDepth 100000 in
theorem C_f7_wakeTheSuspended (l : Launch) (γ : GT) (ad : Nat → Nat → Nat) {fu : Nat} (σ : St) (r : Int32) (σ' : St) (hw : f7_wakeTheSuspended fu σ = some (r, σ')) : Met l yX6_wakeTheSuspended (Cond.code yX6_wakeTheSuspended cX6_wakeTheSuspended 4 (Option.some Jvm.ClassFile.FieldType.int) :: GW) (rmo 81 0 0) (va_Pc [.ref (gS γ 7 0)] (RU γ ad σ)) (QI γ ad σ' r) 0 0 (gA γ) := by
  refine Met.ofW (cc := cX6_wakeTheSuspended) (maxL := 4) (ret := (Option.some Jvm.ClassFile.FieldType.int)) (by decide +kernel) rfl ?_
  intro p e s m args below meth c s₁ B hml hv
  obtain ⟨rfl, hU⟩ := hv
  obtain ⟨hX, hR⟩ := cx_of (own := RX6) B hml rfl hU
  have hr := B.returns
  have hlocks := B.notSynchronized
  have hc0 : (0 : Nat) ≤ 0 := Nat.le_refl 0
  show W p l e (rmo 81 0 0) s m ([.ref (gS γ 7 0)] : List Value).toArray below meth c s.heap [] 0 0 (MQ below (QI γ ad σ' r) ([.ref (gS γ 7 0)] : List Value).toArray s 0 0 (gA γ)) (entryFrame m ([.ref (gS γ 7 0)] : List Value).toArray 4)
  unfold f7_wakeTheSuspended at hw
  have L4 : ∀ (n : Nat) (s9 : (Int32 × Int32 × St)) (cells slots : Nat), cells ≤ 0 → slots ≤ 0 → ∀ (H : Heap) (locs : List Loc) (ls : Array Slot), lp (fun s8 => f7_wakeTheSuspended_b4 fu s8.1 s8.2.1 s8.2.2) n s9 = some (r, σ') → RS γ ad (s9.2.2) s H locs → lh ls 4 [(0, .ref (gS γ 7 0)), (1, .int s9.1), (2, .int s9.2.1)] → W p l e (rmo 81 0 0) s m ([.ref (gS γ 7 0)] : List Value).toArray below meth c H locs cells slots (MQ below (QI γ ad σ' r) ([.ref (gS γ 7 0)] : List Value).toArray s 0 0 (gA γ)) (F0 m 4 ls []) := by
    intro n4
    induction n4 with
    | zero => intro s9 cells slots hc1 hc2 H locs ls hw hR hl; exact (lp_zero hw).elim
    | succ n4 ih4 =>
      intro s9 cells slots hc1 hc2 H locs ls hw hR hl
      obtain ⟨o4, hw1, hb4, ho4⟩ := lp_succ hw
      replace hw := hw1
      clear hw1
      obtain ⟨x1, x2, σ⟩ := s9
      replace hw : f7_wakeTheSuspended_b4 fu x1 x2 σ = some o4 := hw
      replace hR : RS γ ad σ s H locs := hR
      replace hl : lh ls 4 [(0, .ref (gS γ 7 0)), (1, .int x1), (2, .int x2)] := hl
      unfold f7_wakeTheSuspended_b4 at hw
      have J48 : ∀ (x1 : Int32) (x2 : Int32) (σ : St) (cells slots : Nat), cells ≤ 0 → slots ≤ 0 → ∀ (H : Heap) (locs : List Loc) (ls : Array Slot), f7_wakeTheSuspended_j48 fu x1 x2 σ = some o4 → RS γ ad σ s H locs → lh ls 4 [(0, .ref (gS γ 7 0)), (1, .int x1), (2, .int x2)] → W p l e (rmo 81 0 0) s m ([.ref (gS γ 7 0)] : List Value).toArray below meth c H locs cells slots (MQ below (QI γ ad σ' r) ([.ref (gS γ 7 0)] : List Value).toArray s 0 0 (gA γ)) (F0 m 48 ls []) := by
        intro x1 x2 σ cells slots hc1 hc2 H locs ls hw hR hl
        unfold f7_wakeTheSuspended_j48 at hw
        refine rw_iinc (k := 2) (v := (x2 + 1)) (lv' := [(2, .int (x2 + 1)), (0, .ref (gS γ 7 0)), (1, .int x1)]) hX hl rfl (congrArg (fun q => x2 + q) (show Int32.ofInt 1 = 1 by decide)) (by decide) rfl dX6_wakeTheSuspended_48 (fun ls hl1 => ?_)
        replace hl := hl1
        clear hl1
        refine lv_goto (tgt := 4) hX.1.1 hX.1.2.1 dX6_wakeTheSuspended_51 (by decide) ?_
        exact ih4 _ _ _ (by omega) (by omega) _ _ _ (lp_back hw hb4) hR (lh_sub hl [1, 2, 0] rfl)
      refine rw_iload_n hX hl 2 rfl dX6_wakeTheSuspended_4 rfl ?_
      refine rw_aload_n hX hl 0 rfl (Or.inr ⟨_, rfl⟩) dX6_wakeTheSuspended_5 rfl ?_
      refine rw_get hX hR 7 1 0 (C := RX6) (T := TX6) (N := 11) rfl (by decide) (Nat.le_of_ble_eq_true rfl) rfl (v := .ref (gS γ 0 1)) rfl uw_X6 gw_150 rfl dX6_wakeTheSuspended_6 ?_
      refine rw_cVi hX hR pk_lsize (mc := 0) (ms := 0) ⟨rfl, rfl, Nat.le_of_ble_eq_true rfl, Nat.le_of_ble_eq_true rfl⟩ (As := []) (rest := [.int x2]) rfl (C_lsize l γ ad σ 1 (by decide)) gw_209 gw_210 gw_211 (rs_recvL hX hR 1 (by decide)) rfl hl.1 (ca1 rfl ca0) (Nat.le_of_ble_eq_true rfl) dX6_wakeTheSuspended_9 ⟨(show cells + 0 ≤ 0 by omega), (show slots + 0 ≤ 0 by omega)⟩ (fun H locs hR1 => ?_)
      replace hR := hR1
      clear hR1
      refine lv_icmp_ge (x := x2) (y := (nI (gl σ 1).length)) (tgt := 54) hX.1.1 hX.1.2.1 dX6_wakeTheSuspended_12 (by decide) (fun c1 => ?_) (fun c1 => ?_)
      · replace hw := if_t hw c1
        replace hw := lp_out hw ho4
        refine rw_iload_n hX hl 1 rfl dX6_wakeTheSuspended_54 rfl ?_
        refine W.widen (k := 0) (n := 0) (by omega) (by omega) ?_
        exact rq_ie hX hR hr hw dX6_wakeTheSuspended_55 hlocks
      · replace hw := if_f hw c1
        refine rw_aload_n hX hl 0 rfl (Or.inr ⟨_, rfl⟩) dX6_wakeTheSuspended_15 rfl ?_
        refine rw_get hX hR 7 1 0 (C := RX6) (T := TX6) (N := 11) rfl (by decide) (Nat.le_of_ble_eq_true rfl) rfl (v := .ref (gS γ 0 1)) rfl uw_X6 gw_150 rfl dX6_wakeTheSuspended_16 ?_
        refine rw_iload_n hX hl 2 rfl dX6_wakeTheSuspended_19 rfl ?_
        obtain ⟨h3, k2, h4, h5, hw1⟩ := lg_some hw
        replace hw := hw1
        clear hw1
        refine rw_cVq (r := some k2) (k := 2) hX hR pk_lget (mc := 0) (ms := 0) ⟨rfl, rfl, Nat.le_of_ble_eq_true rfl, Nat.le_of_ble_eq_true rfl⟩ (As := [.int x2]) (rest := []) rfl (C_lget l γ ad σ 1 x2 k2 (by decide) h3 h4) gw_281 gw_282 gw_283 (rs_recvL hX hR 1 (by decide)) rfl hl.1 ca0 (Nat.le_of_ble_eq_true rfl) dX6_wakeTheSuspended_20 ⟨(show (cells + 0) + 0 ≤ 0 by omega), (show (slots + 0) + 0 ≤ 0 by omega)⟩ (fun H locs hR1 => ?_)
        replace hR := hR1
        clear hR1
        refine va_castS (a := Ad γ ad 2 k2) (nm := RX1) hX.1.1 hX.1.2.1 hX.1.2.2.2.1 (hX.1.2.2.2.2 _ gw_295) (hX.2.1.1 2 (RX1, TX1, 18) rfl).2 (rs_recv hX hR 2 k2 (C := RX1) (T := TX1) (N := 18) rfl (by decide) h5 rfl) dX6_wakeTheSuspended_23 ?_
        refine rw_astore_n (lv' := [(3, .ref (Ad γ ad 2 k2)), (0, .ref (gS γ 7 0)), (1, .int x1), (2, .int x2)]) hX hl (by decide) rfl (Or.inr ⟨_, rfl⟩) dX6_wakeTheSuspended_26 rfl (fun ls hl1 => ?_)
        replace hl := hl1
        clear hl1
        refine rw_aload_n hX hl 0 rfl (Or.inr ⟨_, rfl⟩) dX6_wakeTheSuspended_27 rfl ?_
        refine rw_getN hX hR 2 16 k2 (C := RX1) (T := TX1) (N := 18) rfl (by decide) h5 rfl (v := .int (b2i (gb σ 216 k2))) rfl uw_X1 nw_368 rfl dX6_wakeTheSuspended_28 ?_
        refine rw_ifeqZ (b := (gb σ 216 k2)) (tgt := 48) hX dX6_wakeTheSuspended_31 (by decide) (fun c6 => ?_) (fun c6 => ?_)
        · replace hw := if_f hw c6
          exact J48 x1 x2 σ _ _ (by omega) (by omega) _ _ _ hw hR (lh_sub hl [1, 2, 3] rfl)
        · replace hw := if_t hw c6
          refine rw_aload_n hX hl 0 rfl (Or.inr ⟨_, rfl⟩) dX6_wakeTheSuspended_34 rfl ?_
          refine lv_iconst (v := 0) hX.1.1 hX.1.2.1 dX6_wakeTheSuspended_35 (by decide) ?_
          refine rw_putbN (x := false) hX hR 2 16 k2 216 (C := RX1) (T := TX1) (N := 18) rfl (by decide) rfl rfl h5 rfl uw_X1 tyX1 tyX1_ok nmX1 nw_368 rfl rfl (by decide) dX6_wakeTheSuspended_36 (fun σ1 H locs e1 hR1 => ?_)
          replace hR := hR1
          clear hR1
          subst e1
          refine rw_aload_n hX hl 1 rfl (Or.inr ⟨_, rfl⟩) dX6_wakeTheSuspended_39 rfl ?_
          refine rw_aload_n hX hl 0 rfl (Or.inr ⟨_, rfl⟩) dX6_wakeTheSuspended_40 rfl ?_
          refine lv_iconst (v := 0) hX.1.1 hX.1.2.1 dX6_wakeTheSuspended_41 (by decide) ?_
          obtain ⟨σ8, g9, hw1⟩ := ob1_some hw
          replace hw := hw1
          clear hw1
          refine rw_cVv hX hR pk_f7_wake (mc := 0) (ms := 0) ⟨rfl, rfl, (show 80 + 1 ≤ 81 by omega), (show 8 + (3 + 11) + 64 * 80 ≤ 64 * 81 by omega)⟩ (As := [va_rf (Option.map (Ad γ ad 2) (some k2)), .int 0]) (rest := []) rfl (C_f7_wake l γ ad (some k2) 0 (zb σ 216 k2 false) σ8 g9) gw_461 gw_463 gs_18 (rs_recv hX hR 7 0 (C := RX6) (T := TX6) (N := 11) rfl (by decide) (Nat.le_of_ble_eq_true rfl) rfl) rfl hl.1 ca0 (Nat.le_of_ble_eq_true rfl) dX6_wakeTheSuspended_42 ⟨(show ((cells + 0) + 0) + 0 ≤ 0 by omega), (show ((slots + 0) + 0) + 0 ≤ 0 by omega)⟩ (fun H locs hR1 => ?_)
          replace hR := hR1
          clear hR1
          refine rw_iinc (k := 2) (v := (x1 + 1)) (lv' := [(1, .int (x1 + 1)), (3, .ref (Ad γ ad 2 k2)), (0, .ref (gS γ 7 0)), (2, .int x2)]) hX hl rfl (congrArg (fun q => x1 + q) (show Int32.ofInt 1 = 1 by decide)) (by decide) rfl dX6_wakeTheSuspended_45 (fun ls hl1 => ?_)
          replace hl := hl1
          clear hl1
          exact J48 (x1 + 1) x2 σ8 _ _ (by omega) (by omega) _ _ _ hw hR (lh_sub hl [2, 0, 3] rfl)
  refine rw_entry (ca1 rfl ca0) (Nat.le_of_ble_eq_true rfl) (fun ls hl1 => ?_)
  replace hl := hl1
  clear hl1
  refine lv_iconst (v := 0) hX.1.1 hX.1.2.1 dX6_wakeTheSuspended_0 (by decide) ?_
  refine rw_istore_n (lv' := [(1, .int 0), (0, .ref (gS γ 7 0))]) hX hl (by decide) rfl dX6_wakeTheSuspended_1 rfl (fun ls hl1 => ?_)
  replace hl := hl1
  clear hl1
  refine lv_iconst (v := 0) hX.1.1 hX.1.2.1 dX6_wakeTheSuspended_2 (by decide) ?_
  refine rw_istore_n (lv' := [(2, .int 0), (1, .int 0), (0, .ref (gS γ 7 0))]) hX hl (by decide) rfl dX6_wakeTheSuspended_3 rfl (fun ls hl1 => ?_)
  replace hl := hl1
  clear hl1
  exact L4 _ _ _ _ (by omega) (by omega) _ _ _ hw hR (lh_sub hl [2, 1, 0] rfl)
set_option maxHeartbeats 8000000 in
set_option maxRecDepth 100000 in
theorem C_f7_suspend (l : Launch) (hfl : l.stackTraces = false) (γ : GT) (ad : Nat → Nat → Nat) {fu : Nat} (σ : St) (r : Except Nat Int32) (σ' : St) (hw : f7_suspend fu σ = some (r, σ')) : vx_Met l yX6_suspend (Cond.code yX6_suspend cX6_suspend 3 (Option.some Jvm.ClassFile.FieldType.int) :: GW) (rmo 82 1 6) (va_Pc [.ref (gS γ 7 0)] (RU γ ad σ)) (QXI γ ad σ' r) (QXX γ ad σ' r) 1 6 (gA γ) := by
  refine vx_ofW (cc := cX6_suspend) (maxL := 3) (ret := (Option.some Jvm.ClassFile.FieldType.int)) (by decide) rfl ?_
  intro p e s m args below meth c s₁ B hml hxt hv
  obtain ⟨rfl, hU⟩ := hv
  obtain ⟨hX, hR⟩ := cx_of (own := RX6) B hml rfl hU
  have hr := B.returns
  have hlocks := B.notSynchronized
  have hc0 : (0 : Nat) ≤ 0 := Nat.le_refl 0
  show W p l e (rmo 82 1 6) s m ([.ref (gS γ 7 0)] : List Value).toArray below meth c s.heap [] 0 0 (vx_MQ below (QXI γ ad σ' r) (QXX γ ad σ' r) ([.ref (gS γ 7 0)] : List Value).toArray s 1 6 (gA γ)) (entryFrame m ([.ref (gS γ 7 0)] : List Value).toArray 3)
  unfold f7_suspend at hw
  have L28 : ∀ (n : Nat) (s9 : (Int32 × St)) (cells slots : Nat), cells ≤ 1 → slots ≤ 6 → ∀ (H : Heap) (locs : List Loc) (ls : Array Slot), lp (fun s8 => f7_suspend_b28 fu s8.1 s8.2) n s9 = some (r, σ') → RS γ ad (s9.2) s H locs → lh ls 3 [(0, .ref (gS γ 7 0)), (1, .int s9.1)] → W p l e (rmo 82 1 6) s m ([.ref (gS γ 7 0)] : List Value).toArray below meth c H locs cells slots (vx_MQ below (QXI γ ad σ' r) (QXX γ ad σ' r) ([.ref (gS γ 7 0)] : List Value).toArray s 1 6 (gA γ)) (F0 m 28 ls []) := by
    intro n28
    induction n28 with
    | zero => intro s9 cells slots hc1 hc2 H locs ls hw hR hl; exact (lp_zero hw).elim
    | succ n28 ih28 =>
      intro s9 cells slots hc1 hc2 H locs ls hw hR hl
      obtain ⟨o28, hw1, hb28, ho28⟩ := lp_succ hw
      replace hw := hw1
      clear hw1
      obtain ⟨x1, σ⟩ := s9
      replace hw : f7_suspend_b28 fu x1 σ = some o28 := hw
      replace hR : RS γ ad σ s H locs := hR
      replace hl : lh ls 3 [(0, .ref (gS γ 7 0)), (1, .int x1)] := hl
      unfold f7_suspend_b28 at hw
      have J86 : ∀ (x1 : Int32) (σ : St) (cells slots : Nat), cells ≤ 1 → slots ≤ 6 → ∀ (H : Heap) (locs : List Loc) (ls : Array Slot), f7_suspend_j86 fu x1 σ = some o28 → RS γ ad σ s H locs → lh ls 3 [(0, .ref (gS γ 7 0)), (1, .int x1)] → W p l e (rmo 82 1 6) s m ([.ref (gS γ 7 0)] : List Value).toArray below meth c H locs cells slots (vx_MQ below (QXI γ ad σ' r) (QXX γ ad σ' r) ([.ref (gS γ 7 0)] : List Value).toArray s 1 6 (gA γ)) (F0 m 86 ls []) := by
        intro x1 σ cells slots hc1 hc2 H locs ls hw hR hl
        unfold f7_suspend_j86 at hw
        refine rw_iinc (k := 1) (v := (x1 + (-1))) (lv' := [(1, .int (x1 + (-1))), (0, .ref (gS γ 7 0))]) hX hl rfl (congrArg (fun q => x1 + q) (show Int32.ofInt (-1) = (-1) by decide)) (by decide) rfl dX6_suspend_86 (fun ls hl1 => ?_)
        replace hl := hl1
        clear hl1
        refine lv_goto (tgt := 28) hX.1.1 hX.1.2.1 dX6_suspend_89 (by decide) ?_
        exact ih28 _ _ _ (by omega) (by omega) _ _ _ (lp_back hw hb28) hR (lh_sub hl [1, 0] rfl)
      have J69 : ∀ (x1 : Int32) (x2 : Nat) (σ : St) (cells slots : Nat), cells ≤ 1 → slots ≤ 6 → ∀ (H : Heap) (locs : List Loc) (ls : Array Slot), f7_suspend_j69 fu x1 x2 σ = some o28 → RS γ ad σ s H locs → lh ls 3 [(0, .ref (gS γ 7 0)), (1, .int x1), (2, .ref (Ad γ ad 2 x2))] → W p l e (rmo 82 1 6) s m ([.ref (gS γ 7 0)] : List Value).toArray below meth c H locs cells slots (vx_MQ below (QXI γ ad σ' r) (QXX γ ad σ' r) ([.ref (gS γ 7 0)] : List Value).toArray s 1 6 (gA γ)) (F0 m 69 ls []) := by
        intro x1 x2 σ cells slots hc1 hc2 H locs ls hw hR hl
        unfold f7_suspend_j69 at hw
        refine rw_aload_n hX hl 2 rfl (Or.inr ⟨_, rfl⟩) dX6_suspend_69 rfl ?_
        obtain ⟨h8, hw1⟩ := ck_lt hw
        replace hw := hw1
        clear hw1
        refine rw_getN hX hR 2 12 x2 (C := RX1) (T := TX1) (N := 18) rfl (by decide) h8 rfl (v := .int (b2i (gb σ 212 x2))) rfl uw_X1 nw_364 rfl dX6_suspend_70 ?_
        refine rw_ifeqZ (b := (gb σ 212 x2)) (tgt := 86) hX dX6_suspend_73 (by decide) (fun c9 => ?_) (fun c9 => ?_)
        · replace hw := if_f hw c9
          exact J86 x1 σ _ _ (by omega) (by omega) _ _ _ hw hR (lh_sub hl [0, 1] rfl)
        · replace hw := if_t hw c9
          refine rw_aload_n hX hl 0 rfl (Or.inr ⟨_, rfl⟩) dX6_suspend_76 rfl ?_
          refine rw_aload_n hX hl 2 rfl (Or.inr ⟨_, rfl⟩) dX6_suspend_77 rfl ?_
          obtain ⟨σ11, g12, hw1⟩ := ob1_some hw
          replace hw := hw1
          clear hw1
          refine rw_cVv hX hR pk_f7_fallAsleep (mc := 0) (ms := 0) ⟨rfl, rfl, (show 3 + 1 ≤ 82 by omega), (show 8 + (2 + 11) + 64 * 3 ≤ 64 * 82 by omega)⟩ (As := [va_rf (Option.map (Ad γ ad 2) (some x2))]) (rest := []) rfl (C_f7_fallAsleep l γ ad (some x2) σ σ11 g12) gw_746 gw_748 gs_40 (rs_recv hX hR 7 0 (C := RX6) (T := TX6) (N := 11) rfl (by decide) (Nat.le_of_ble_eq_true rfl) rfl) rfl hl.1 ca0 (Nat.le_of_ble_eq_true rfl) dX6_suspend_78 ⟨(show cells + 0 ≤ 1 by omega), (show slots + 0 ≤ 6 by omega)⟩ (fun H locs hR1 => ?_)
          replace hR := hR1
          clear hR1
          refine rw_aload_n hX hl 2 rfl (Or.inr ⟨_, rfl⟩) dX6_suspend_81 rfl ?_
          refine lv_iconst (v := 1) hX.1.1 hX.1.2.1 dX6_suspend_82 (by decide) ?_
          obtain ⟨h13, hw1⟩ := ck_lt hw
          replace hw := hw1
          clear hw1
          refine rw_putbN (x := true) hX hR 2 16 x2 216 (C := RX1) (T := TX1) (N := 18) rfl (by decide) rfl rfl h13 rfl uw_X1 tyX1 tyX1_ok nmX1 nw_368 rfl rfl (by decide) dX6_suspend_83 (fun σ1 H locs e1 hR1 => ?_)
          replace hR := hR1
          clear hR1
          subst e1
          exact J86 x1 (zb σ11 216 x2 true) _ _ (by omega) (by omega) _ _ _ hw hR (lh_sub hl [0, 1] rfl)
      refine rw_iload_n hX hl 1 rfl dX6_suspend_28 rfl ?_
      refine lv_if_lt (x := x1) (tgt := 92) hX.1.1 hX.1.2.1 dX6_suspend_29 (by decide) (fun c2 => ?_) (fun c2 => ?_)
      · replace hw := if_t hw c2
        replace hw := lp_out hw ho28
        refine rw_aload_n hX hl 0 rfl (Or.inr ⟨_, rfl⟩) dX6_suspend_92 rfl ?_
        refine lv_iconst (v := 1) hX.1.1 hX.1.2.1 dX6_suspend_93 (by decide) ?_
        refine rw_putb (x := true) hX hR 7 9 0 709 (C := RX6) (T := TX6) (N := 11) rfl (by decide) rfl rfl (Nat.le_of_ble_eq_true rfl) rfl uw_X6 tyX6 tyX6_ok nmX6 gw_158 rfl rfl (by decide) dX6_suspend_94 (fun σ1 H locs e1 hR1 => ?_)
        replace hR := hR1
        clear hR1
        subst e1
        refine lv_iconst (v := (-1)) hX.1.1 hX.1.2.1 dX6_suspend_97 (by decide) ?_
        refine W.widen (k := 1) (n := 6) (by omega) (by omega) ?_
        exact ry_ie hX hR hr hw dX6_suspend_98 hlocks
      · replace hw := if_f hw c2
        refine rw_aload_n hX hl 0 rfl (Or.inr ⟨_, rfl⟩) dX6_suspend_32 rfl ?_
        refine rw_get hX hR 7 1 0 (C := RX6) (T := TX6) (N := 11) rfl (by decide) (Nat.le_of_ble_eq_true rfl) rfl (v := .ref (gS γ 0 1)) rfl uw_X6 gw_150 rfl dX6_suspend_33 ?_
        refine rw_iload_n hX hl 1 rfl dX6_suspend_36 rfl ?_
        obtain ⟨h4, k3, h5, h6, hw1⟩ := lg_some hw
        replace hw := hw1
        clear hw1
        refine rw_cVq (r := some k3) (k := 2) hX hR pk_lget (mc := 0) (ms := 0) ⟨rfl, rfl, Nat.le_of_ble_eq_true rfl, Nat.le_of_ble_eq_true rfl⟩ (As := [.int x1]) (rest := []) rfl (C_lget l γ ad σ 1 x1 k3 (by decide) h4 h5) gw_281 gw_282 gw_283 (rs_recvL hX hR 1 (by decide)) rfl hl.1 ca0 (Nat.le_of_ble_eq_true rfl) dX6_suspend_37 ⟨(show cells + 0 ≤ 1 by omega), (show slots + 0 ≤ 6 by omega)⟩ (fun H locs hR1 => ?_)
        replace hR := hR1
        clear hR1
        refine va_castS (a := Ad γ ad 2 k3) (nm := RX1) hX.1.1 hX.1.2.1 hX.1.2.2.2.1 (hX.1.2.2.2.2 _ gw_295) (hX.2.1.1 2 (RX1, TX1, 18) rfl).2 (rs_recv hX hR 2 k3 (C := RX1) (T := TX1) (N := 18) rfl (by decide) h6 rfl) dX6_suspend_40 ?_
        refine rw_astore_n (lv' := [(2, .ref (Ad γ ad 2 k3)), (0, .ref (gS γ 7 0)), (1, .int x1)]) hX hl (by decide) rfl (Or.inr ⟨_, rfl⟩) dX6_suspend_43 rfl (fun ls hl1 => ?_)
        replace hl := hl1
        clear hl1
        refine rw_aload_n hX hl 0 rfl (Or.inr ⟨_, rfl⟩) dX6_suspend_44 rfl ?_
        refine rw_getN hX hR 2 12 k3 (C := RX1) (T := TX1) (N := 18) rfl (by decide) h6 rfl (v := .int (b2i (gb σ 212 k3))) rfl uw_X1 nw_364 rfl dX6_suspend_45 ?_
        refine rw_ifeqZ (b := (gb σ 212 k3)) (tgt := 69) hX dX6_suspend_48 (by decide) (fun c7 => ?_) (fun c7 => ?_)
        · replace hw := if_f hw c7
          exact J69 x1 k3 σ _ _ (by omega) (by omega) _ _ _ hw hR (lh_sub hl [1, 2, 0] rfl)
        · replace hw := if_t hw c7
          refine rw_aload_n hX hl 1 rfl (Or.inr ⟨_, rfl⟩) dX6_suspend_51 rfl ?_
          refine rw_aload_n hX hl 0 rfl (Or.inr ⟨_, rfl⟩) dX6_suspend_52 rfl ?_
          obtain ⟨v14, g16, hw1⟩ := ob1_some hw
          replace hw := hw1
          clear hw1
          refine rw_cVi hX hR pk_f7_hasCallGoing (mc := 0) (ms := 0) ⟨rfl, rfl, (show 15 + 1 ≤ 82 by omega), (show 8 + (4 + 11) + 64 * 15 ≤ 64 * 82 by omega)⟩ (As := [va_rf (Option.map (Ad γ ad 2) (some k3))]) (rest := []) rfl (C_f7_hasCallGoing l γ ad (some k3) σ v14 g16) gw_757 gw_759 gs_41 (rs_recv hX hR 7 0 (C := RX6) (T := TX6) (N := 11) rfl (by decide) (Nat.le_of_ble_eq_true rfl) rfl) rfl hl.1 ca0 (Nat.le_of_ble_eq_true rfl) dX6_suspend_53 ⟨(show (cells + 0) + 0 ≤ 1 by omega), (show (slots + 0) + 0 ≤ 6 by omega)⟩ (fun H locs hR1 => ?_)
          replace hR := hR1
          clear hR1
          refine rw_ifeqZ (b := v14) (tgt := 69) hX dX6_suspend_56 (by decide) (fun c17 => ?_) (fun c17 => ?_)
          · replace hw := if_f hw c17
            exact J69 x1 k3 σ _ _ (by omega) (by omega) _ _ _ hw hR (lh_sub hl [1, 2, 0] rfl)
          · replace hw := if_t hw c17
            replace hw := lp_out hw ho28
            refine rw_aload_n hX hl 1 rfl (Or.inr ⟨_, rfl⟩) dX6_suspend_59 rfl ?_
            obtain ⟨v18, σ19, g20, hw1⟩ := ob2_some hw
            replace hw := hw1
            clear hw1
            refine rw_cVi hX hR pk_f7_wakeTheSuspended (mc := 0) (ms := 0) ⟨rfl, rfl, (show 81 + 1 ≤ 82 by omega), (show 8 + (4 + 11) + 64 * 81 ≤ 64 * 82 by omega)⟩ (As := []) (rest := []) rfl (C_f7_wakeTheSuspended l γ ad σ v18 σ19 g20) gw_761 gw_763 gs_42 (rs_recv hX hR 7 0 (C := RX6) (T := TX6) (N := 11) rfl (by decide) (Nat.le_of_ble_eq_true rfl) rfl) rfl hl.1 ca0 (Nat.le_of_ble_eq_true rfl) dX6_suspend_60 ⟨(show ((cells + 0) + 0) + 0 ≤ 1 by omega), (show ((slots + 0) + 0) + 0 ≤ 6 by omega)⟩ (fun H locs hR1 => ?_)
            replace hR := hR1
            clear hR1
            refine lv_pop hX.1.1 hX.1.2.1 dX6_suspend_63 rfl ?_
            refine rw_aload_n hX hl 0 rfl (Or.inr ⟨_, rfl⟩) dX6_suspend_64 rfl ?_
            obtain ⟨h21, hw1⟩ := ck_lt hw
            replace hw := hw1
            clear hw1
            refine rw_getN hX hR 2 0 k3 (C := RX1) (T := TX1) (N := 18) rfl (by decide) h21 rfl (v := .int (gi σ19 200 k3)) rfl uw_X1 nw_342 rfl dX6_suspend_65 ?_
            refine W.widen (k := 1) (n := 6) (by omega) (by omega) ?_
            exact ry_ie hX hR hr hw dX6_suspend_68 hlocks
  refine rw_entry (ca1 rfl ca0) (Nat.le_of_ble_eq_true rfl) (fun ls hl1 => ?_)
  replace hl := hl1
  clear hl1
  refine rw_aload_n hX hl 0 rfl (Or.inr ⟨_, rfl⟩) dX6_suspend_0 rfl ?_
  refine rw_get hX hR 7 9 0 (C := RX6) (T := TX6) (N := 11) rfl (by decide) (Nat.le_of_ble_eq_true rfl) rfl (v := .int (b2i (gb σ 709 0))) rfl uw_X6 gw_158 rfl dX6_suspend_1 ?_
  refine rw_ifeqZ (b := (gb σ 709 0)) (tgt := 18) hX dX6_suspend_4 (by decide) (fun c1 => ?_) (fun c1 => ?_)
  · replace hw := if_f hw c1
    refine rw_aload_n hX hl 0 rfl (Or.inr ⟨_, rfl⟩) dX6_suspend_18 rfl ?_
    refine rw_get hX hR 7 1 0 (C := RX6) (T := TX6) (N := 11) rfl (by decide) (Nat.le_of_ble_eq_true rfl) rfl (v := .ref (gS γ 0 1)) rfl uw_X6 gw_150 rfl dX6_suspend_19 ?_
    refine rw_cVi hX hR pk_lsize (mc := 0) (ms := 0) ⟨rfl, rfl, Nat.le_of_ble_eq_true rfl, Nat.le_of_ble_eq_true rfl⟩ (As := []) (rest := []) rfl (C_lsize l γ ad σ 1 (by decide)) gw_209 gw_210 gw_211 (rs_recvL hX hR 1 (by decide)) rfl hl.1 ca0 (Nat.le_of_ble_eq_true rfl) dX6_suspend_22 ⟨(show 0 + 0 ≤ 1 by omega), (show 0 + 0 ≤ 6 by omega)⟩ (fun H locs hR1 => ?_)
    replace hR := hR1
    clear hR1
    refine lv_iconst (v := 1) hX.1.1 hX.1.2.1 dX6_suspend_25 (by decide) ?_
    refine lv_isub (x := (nI (gl σ 1).length)) (y := 1) hX.1.1 hX.1.2.1 dX6_suspend_26 ?_
    refine rw_istore_n (lv' := [(1, .int ((nI (gl σ 1).length) - 1)), (0, .ref (gS γ 7 0))]) hX hl (by decide) rfl dX6_suspend_27 rfl (fun ls hl1 => ?_)
    replace hl := hl1
    clear hl1
    exact L28 _ _ _ _ (by omega) (by omega) _ _ _ hw hR (lh_sub hl [1, 0] rfl)
  · replace hw := if_t hw c1
    cases hw
    exact rw_throwW (lv := [(0, .ref (gS γ 7 0))]) (text := "the world is suspended") hX hR hfl 3 74 257 78 rfl XN_fit3 XNS_fit gw_320 gw_19 (by decide +kernel) xa_3 xg_3 hl.1 hxt dX6_suspend_7 dX6_suspend_10 dX6_suspend_11 dX6_suspend_14 dX6_suspend_17 (Nat.le_of_ble_eq_true rfl) (Nat.le_of_ble_eq_true rfl) ⟨(show 0 + 1 ≤ 1 by omega), (show 0 + 6 ≤ 6 by omega)⟩ hlocks ⟨by omega, by omega⟩
set_option maxHeartbeats 8000000 in
set_option maxRecDepth 100000 in
theorem C_f7_checkLine (l : Launch) (hfl : l.stackTraces = false) (γ : GT) (ad : Nat → Nat → Nat) {fu : Nat} (a0 : Int32) (σ : St) (r : Except Nat Unit) (hw : f7_checkLine fu a0 σ = some r) : vx_Met l yX6_checkLine (Cond.code yX6_checkLine cX6_checkLine 1 (Option.none : Option Jvm.ClassFile.FieldType) :: GW) (rmo 8 1 6) (va_Pc [.int a0] (RU γ ad σ)) (QXV γ ad σ r) (QXX γ ad σ r) 1 6 (gA γ) := by
  refine vx_ofW (cc := cX6_checkLine) (maxL := 1) (ret := (Option.none : Option Jvm.ClassFile.FieldType)) (by decide) rfl ?_
  intro p e s m args below meth c s₁ B hml hxt hv
  obtain ⟨rfl, hU⟩ := hv
  obtain ⟨hX, hR⟩ := cx_of (own := RX6) B hml rfl hU
  have hr := B.returns
  have hlocks := B.notSynchronized
  have hc0 : (0 : Nat) ≤ 0 := Nat.le_refl 0
  show W p l e (rmo 8 1 6) s m ([.int a0] : List Value).toArray below meth c s.heap [] 0 0 (vx_MQ below (QXV γ ad σ r) (QXX γ ad σ r) ([.int a0] : List Value).toArray s 1 6 (gA γ)) (entryFrame m ([.int a0] : List Value).toArray 1)
  unfold f7_checkLine at hw
  refine rw_entry (ca1 rfl ca0) (Nat.le_of_ble_eq_true rfl) (fun ls hl1 => ?_)
  replace hl := hl1
  clear hl1
  refine rw_iload_n hX hl 0 rfl dX6_checkLine_0 rfl ?_
  refine lv_if_lt (x := a0) (tgt := 10) hX.1.1 hX.1.2.1 dX6_checkLine_1 (by decide) (fun c1 => ?_) (fun c1 => ?_)
  · replace hw := if_t hw c1
    exact rw_throwW (lv := [(0, .int a0)]) (text := "there is no such line") hX hR hfl 1 136 346 140 (Option.some.inj hw).symm XN_fit1 XNS_fit gw_213 gw_15 (by decide +kernel) xa_1 xg_1 hl.1 hxt dX6_checkLine_10 dX6_checkLine_13 dX6_checkLine_14 dX6_checkLine_17 dX6_checkLine_20 (Nat.le_of_ble_eq_true rfl) (Nat.le_of_ble_eq_true rfl) ⟨(show 0 + 1 ≤ 1 by omega), (show 0 + 6 ≤ 6 by omega)⟩ hlocks ⟨by omega, by omega⟩
  · replace hw := if_f hw c1
    refine rw_iload_n hX hl 0 rfl dX6_checkLine_4 rfl ?_
    refine lv_bipush (v := 8) hX.1.1 hX.1.2.1 dX6_checkLine_5 (by decide) ?_
    refine lv_icmp_lt (x := a0) (y := 8) (tgt := 21) hX.1.1 hX.1.2.1 dX6_checkLine_7 (by decide) (fun c2 => ?_) (fun c2 => ?_)
    · replace hw := if_t hw c2
      refine W.widen (k := 1) (n := 6) (by omega) (by omega) ?_
      exact ry_v hX hR hr hw dX6_checkLine_21 hlocks
    · replace hw := if_f hw c2
      exact rw_throwW (lv := [(0, .int a0)]) (text := "there is no such line") hX hR hfl 1 136 346 140 (Option.some.inj hw).symm XN_fit1 XNS_fit gw_213 gw_15 (by decide +kernel) xa_1 xg_1 hl.1 hxt dX6_checkLine_10 dX6_checkLine_13 dX6_checkLine_14 dX6_checkLine_17 dX6_checkLine_20 (Nat.le_of_ble_eq_true rfl) (Nat.le_of_ble_eq_true rfl) ⟨(show 0 + 1 ≤ 1 by omega), (show 0 + 6 ≤ 6 by omega)⟩ hlocks ⟨by omega, by omega⟩
set_option maxHeartbeats 8000000 in
set_option maxRecDepth 100000 in
theorem C_f7_strikes (l : Launch) (hfl : l.stackTraces = false) (γ : GT) (ad : Nat → Nat → Nat) {fu : Nat} (a1 : Int32) (σ : St) (r : Except Nat Int32) (hw : f7_strikes fu a1 σ = some r) : vx_Met l yX6_strikes (Cond.code yX6_strikes cX6_strikes 2 (Option.some Jvm.ClassFile.FieldType.int) :: GW) (rmo 9 1 6) (va_Pc [.ref (gS γ 7 0), .int a1] (RU γ ad σ)) (QXI γ ad σ r) (QXX γ ad σ r) 1 6 (gA γ) := by
  refine vx_ofW (cc := cX6_strikes) (maxL := 2) (ret := (Option.some Jvm.ClassFile.FieldType.int)) (by decide) rfl ?_
  intro p e s m args below meth c s₁ B hml hxt hv
  obtain ⟨rfl, hU⟩ := hv
  obtain ⟨hX, hR⟩ := cx_of (own := RX6) B hml rfl hU
  have hr := B.returns
  have hlocks := B.notSynchronized
  have hc0 : (0 : Nat) ≤ 0 := Nat.le_refl 0
  show W p l e (rmo 9 1 6) s m ([.ref (gS γ 7 0), .int a1] : List Value).toArray below meth c s.heap [] 0 0 (vx_MQ below (QXI γ ad σ r) (QXX γ ad σ r) ([.ref (gS γ 7 0), .int a1] : List Value).toArray s 1 6 (gA γ)) (entryFrame m ([.ref (gS γ 7 0), .int a1] : List Value).toArray 2)
  unfold f7_strikes at hw
  refine rw_entry (ca1 rfl (ca1 rfl ca0)) (Nat.le_of_ble_eq_true rfl) (fun ls hl1 => ?_)
  replace hl := hl1
  clear hl1
  refine rw_iload_n hX hl 1 rfl dX6_strikes_0 rfl ?_
  obtain ⟨v1, g3, h4, h5⟩ := xb1_some hw
  refine rw_xSv hX hR pk_f7_checkLine (mc := 1) (ms := 6) ⟨rfl, rfl, (show 8 + 1 ≤ 9 by omega), (show 8 + (1 + 11) + 64 * 8 ≤ 64 * 9 by omega)⟩ (As := [.int a1]) (rest := []) rfl (C_f7_checkLine l hfl γ ad a1 σ v1 g3) gw_781 gw_782 rfl hl.1 ca0 (Nat.le_of_ble_eq_true rfl) dX6_strikes_1 ⟨(show 0 + 1 ≤ 1 by omega), (show 0 + 6 ≤ 6 by omega)⟩ (fun x ce q9 H locs hx hR1 h1 h2 h3 => ?_) (fun H locs hx hR1 => ?_)
  · replace hR := hR1
    clear hR1
    replace hw := h4 x hx
    cases hw
    exact rx_out hX hR hxt rfl h1 h2 h3 hlocks (by omega) (by omega)
  replace hR := hR1
  clear hR1
  replace hw := h5 () hx
  refine rw_aload_n hX hl 0 rfl (Or.inr ⟨_, rfl⟩) dX6_strikes_4 rfl ?_
  refine rw_get hX hR 7 6 0 (C := RX6) (T := TX6) (N := 11) rfl (by decide) (Nat.le_of_ble_eq_true rfl) rfl (v := .ref (gS γ 1706 0)) rfl uw_X6 gw_155 rfl dX6_strikes_5 ?_
  refine rw_iload_n hX hl 1 rfl dX6_strikes_8 rfl ?_
  obtain ⟨h7, hw1⟩ := ar_some hw
  replace hw := hw1
  clear hw1
  obtain ⟨j6, ej6⟩ : ∃ j, (a1 : Int32).toNatClampNeg = j := ⟨_, rfl⟩
  rw [ej6] at hw
  refine rw_iald hX hR 706 (n := 8) (i := a1) (v := (gi σ 706 j6)) rfl (by decide) rfl rfl h7 (by rw [ej6]) dX6_strikes_9 ?_
  refine W.widen (k := 1) (n := 6) (by omega) (by omega) ?_
  exact ry_i hX hR hr hw dX6_strikes_10 hlocks
set_option maxHeartbeats 8000000 in
set_option maxRecDepth 100000 in
theorem C_f7_isShut (l : Launch) (hfl : l.stackTraces = false) (γ : GT) (ad : Nat → Nat → Nat) {fu : Nat} (a1 : Int32) (σ : St) (r : Except Nat Bool) (hw : f7_isShut fu a1 σ = some r) : vx_Met l yX6_isShut (Cond.code yX6_isShut cX6_isShut 2 (Option.some Jvm.ClassFile.FieldType.boolean) :: GW) (rmo 10 1 6) (va_Pc [.ref (gS γ 7 0), .int a1] (RU γ ad σ)) (QXZ γ ad σ r) (QXX γ ad σ r) 1 6 (gA γ) := by
  refine vx_ofW (cc := cX6_isShut) (maxL := 2) (ret := (Option.some Jvm.ClassFile.FieldType.boolean)) (by decide) rfl ?_
  intro p e s m args below meth c s₁ B hml hxt hv
  obtain ⟨rfl, hU⟩ := hv
  obtain ⟨hX, hR⟩ := cx_of (own := RX6) B hml rfl hU
  have hr := B.returns
  have hlocks := B.notSynchronized
  have hc0 : (0 : Nat) ≤ 0 := Nat.le_refl 0
  show W p l e (rmo 10 1 6) s m ([.ref (gS γ 7 0), .int a1] : List Value).toArray below meth c s.heap [] 0 0 (vx_MQ below (QXZ γ ad σ r) (QXX γ ad σ r) ([.ref (gS γ 7 0), .int a1] : List Value).toArray s 1 6 (gA γ)) (entryFrame m ([.ref (gS γ 7 0), .int a1] : List Value).toArray 2)
  unfold f7_isShut at hw
  refine rw_entry (ca1 rfl (ca1 rfl ca0)) (Nat.le_of_ble_eq_true rfl) (fun ls hl1 => ?_)
  replace hl := hl1
  clear hl1
  refine rw_aload_n hX hl 0 rfl (Or.inr ⟨_, rfl⟩) dX6_isShut_0 rfl ?_
  refine rw_iload_n hX hl 1 rfl dX6_isShut_1 rfl ?_
  obtain ⟨v1, g3, h4, h5⟩ := xb1_some hw
  refine rw_xVi hX hR pk_f7_strikes (mc := 1) (ms := 6) ⟨rfl, rfl, (show 9 + 1 ≤ 10 by omega), (show 8 + (2 + 11) + 64 * 9 ≤ 64 * 10 by omega)⟩ (As := [.int a1]) (rest := []) rfl (C_f7_strikes l hfl γ ad a1 σ v1 g3) gw_777 gw_778 gw_779 (rs_recv hX hR 7 0 (C := RX6) (T := TX6) (N := 11) rfl (by decide) (Nat.le_of_ble_eq_true rfl) rfl) rfl hl.1 ca0 (Nat.le_of_ble_eq_true rfl) dX6_isShut_2 ⟨(show 0 + 1 ≤ 1 by omega), (show 0 + 6 ≤ 6 by omega)⟩ (fun x ce q9 H locs hx hR1 h1 h2 h3 => ?_) (fun v1 H locs hx hR1 => ?_)
  · replace hR := hR1
    clear hR1
    replace hw := h4 x hx
    cases hw
    exact rx_out hX hR hxt rfl h1 h2 h3 hlocks (by omega) (by omega)
  replace hR := hR1
  clear hR1
  replace hw := h5 v1 hx
  refine lv_iconst (v := 3) hX.1.1 hX.1.2.1 dX6_isShut_5 (by decide) ?_
  refine lv_icmp_lt (x := v1) (y := 3) (tgt := 13) hX.1.1 hX.1.2.1 dX6_isShut_6 (by decide) (fun c6 => ?_) (fun c6 => ?_)
  · replace hw := if_t hw c6
    refine lv_iconst (v := 0) hX.1.1 hX.1.2.1 dX6_isShut_13 (by decide) ?_
    refine W.widen (k := 1) (n := 6) (by omega) (by omega) ?_
    exact ry_z hX hR hr (v := false) rfl hw dX6_isShut_14 hlocks
  · replace hw := if_f hw c6
    refine lv_iconst (v := 1) hX.1.1 hX.1.2.1 dX6_isShut_9 (by decide) ?_
    refine lv_goto (tgt := 14) hX.1.1 hX.1.2.1 dX6_isShut_10 (by decide) ?_
    refine W.widen (k := 1) (n := 6) (by omega) (by omega) ?_
    exact ry_z hX hR hr (v := true) rfl hw dX6_isShut_14 hlocks
set_option maxHeartbeats 8000000 in
set_option maxRecDepth 100000 in
theorem C_f7_ask (l : Launch) (γ : GT) (ad : Nat → Nat → Nat) {fu : Nat} (a1 : Int32) (σ : St) (r : Int32) (σ' : St) (hw : f7_ask fu a1 σ = some (r, σ')) : Met l yX6_ask (Cond.code yX6_ask cX6_ask 5 (Option.some Jvm.ClassFile.FieldType.int) :: GW) (rmo 81 0 0) (va_Pc [.ref (gS γ 7 0), .int a1] (RU γ ad σ)) (QI γ ad σ' r) 0 0 (gA γ) := by
  refine Met.ofW (cc := cX6_ask) (maxL := 5) (ret := (Option.some Jvm.ClassFile.FieldType.int)) (by decide +kernel) rfl ?_
  intro p e s m args below meth c s₁ B hml hv
  obtain ⟨rfl, hU⟩ := hv
  obtain ⟨hX, hR⟩ := cx_of (own := RX6) B hml rfl hU
  have hr := B.returns
  have hlocks := B.notSynchronized
  have hc0 : (0 : Nat) ≤ 0 := Nat.le_refl 0
  show W p l e (rmo 81 0 0) s m ([.ref (gS γ 7 0), .int a1] : List Value).toArray below meth c s.heap [] 0 0 (MQ below (QI γ ad σ' r) ([.ref (gS γ 7 0), .int a1] : List Value).toArray s 0 0 (gA γ)) (entryFrame m ([.ref (gS γ 7 0), .int a1] : List Value).toArray 5)
  unfold f7_ask at hw
  have L4 : ∀ (x1 : Int32) (n : Nat) (s9 : (Int32 × Int32 × St)) (cells slots : Nat), cells ≤ 0 → slots ≤ 0 → ∀ (H : Heap) (locs : List Loc) (ls : Array Slot), lp (fun s8 => f7_ask_b4 fu x1 s8.1 s8.2.1 s8.2.2) n s9 = some (r, σ') → RS γ ad (s9.2.2) s H locs → lh ls 5 [(0, .ref (gS γ 7 0)), (1, .int x1), (2, .int s9.1), (3, .int s9.2.1)] → W p l e (rmo 81 0 0) s m ([.ref (gS γ 7 0), .int a1] : List Value).toArray below meth c H locs cells slots (MQ below (QI γ ad σ' r) ([.ref (gS γ 7 0), .int a1] : List Value).toArray s 0 0 (gA γ)) (F0 m 4 ls []) := by
    intro x1 n4
    induction n4 with
    | zero => intro s9 cells slots hc1 hc2 H locs ls hw hR hl; exact (lp_zero hw).elim
    | succ n4 ih4 =>
      intro s9 cells slots hc1 hc2 H locs ls hw hR hl
      obtain ⟨o4, hw1, hb4, ho4⟩ := lp_succ hw
      replace hw := hw1
      clear hw1
      obtain ⟨x2, x3, σ⟩ := s9
      replace hw : f7_ask_b4 fu x1 x2 x3 σ = some o4 := hw
      replace hR : RS γ ad σ s H locs := hR
      replace hl : lh ls 5 [(0, .ref (gS γ 7 0)), (1, .int x1), (2, .int x2), (3, .int x3)] := hl
      unfold f7_ask_b4 at hw
      have J77 : ∀ (x2 : Int32) (x3 : Int32) (σ : St) (cells slots : Nat), cells ≤ 0 → slots ≤ 0 → ∀ (H : Heap) (locs : List Loc) (ls : Array Slot), f7_ask_j77 fu x1 x2 x3 σ = some o4 → RS γ ad σ s H locs → lh ls 5 [(0, .ref (gS γ 7 0)), (1, .int x1), (2, .int x2), (3, .int x3)] → W p l e (rmo 81 0 0) s m ([.ref (gS γ 7 0), .int a1] : List Value).toArray below meth c H locs cells slots (MQ below (QI γ ad σ' r) ([.ref (gS γ 7 0), .int a1] : List Value).toArray s 0 0 (gA γ)) (F0 m 77 ls []) := by
        intro x2 x3 σ cells slots hc1 hc2 H locs ls hw hR hl
        unfold f7_ask_j77 at hw
        refine rw_iinc (k := 3) (v := (x3 + 1)) (lv' := [(3, .int (x3 + 1)), (0, .ref (gS γ 7 0)), (1, .int x1), (2, .int x2)]) hX hl rfl (congrArg (fun q => x3 + q) (show Int32.ofInt 1 = 1 by decide)) (by decide) rfl dX6_ask_77 (fun ls hl1 => ?_)
        replace hl := hl1
        clear hl1
        refine lv_goto (tgt := 4) hX.1.1 hX.1.2.1 dX6_ask_80 (by decide) ?_
        exact ih4 _ _ _ (by omega) (by omega) _ _ _ (lp_back hw hb4) hR (lh_sub hl [1, 2, 3, 0] rfl)
      have J61 : ∀ (x2 : Int32) (x3 : Int32) (x4 : Nat) (σ : St) (cells slots : Nat), cells ≤ 0 → slots ≤ 0 → ∀ (H : Heap) (locs : List Loc) (ls : Array Slot), f7_ask_j61 fu x1 x2 x3 x4 σ = some o4 → RS γ ad σ s H locs → lh ls 5 [(0, .ref (gS γ 7 0)), (1, .int x1), (2, .int x2), (3, .int x3), (4, .ref (Ad γ ad 2 x4))] → W p l e (rmo 81 0 0) s m ([.ref (gS γ 7 0), .int a1] : List Value).toArray below meth c H locs cells slots (MQ below (QI γ ad σ' r) ([.ref (gS γ 7 0), .int a1] : List Value).toArray s 0 0 (gA γ)) (F0 m 61 ls []) := by
        intro x2 x3 x4 σ cells slots hc1 hc2 H locs ls hw hR hl
        unfold f7_ask_j61 at hw
        refine rw_aload_n hX hl 0 rfl (Or.inr ⟨_, rfl⟩) dX6_ask_61 rfl ?_
        refine rw_aload hX hl 4 rfl (Or.inr ⟨_, rfl⟩) dX6_ask_62 ?_
        refine lv_iconst (v := 0) hX.1.1 hX.1.2.1 dX6_ask_64 (by decide) ?_
        obtain ⟨σ10, g11, hw1⟩ := ob1_some hw
        replace hw := hw1
        clear hw1
        refine rw_cVv hX hR pk_f7_wake (mc := 0) (ms := 0) ⟨rfl, rfl, (show 80 + 1 ≤ 81 by omega), (show 8 + (3 + 11) + 64 * 80 ≤ 64 * 81 by omega)⟩ (As := [va_rf (Option.map (Ad γ ad 2) (some x4)), .int 0]) (rest := []) rfl (C_f7_wake l γ ad (some x4) 0 σ σ10 g11) gw_461 gw_463 gs_18 (rs_recv hX hR 7 0 (C := RX6) (T := TX6) (N := 11) rfl (by decide) (Nat.le_of_ble_eq_true rfl) rfl) rfl hl.1 ca0 (Nat.le_of_ble_eq_true rfl) dX6_ask_65 ⟨(show cells + 0 ≤ 0 by omega), (show slots + 0 ≤ 0 by omega)⟩ (fun H locs hR1 => ?_)
        replace hR := hR1
        clear hR1
        refine rw_aload hX hl 4 rfl (Or.inr ⟨_, rfl⟩) dX6_ask_68 ?_
        refine lv_iconst (v := 0) hX.1.1 hX.1.2.1 dX6_ask_70 (by decide) ?_
        obtain ⟨h12, hw1⟩ := ck_lt hw
        replace hw := hw1
        clear hw1
        refine rw_putbN (x := false) hX hR 2 15 x4 215 (C := RX1) (T := TX1) (N := 18) rfl (by decide) rfl rfl h12 rfl uw_X1 tyX1 tyX1_ok nmX1 nw_367 rfl rfl (by decide) dX6_ask_71 (fun σ1 H locs e1 hR1 => ?_)
        replace hR := hR1
        clear hR1
        subst e1
        refine rw_iinc (k := 2) (v := (x2 + 1)) (lv' := [(2, .int (x2 + 1)), (0, .ref (gS γ 7 0)), (1, .int x1), (3, .int x3), (4, .ref (Ad γ ad 2 x4))]) hX hl rfl (congrArg (fun q => x2 + q) (show Int32.ofInt 1 = 1 by decide)) (by decide) rfl dX6_ask_74 (fun ls hl1 => ?_)
        replace hl := hl1
        clear hl1
        exact J77 (x2 + 1) x3 (zb σ10 215 x4 false) _ _ (by omega) (by omega) _ _ _ hw hR (lh_sub hl [1, 2, 0, 3] rfl)
      refine rw_iload_n hX hl 3 rfl dX6_ask_4 rfl ?_
      refine rw_aload_n hX hl 0 rfl (Or.inr ⟨_, rfl⟩) dX6_ask_5 rfl ?_
      refine rw_get hX hR 7 1 0 (C := RX6) (T := TX6) (N := 11) rfl (by decide) (Nat.le_of_ble_eq_true rfl) rfl (v := .ref (gS γ 0 1)) rfl uw_X6 gw_150 rfl dX6_ask_6 ?_
      refine rw_cVi hX hR pk_lsize (mc := 0) (ms := 0) ⟨rfl, rfl, Nat.le_of_ble_eq_true rfl, Nat.le_of_ble_eq_true rfl⟩ (As := []) (rest := [.int x3]) rfl (C_lsize l γ ad σ 1 (by decide)) gw_209 gw_210 gw_211 (rs_recvL hX hR 1 (by decide)) rfl hl.1 (ca1 rfl ca0) (Nat.le_of_ble_eq_true rfl) dX6_ask_9 ⟨(show cells + 0 ≤ 0 by omega), (show slots + 0 ≤ 0 by omega)⟩ (fun H locs hR1 => ?_)
      replace hR := hR1
      clear hR1
      refine lv_icmp_ge (x := x3) (y := (nI (gl σ 1).length)) (tgt := 83) hX.1.1 hX.1.2.1 dX6_ask_12 (by decide) (fun c1 => ?_) (fun c1 => ?_)
      · replace hw := if_t hw c1
        replace hw := lp_out hw ho4
        refine rw_iload_n hX hl 2 rfl dX6_ask_83 rfl ?_
        refine W.widen (k := 0) (n := 0) (by omega) (by omega) ?_
        exact rq_ie hX hR hr hw dX6_ask_84 hlocks
      · replace hw := if_f hw c1
        refine rw_aload_n hX hl 0 rfl (Or.inr ⟨_, rfl⟩) dX6_ask_15 rfl ?_
        refine rw_get hX hR 7 1 0 (C := RX6) (T := TX6) (N := 11) rfl (by decide) (Nat.le_of_ble_eq_true rfl) rfl (v := .ref (gS γ 0 1)) rfl uw_X6 gw_150 rfl dX6_ask_16 ?_
        refine rw_iload_n hX hl 3 rfl dX6_ask_19 rfl ?_
        obtain ⟨h3, k2, h4, h5, hw1⟩ := lg_some hw
        replace hw := hw1
        clear hw1
        refine rw_cVq (r := some k2) (k := 2) hX hR pk_lget (mc := 0) (ms := 0) ⟨rfl, rfl, Nat.le_of_ble_eq_true rfl, Nat.le_of_ble_eq_true rfl⟩ (As := [.int x3]) (rest := []) rfl (C_lget l γ ad σ 1 x3 k2 (by decide) h3 h4) gw_281 gw_282 gw_283 (rs_recvL hX hR 1 (by decide)) rfl hl.1 ca0 (Nat.le_of_ble_eq_true rfl) dX6_ask_20 ⟨(show (cells + 0) + 0 ≤ 0 by omega), (show (slots + 0) + 0 ≤ 0 by omega)⟩ (fun H locs hR1 => ?_)
        replace hR := hR1
        clear hR1
        refine va_castS (a := Ad γ ad 2 k2) (nm := RX1) hX.1.1 hX.1.2.1 hX.1.2.2.2.1 (hX.1.2.2.2.2 _ gw_295) (hX.2.1.1 2 (RX1, TX1, 18) rfl).2 (rs_recv hX hR 2 k2 (C := RX1) (T := TX1) (N := 18) rfl (by decide) h5 rfl) dX6_ask_23 ?_
        refine rw_astore (lv' := [(4, .ref (Ad γ ad 2 k2)), (0, .ref (gS γ 7 0)), (1, .int x1), (2, .int x2), (3, .int x3)]) hX hl (by decide) rfl (Or.inr ⟨_, rfl⟩) dX6_ask_26 (fun ls hl1 => ?_)
        replace hl := hl1
        clear hl1
        refine rw_aload hX hl 0 rfl (Or.inr ⟨_, rfl⟩) dX6_ask_28 ?_
        refine rw_getN hX hR 2 3 k2 (C := RX1) (T := TX1) (N := 18) rfl (by decide) h5 rfl (v := .int (gi σ 203 k2)) rfl uw_X1 nw_348 rfl dX6_ask_30 ?_
        refine rw_iload_n hX hl 2 rfl dX6_ask_33 rfl ?_
        refine lv_icmp_ne (x := (gi σ 203 k2)) (y := x1) (tgt := 77) hX.1.1 hX.1.2.1 dX6_ask_34 (by decide) (fun c6 => ?_) (fun c6 => ?_)
        · replace hw := if_f hw c6
          exact J77 x2 x3 σ _ _ (by omega) (by omega) _ _ _ hw hR (lh_sub hl [1, 2, 3, 4] rfl)
        · replace hw := if_t hw c6
          refine rw_aload hX hl 0 rfl (Or.inr ⟨_, rfl⟩) dX6_ask_37 ?_
          refine rw_getN hX hR 2 15 k2 (C := RX1) (T := TX1) (N := 18) rfl (by decide) h5 rfl (v := .int (b2i (gb σ 215 k2))) rfl uw_X1 nw_367 rfl dX6_ask_39 ?_
          refine rw_ifeqZ (b := (gb σ 215 k2)) (tgt := 77) hX dX6_ask_42 (by decide) (fun c7 => ?_) (fun c7 => ?_)
          · replace hw := if_f hw c7
            exact J77 x2 x3 σ _ _ (by omega) (by omega) _ _ _ hw hR (lh_sub hl [1, 2, 3, 4] rfl)
          · replace hw := if_t hw c7
            refine rw_aload hX hl 0 rfl (Or.inr ⟨_, rfl⟩) dX6_ask_45 ?_
            refine rw_getN hX hR 2 12 k2 (C := RX1) (T := TX1) (N := 18) rfl (by decide) h5 rfl (v := .int (b2i (gb σ 212 k2))) rfl uw_X1 nw_364 rfl dX6_ask_47 ?_
            refine rw_ifneZ (b := (gb σ 212 k2)) (tgt := 61) hX dX6_ask_50 (by decide) (fun c8 => ?_) (fun c8 => ?_)
            · replace hw := if_t hw c8
              exact J61 x2 x3 k2 σ _ _ (by omega) (by omega) _ _ _ hw hR (lh_sub hl [1, 2, 3, 4, 0] rfl)
            · replace hw := if_f hw c8
              refine rw_aload hX hl 0 rfl (Or.inr ⟨_, rfl⟩) dX6_ask_53 ?_
              obtain ⟨v13, g15, hw1⟩ := ob1_some hw
              replace hw := hw1
              clear hw1
              refine rw_cVNi hX hR pk_f2_isSaved (mc := 0) (ms := 0) ⟨rfl, rfl, (show 1 + 1 ≤ 81 by omega), (show 8 + (1 + 11) + 64 * 1 ≤ 64 * 81 by omega)⟩ (As := []) (rest := []) rfl (C_f2_isSaved l γ ad k2 σ v13 g15) nw_465 gw_467 gs_19 (rs_recv hX hR 2 k2 (C := RX1) (T := TX1) (N := 18) rfl (by decide) h5 rfl) rfl hl.1 ca0 (Nat.le_of_ble_eq_true rfl) dX6_ask_55 ⟨(show ((cells + 0) + 0) + 0 ≤ 0 by omega), (show ((slots + 0) + 0) + 0 ≤ 0 by omega)⟩ (fun H locs hR1 => ?_)
              replace hR := hR1
              clear hR1
              refine rw_ifeqZ (b := v13) (tgt := 77) hX dX6_ask_58 (by decide) (fun c16 => ?_) (fun c16 => ?_)
              · replace hw := if_f hw c16
                exact J77 x2 x3 σ _ _ (by omega) (by omega) _ _ _ hw hR (lh_sub hl [1, 2, 3, 4] rfl)
              · replace hw := if_t hw c16
                exact J61 x2 x3 k2 σ _ _ (by omega) (by omega) _ _ _ hw hR (lh_sub hl [1, 2, 3, 4, 0] rfl)
  refine rw_entry (ca1 rfl (ca1 rfl ca0)) (Nat.le_of_ble_eq_true rfl) (fun ls hl1 => ?_)
  replace hl := hl1
  clear hl1
  refine lv_iconst (v := 0) hX.1.1 hX.1.2.1 dX6_ask_0 (by decide) ?_
  refine rw_istore_n (lv' := [(2, .int 0), (0, .ref (gS γ 7 0)), (1, .int a1)]) hX hl (by decide) rfl dX6_ask_1 rfl (fun ls hl1 => ?_)
  replace hl := hl1
  clear hl1
  refine lv_iconst (v := 0) hX.1.1 hX.1.2.1 dX6_ask_2 (by decide) ?_
  refine rw_istore_n (lv' := [(3, .int 0), (2, .int 0), (0, .ref (gS γ 7 0)), (1, .int a1)]) hX hl (by decide) rfl dX6_ask_3 rfl (fun ls hl1 => ?_)
  replace hl := hl1
  clear hl1
  exact L4 a1 _ _ _ _ (by omega) (by omega) _ _ _ hw hR (lh_sub hl [2, 3, 1, 0] rfl)
set_option maxHeartbeats 8000000 in
set_option maxRecDepth 100000 in
theorem C_f7_resume (l : Launch) (hfl : l.stackTraces = false) (γ : GT) (ad : Nat → Nat → Nat) {fu : Nat} (σ : St) (r : Except Nat Int32) (σ' : St) (hw : f7_resume fu σ = some (r, σ')) : vx_Met l yX6_resume (Cond.code yX6_resume cX6_resume 3 (Option.some Jvm.ClassFile.FieldType.int) :: GW) (rmo 84 36 6040) (va_Pc [.ref (gS γ 7 0)] (RU γ ad σ)) (QXI γ ad σ' r) (QXX γ ad σ' r) 36 6040 (gA γ) := by
  refine vx_ofW (cc := cX6_resume) (maxL := 3) (ret := (Option.some Jvm.ClassFile.FieldType.int)) (by decide) rfl ?_
  intro p e s m args below meth c s₁ B hml hxt hv
  obtain ⟨rfl, hU⟩ := hv
  obtain ⟨hX, hR⟩ := cx_of (own := RX6) B hml rfl hU
  have hr := B.returns
  have hlocks := B.notSynchronized
  have hc0 : (0 : Nat) ≤ 0 := Nat.le_refl 0
  show W p l e (rmo 84 36 6040) s m ([.ref (gS γ 7 0)] : List Value).toArray below meth c s.heap [] 0 0 (vx_MQ below (QXI γ ad σ' r) (QXX γ ad σ' r) ([.ref (gS γ 7 0)] : List Value).toArray s 36 6040 (gA γ)) (entryFrame m ([.ref (gS γ 7 0)] : List Value).toArray 3)
  unfold f7_resume at hw
  have L30 : ∀ (x1 : Int32) (n : Nat) (s9 : (Int32 × St)) (cells slots : Nat), cells + n * 1 ≤ 10 → slots + n * 6 ≤ 60 → ∀ (H : Heap) (locs : List Loc) (ls : Array Slot), lp (fun s8 => f7_resume_b30 fu x1 s8.1 s8.2) n s9 = some (r, σ') → RS γ ad (s9.2) s H locs → lh ls 3 [(0, .ref (gS γ 7 0)), (1, .int x1), (2, .int s9.1)] → W p l e (rmo 84 36 6040) s m ([.ref (gS γ 7 0)] : List Value).toArray below meth c H locs cells slots (vx_MQ below (QXI γ ad σ' r) (QXX γ ad σ' r) ([.ref (gS γ 7 0)] : List Value).toArray s 36 6040 (gA γ)) (F0 m 30 ls []) := by
    intro x1 n30
    induction n30 with
    | zero => intro s9 cells slots hc1 hc2 H locs ls hw hR hl; exact (lp_zero hw).elim
    | succ n30 ih30 =>
      intro s9 cells slots hc1 hc2 H locs ls hw hR hl
      obtain ⟨o30, hw1, hb30, ho30⟩ := lp_succ hw
      replace hw := hw1
      clear hw1
      obtain ⟨x2, σ⟩ := s9
      replace hw : f7_resume_b30 fu x1 x2 σ = some o30 := hw
      replace hR : RS γ ad σ s H locs := hR
      replace hl : lh ls 3 [(0, .ref (gS γ 7 0)), (1, .int x1), (2, .int x2)] := hl
      unfold f7_resume_b30 at hw
      have J50 : ∀ (x2 : Int32) (σ : St) (cells slots : Nat), cells + n30 * 1 ≤ 10 → slots + n30 * 6 ≤ 60 → ∀ (H : Heap) (locs : List Loc) (ls : Array Slot), f7_resume_j50 fu x1 x2 σ = some o30 → RS γ ad σ s H locs → lh ls 3 [(0, .ref (gS γ 7 0)), (1, .int x1), (2, .int x2)] → W p l e (rmo 84 36 6040) s m ([.ref (gS γ 7 0)] : List Value).toArray below meth c H locs cells slots (vx_MQ below (QXI γ ad σ' r) (QXX γ ad σ' r) ([.ref (gS γ 7 0)] : List Value).toArray s 36 6040 (gA γ)) (F0 m 50 ls []) := by
        intro x2 σ cells slots hc1 hc2 H locs ls hw hR hl
        unfold f7_resume_j50 at hw
        refine rw_iinc (k := 2) (v := (x2 + 1)) (lv' := [(2, .int (x2 + 1)), (0, .ref (gS γ 7 0)), (1, .int x1)]) hX hl rfl (congrArg (fun q => x2 + q) (show Int32.ofInt 1 = 1 by decide)) (by decide) rfl dX6_resume_50 (fun ls hl1 => ?_)
        replace hl := hl1
        clear hl1
        refine lv_goto (tgt := 30) hX.1.1 hX.1.2.1 dX6_resume_53 (by decide) ?_
        exact ih30 _ _ _ (by omega) (by omega) _ _ _ (lp_back hw hb30) hR (lh_sub hl [1, 2, 0] rfl)
      refine rw_iload_n hX hl 2 rfl dX6_resume_30 rfl ?_
      refine lv_bipush (v := 8) hX.1.1 hX.1.2.1 dX6_resume_31 (by decide) ?_
      refine lv_icmp_ge (x := x2) (y := 8) (tgt := 56) hX.1.1 hX.1.2.1 dX6_resume_33 (by decide) (fun c5 => ?_) (fun c5 => ?_)
      · replace hw := if_t hw c5
        replace hw := lp_out hw ho30
        refine rw_aload_n hX hl 0 rfl (Or.inr ⟨_, rfl⟩) dX6_resume_56 rfl ?_
        obtain ⟨σ7, g8, hw1⟩ := ob1_some hw
        replace hw := hw1
        clear hw1
        refine rw_cVv hX hR pk_f7_bindWhatCanBe (mc := 26) (ms := 5980) ⟨rfl, rfl, (show 83 + 1 ≤ 84 by omega), (show 8 + (3 + 11) + 64 * 83 ≤ 64 * 84 by omega)⟩ (As := []) (rest := []) rfl (C_f7_bindWhatCanBe l γ ad σ σ7 g8) gw_408 gw_410 gs_6 (rs_recv hX hR 7 0 (C := RX6) (T := TX6) (N := 11) rfl (by decide) (Nat.le_of_ble_eq_true rfl) rfl) rfl hl.1 ca0 (Nat.le_of_ble_eq_true rfl) dX6_resume_57 ⟨(show cells + 26 ≤ 36 by omega), (show slots + 5980 ≤ 6040 by omega)⟩ (fun H locs hR1 => ?_)
        replace hR := hR1
        clear hR1
        refine rw_iload_n hX hl 1 rfl dX6_resume_60 rfl ?_
        refine W.widen (k := 36) (n := 6040) (by omega) (by omega) ?_
        exact ry_ie hX hR hr hw dX6_resume_61 hlocks
      · replace hw := if_f hw c5
        refine rw_aload_n hX hl 0 rfl (Or.inr ⟨_, rfl⟩) dX6_resume_36 rfl ?_
        refine rw_iload_n hX hl 2 rfl dX6_resume_37 rfl ?_
        obtain ⟨v9, g11, h12, h13⟩ := xb1_some hw
        refine rw_xVz hX hR pk_f7_isShut (mc := 1) (ms := 6) ⟨rfl, rfl, (show 10 + 1 ≤ 84 by omega), (show 8 + (2 + 11) + 64 * 10 ≤ 64 * 84 by omega)⟩ (As := [.int x2]) (rest := []) rfl (C_f7_isShut l hfl γ ad x2 σ v9 g11) gw_773 gw_775 gs_43 (rs_recv hX hR 7 0 (C := RX6) (T := TX6) (N := 11) rfl (by decide) (Nat.le_of_ble_eq_true rfl) rfl) rfl hl.1 ca0 (Nat.le_of_ble_eq_true rfl) dX6_resume_38 ⟨(show cells + 1 ≤ 36 by omega), (show slots + 6 ≤ 6040 by omega)⟩ (fun x ce q9 H locs hx hR1 h1 h2 h3 => ?_) (fun v9 H locs hx hR1 => ?_)
        · replace hR := hR1
          clear hR1
          replace hw := h12 x hx
          replace hw := lp_out hw ho30
          cases hw
          exact rx_out hX hR hxt rfl h1 h2 h3 hlocks (by omega) (by omega)
        replace hR := hR1
        clear hR1
        replace hw := h13 v9 hx
        refine rw_ifneZ (b := v9) (tgt := 50) hX dX6_resume_41 (by decide) (fun c14 => ?_) (fun c14 => ?_)
        · replace hw := if_t hw c14
          exact J50 x2 σ _ _ (by omega) (by omega) _ _ _ hw hR (lh_sub hl [0, 1, 2] rfl)
        · replace hw := if_f hw c14
          refine rw_aload_n hX hl 0 rfl (Or.inr ⟨_, rfl⟩) dX6_resume_44 rfl ?_
          refine rw_iload_n hX hl 2 rfl dX6_resume_45 rfl ?_
          obtain ⟨v15, σ16, g17, hw1⟩ := ob2_some hw
          replace hw := hw1
          clear hw1
          refine rw_cVi hX hR pk_f7_ask (mc := 0) (ms := 0) ⟨rfl, rfl, (show 81 + 1 ≤ 84 by omega), (show 8 + (5 + 11) + 64 * 81 ≤ 64 * 84 by omega)⟩ (As := [.int x2]) (rest := []) rfl (C_f7_ask l γ ad x2 σ v15 σ16 g17) gw_785 gw_787 gs_44 (rs_recv hX hR 7 0 (C := RX6) (T := TX6) (N := 11) rfl (by decide) (Nat.le_of_ble_eq_true rfl) rfl) rfl hl.1 ca0 (Nat.le_of_ble_eq_true rfl) dX6_resume_46 ⟨(show (cells + 1) + 0 ≤ 36 by omega), (show (slots + 6) + 0 ≤ 6040 by omega)⟩ (fun H locs hR1 => ?_)
          replace hR := hR1
          clear hR1
          refine lv_pop hX.1.1 hX.1.2.1 dX6_resume_49 rfl ?_
          exact J50 x2 σ16 _ _ (by omega) (by omega) _ _ _ hw hR (lh_sub hl [0, 1, 2] rfl)
  refine rw_entry (ca1 rfl ca0) (Nat.le_of_ble_eq_true rfl) (fun ls hl1 => ?_)
  replace hl := hl1
  clear hl1
  refine rw_aload_n hX hl 0 rfl (Or.inr ⟨_, rfl⟩) dX6_resume_0 rfl ?_
  refine rw_get hX hR 7 9 0 (C := RX6) (T := TX6) (N := 11) rfl (by decide) (Nat.le_of_ble_eq_true rfl) rfl (v := .int (b2i (gb σ 709 0))) rfl uw_X6 gw_158 rfl dX6_resume_1 ?_
  refine rw_ifneZ (b := (gb σ 709 0)) (tgt := 18) hX dX6_resume_4 (by decide) (fun c1 => ?_) (fun c1 => ?_)
  · replace hw := if_t hw c1
    refine rw_aload_n hX hl 0 rfl (Or.inr ⟨_, rfl⟩) dX6_resume_18 rfl ?_
    refine lv_iconst (v := 0) hX.1.1 hX.1.2.1 dX6_resume_19 (by decide) ?_
    refine rw_putb (x := false) hX hR 7 9 0 709 (C := RX6) (T := TX6) (N := 11) rfl (by decide) rfl rfl (Nat.le_of_ble_eq_true rfl) rfl uw_X6 tyX6 tyX6_ok nmX6 gw_158 rfl rfl (by decide) dX6_resume_20 (fun σ1 H locs e1 hR1 => ?_)
    replace hR := hR1
    clear hR1
    subst e1
    refine rw_aload_n hX hl 0 rfl (Or.inr ⟨_, rfl⟩) dX6_resume_23 rfl ?_
    obtain ⟨v2, σ3, g4, hw1⟩ := ob2_some hw
    replace hw := hw1
    clear hw1
    refine rw_cVi hX hR pk_f7_wakeTheSuspended (mc := 0) (ms := 0) ⟨rfl, rfl, (show 81 + 1 ≤ 84 by omega), (show 8 + (4 + 11) + 64 * 81 ≤ 64 * 84 by omega)⟩ (As := []) (rest := []) rfl (C_f7_wakeTheSuspended l γ ad (zb σ 709 0 false) v2 σ3 g4) gw_761 gw_763 gs_42 (rs_recv hX hR 7 0 (C := RX6) (T := TX6) (N := 11) rfl (by decide) (Nat.le_of_ble_eq_true rfl) rfl) rfl hl.1 ca0 (Nat.le_of_ble_eq_true rfl) dX6_resume_24 ⟨(show 0 + 0 ≤ 36 by omega), (show 0 + 0 ≤ 6040 by omega)⟩ (fun H locs hR1 => ?_)
    replace hR := hR1
    clear hR1
    refine rw_istore_n (lv' := [(1, .int v2), (0, .ref (gS γ 7 0))]) hX hl (by decide) rfl dX6_resume_27 rfl (fun ls hl1 => ?_)
    replace hl := hl1
    clear hl1
    refine lv_iconst (v := 0) hX.1.1 hX.1.2.1 dX6_resume_28 (by decide) ?_
    refine rw_istore_n (lv' := [(2, .int 0), (1, .int v2), (0, .ref (gS γ 7 0))]) hX hl (by decide) rfl dX6_resume_29 rfl (fun ls hl1 => ?_)
    replace hl := hl1
    clear hl1
    exact L30 v2 _ _ _ _ (by omega) (by omega) _ _ _ hw hR (lh_sub hl [2, 1, 0] rfl)
  · replace hw := if_f hw c1
    cases hw
    exact rw_throwW (lv := [(0, .ref (gS γ 7 0))]) (text := "the world is not suspended") hX hR hfl 3 74 280 78 rfl XN_fit3 XNS_fit gw_320 gw_19 (by decide +kernel) xa_3 xg_3 hl.1 hxt dX6_resume_7 dX6_resume_10 dX6_resume_11 dX6_resume_14 dX6_resume_17 (Nat.le_of_ble_eq_true rfl) (Nat.le_of_ble_eq_true rfl) ⟨(show 0 + 1 ≤ 36 by omega), (show 0 + 6 ≤ 6040 by omega)⟩ hlocks ⟨by omega, by omega⟩
set_option maxHeartbeats 8000000 in
set_option maxRecDepth 100000 in
theorem C_f7_countStrike (l : Launch) (hfl : l.stackTraces = false) (γ : GT) (ad : Nat → Nat → Nat) {fu : Nat} (a1 : Int32) (a2 : Bool) (σ : St) (r : Except Nat Unit) (σ' : St) (hw : f7_countStrike fu a1 a2 σ = some (r, σ')) : vx_Met l yX6_countStrike (Cond.code yX6_countStrike cX6_countStrike 3 (Option.none : Option Jvm.ClassFile.FieldType) :: GW) (rmo 11 2 12) (va_Pc [.ref (gS γ 7 0), .int a1, .int (b2i a2)] (RU γ ad σ)) (QXV γ ad σ' r) (QXX γ ad σ' r) 2 12 (gA γ) := by
  refine vx_ofW (cc := cX6_countStrike) (maxL := 3) (ret := (Option.none : Option Jvm.ClassFile.FieldType)) (by decide) rfl ?_
  intro p e s m args below meth c s₁ B hml hxt hv
  obtain ⟨rfl, hU⟩ := hv
  obtain ⟨hX, hR⟩ := cx_of (own := RX6) B hml rfl hU
  have hr := B.returns
  have hlocks := B.notSynchronized
  have hc0 : (0 : Nat) ≤ 0 := Nat.le_refl 0
  show W p l e (rmo 11 2 12) s m ([.ref (gS γ 7 0), .int a1, .int (b2i a2)] : List Value).toArray below meth c s.heap [] 0 0 (vx_MQ below (QXV γ ad σ' r) (QXX γ ad σ' r) ([.ref (gS γ 7 0), .int a1, .int (b2i a2)] : List Value).toArray s 2 12 (gA γ)) (entryFrame m ([.ref (gS γ 7 0), .int a1, .int (b2i a2)] : List Value).toArray 3)
  unfold f7_countStrike at hw
  refine rw_entry (ca1 rfl (ca1 rfl (ca1 rfl ca0))) (Nat.le_of_ble_eq_true rfl) (fun ls hl1 => ?_)
  replace hl := hl1
  clear hl1
  refine rw_iload_n hX hl 1 rfl dX6_countStrike_0 rfl ?_
  obtain ⟨v1, g3, h4, h5⟩ := xb1_some hw
  refine rw_xSv hX hR pk_f7_checkLine (mc := 1) (ms := 6) ⟨rfl, rfl, (show 8 + 1 ≤ 11 by omega), (show 8 + (1 + 11) + 64 * 8 ≤ 64 * 11 by omega)⟩ (As := [.int a1]) (rest := []) rfl (C_f7_checkLine l hfl γ ad a1 σ v1 g3) gw_781 gw_782 rfl hl.1 ca0 (Nat.le_of_ble_eq_true rfl) dX6_countStrike_1 ⟨(show 0 + 1 ≤ 2 by omega), (show 0 + 6 ≤ 12 by omega)⟩ (fun x ce q9 H locs hx hR1 h1 h2 h3 => ?_) (fun H locs hx hR1 => ?_)
  · replace hR := hR1
    clear hR1
    replace hw := h4 x hx
    cases hw
    exact rx_out hX hR hxt rfl h1 h2 h3 hlocks (by omega) (by omega)
  replace hR := hR1
  clear hR1
  replace hw := h5 () hx
  refine rw_iload_n hX hl 2 rfl dX6_countStrike_4 rfl ?_
  refine rw_ifeqZ (b := a2) (tgt := 16) hX dX6_countStrike_5 (by decide) (fun c6 => ?_) (fun c6 => ?_)
  · replace hw := if_f hw c6
    refine rw_aload_n hX hl 0 rfl (Or.inr ⟨_, rfl⟩) dX6_countStrike_16 rfl ?_
    refine rw_get hX hR 7 6 0 (C := RX6) (T := TX6) (N := 11) rfl (by decide) (Nat.le_of_ble_eq_true rfl) rfl (v := .ref (gS γ 1706 0)) rfl uw_X6 gw_155 rfl dX6_countStrike_17 ?_
    refine rw_iload_n hX hl 1 rfl dX6_countStrike_20 rfl ?_
    refine lv_dup2_11 hX.1.1 hX.1.2.1 dX6_countStrike_21 rfl rfl ?_
    obtain ⟨h8, hw1⟩ := ar_some hw
    replace hw := hw1
    clear hw1
    obtain ⟨j7, ej7⟩ : ∃ j, (a1 : Int32).toNatClampNeg = j := ⟨_, rfl⟩
    rw [ej7] at hw
    refine rw_iald hX hR 706 (n := 8) (i := a1) (v := (gi σ 706 j7)) rfl (by decide) rfl rfl h8 (by rw [ej7]) dX6_countStrike_22 ?_
    refine lv_iconst (v := 1) hX.1.1 hX.1.2.1 dX6_countStrike_23 (by decide) ?_
    refine lv_iadd (x := (gi σ 706 j7)) (y := 1) hX.1.1 hX.1.2.1 dX6_countStrike_24 ?_
    obtain ⟨h10, hw1⟩ := ar_some hw
    replace hw := hw1
    clear hw1
    obtain ⟨j9, ej9⟩ : ∃ j, (a1 : Int32).toNatClampNeg = j := ⟨_, rfl⟩
    rw [ej9] at hw
    refine rw_iast hX hR 706 (n := 8) (i := a1) (x := ((gi σ 706 j7) + 1)) rfl (by decide) rfl rfl h10 dX6_countStrike_25 (fun σ1 H locs e1 hR1 => ?_)
    replace hR := hR1
    clear hR1
    rw [ej9] at e1
    subst e1
    refine rw_aload_n hX hl 0 rfl (Or.inr ⟨_, rfl⟩) dX6_countStrike_26 rfl ?_
    refine rw_iload_n hX hl 1 rfl dX6_countStrike_27 rfl ?_
    obtain ⟨v11, g13, h14, h15⟩ := xb1_some hw
    refine rw_xVz hX hR pk_f7_isShut (mc := 1) (ms := 6) ⟨rfl, rfl, (show 10 + 1 ≤ 11 by omega), (show 8 + (2 + 11) + 64 * 10 ≤ 64 * 11 by omega)⟩ (As := [.int a1]) (rest := []) rfl (C_f7_isShut l hfl γ ad a1 (zi σ 706 j9 ((gi σ 706 j7) + 1)) v11 g13) gw_773 gw_775 gs_43 (rs_recv hX hR 7 0 (C := RX6) (T := TX6) (N := 11) rfl (by decide) (Nat.le_of_ble_eq_true rfl) rfl) rfl hl.1 ca0 (Nat.le_of_ble_eq_true rfl) dX6_countStrike_28 ⟨(show (0 + 1) + 1 ≤ 2 by omega), (show (0 + 6) + 6 ≤ 12 by omega)⟩ (fun x ce q9 H locs hx hR1 h1 h2 h3 => ?_) (fun v11 H locs hx hR1 => ?_)
    · replace hR := hR1
      clear hR1
      replace hw := h14 x hx
      cases hw
      exact rx_out hX hR hxt rfl h1 h2 h3 hlocks (by omega) (by omega)
    replace hR := hR1
    clear hR1
    replace hw := h15 v11 hx
    refine rw_ifeqZ (b := v11) (tgt := 43) hX dX6_countStrike_31 (by decide) (fun c16 => ?_) (fun c16 => ?_)
    · replace hw := if_f hw c16
      refine W.widen (k := 2) (n := 12) (by omega) (by omega) ?_
      exact ry_ve hX hR hr hw dX6_countStrike_43 hlocks
    · replace hw := if_t hw c16
      refine rw_aload_n hX hl 0 rfl (Or.inr ⟨_, rfl⟩) dX6_countStrike_34 rfl ?_
      refine rw_get hX hR 7 7 0 (C := RX6) (T := TX6) (N := 11) rfl (by decide) (Nat.le_of_ble_eq_true rfl) rfl (v := .ref (gS γ 4 0)) rfl uw_X6 gw_156 rfl dX6_countStrike_35 ?_
      refine lv_iconst (v := 5) hX.1.1 hX.1.2.1 dX6_countStrike_38 (by decide) ?_
      refine rw_iload_n hX hl 1 rfl dX6_countStrike_39 rfl ?_
      obtain ⟨σ18, g19, hw1⟩ := ob1_some hw
      replace hw := hw1
      clear hw1
      refine rw_cVNv hX hR pk_f4_note (mc := 0) (ms := 0) ⟨rfl, rfl, (show 2 + 1 ≤ 11 by omega), (show 8 + (4 + 11) + 64 * 2 ≤ 64 * 11 by omega)⟩ (As := [.int 5, .int a1]) (rest := []) rfl (C_f4_note l γ ad 5 a1 (zi σ 706 j9 ((gi σ 706 j7) + 1)) σ18 g19) nw_469 gw_471 gs_20 (rs_recv hX hR 4 0 (C := RX3) (T := TX3) (N := 3) rfl (by decide) (Nat.le_of_ble_eq_true rfl) rfl) rfl hl.1 ca0 (Nat.le_of_ble_eq_true rfl) dX6_countStrike_40 ⟨(show ((0 + 1) + 1) + 0 ≤ 2 by omega), (show ((0 + 6) + 6) + 0 ≤ 12 by omega)⟩ (fun H locs hR1 => ?_)
      replace hR := hR1
      clear hR1
      refine W.widen (k := 2) (n := 12) (by omega) (by omega) ?_
      exact ry_ve hX hR hr hw dX6_countStrike_43 hlocks
  · replace hw := if_t hw c6
    refine rw_aload_n hX hl 0 rfl (Or.inr ⟨_, rfl⟩) dX6_countStrike_8 rfl ?_
    refine rw_get hX hR 7 6 0 (C := RX6) (T := TX6) (N := 11) rfl (by decide) (Nat.le_of_ble_eq_true rfl) rfl (v := .ref (gS γ 1706 0)) rfl uw_X6 gw_155 rfl dX6_countStrike_9 ?_
    refine rw_iload_n hX hl 1 rfl dX6_countStrike_12 rfl ?_
    refine lv_iconst (v := 0) hX.1.1 hX.1.2.1 dX6_countStrike_13 (by decide) ?_
    obtain ⟨h21, hw1⟩ := ar_some hw
    replace hw := hw1
    clear hw1
    obtain ⟨j20, ej20⟩ : ∃ j, (a1 : Int32).toNatClampNeg = j := ⟨_, rfl⟩
    rw [ej20] at hw
    refine rw_iast hX hR 706 (n := 8) (i := a1) (x := 0) rfl (by decide) rfl rfl h21 dX6_countStrike_14 (fun σ1 H locs e1 hR1 => ?_)
    replace hR := hR1
    clear hR1
    rw [ej20] at e1
    subst e1
    refine W.widen (k := 2) (n := 12) (by omega) (by omega) ?_
    exact ry_ve hX hR hr hw dX6_countStrike_15 hlocks
set_option maxHeartbeats 8000000 in
set_option maxRecDepth 100000 in
theorem C_f7_raise (l : Launch) (hfl : l.stackTraces = false) (γ : GT) (ad : Nat → Nat → Nat) {fu : Nat} (a1 : Int32) (σ : St) (r : Except Nat Int32) (σ' : St) (hw : f7_raise fu a1 σ = some (r, σ')) : vx_Met l yX6_raise (Cond.code yX6_raise cX6_raise 4 (Option.some Jvm.ClassFile.FieldType.int) :: GW) (rmo 82 5 30) (va_Pc [.ref (gS γ 7 0), .int a1] (RU γ ad σ)) (QXI γ ad σ' r) (QXX γ ad σ' r) 5 30 (gA γ) := by
  refine vx_ofW (cc := cX6_raise) (maxL := 4) (ret := (Option.some Jvm.ClassFile.FieldType.int)) (by decide) rfl ?_
  intro p e s m args below meth c s₁ B hml hxt hv
  obtain ⟨rfl, hU⟩ := hv
  obtain ⟨hX, hR⟩ := cx_of (own := RX6) B hml rfl hU
  have hr := B.returns
  have hlocks := B.notSynchronized
  have hc0 : (0 : Nat) ≤ 0 := Nat.le_refl 0
  show W p l e (rmo 82 5 30) s m ([.ref (gS γ 7 0), .int a1] : List Value).toArray below meth c s.heap [] 0 0 (vx_MQ below (QXI γ ad σ' r) (QXX γ ad σ' r) ([.ref (gS γ 7 0), .int a1] : List Value).toArray s 5 30 (gA γ)) (entryFrame m ([.ref (gS γ 7 0), .int a1] : List Value).toArray 4)
  unfold f7_raise at hw
  have J80 : ∀ (x3 : Int32) (y1 : Int32) (y2 : Bool) (σ : St) (cells slots : Nat), cells ≤ 3 → slots ≤ 18 → ∀ (H : Heap) (locs : List Loc) (ls : Array Slot), f7_raise_j80 fu x3 y1 y2 σ = some (r, σ') → RS γ ad σ s H locs → lh ls 4 [(3, .int x3)] → W p l e (rmo 82 5 30) s m ([.ref (gS γ 7 0), .int a1] : List Value).toArray below meth c H locs cells slots (vx_MQ below (QXI γ ad σ' r) (QXX γ ad σ' r) ([.ref (gS γ 7 0), .int a1] : List Value).toArray s 5 30 (gA γ)) (F0 m 80 ls [.int (b2i y2), .int y1, .ref (gS γ 7 0)]) := by
    intro x3 y1 y2 σ cells slots hc1 hc2 H locs ls hw hR hl
    unfold f7_raise_j80 at hw
    obtain ⟨v23, σ24, g25, h26, h27⟩ := xb2_some hw
    refine rw_xVv hX hR pk_f7_countStrike (mc := 2) (ms := 12) ⟨rfl, rfl, (show 11 + 1 ≤ 82 by omega), (show 8 + (3 + 11) + 64 * 11 ≤ 64 * 82 by omega)⟩ (As := [.int y1, .int (b2i y2)]) (rest := []) rfl (C_f7_countStrike l hfl γ ad y1 y2 σ v23 σ24 g25) gw_797 gw_799 gs_45 (rs_recv hX hR 7 0 (C := RX6) (T := TX6) (N := 11) rfl (by decide) (Nat.le_of_ble_eq_true rfl) rfl) rfl hl.1 ca0 (Nat.le_of_ble_eq_true rfl) dX6_raise_80 ⟨(show cells + 2 ≤ 5 by omega), (show slots + 12 ≤ 30 by omega)⟩ (fun x ce q9 H locs hx hR1 h1 h2 h3 => ?_) (fun H locs hx hR1 => ?_)
    · replace hR := hR1
      clear hR1
      replace hw := h26 x hx
      cases hw
      exact rx_out hX hR hxt rfl h1 h2 h3 hlocks (by omega) (by omega)
    replace hR := hR1
    clear hR1
    replace hw := h27 () hx
    refine rw_iload_n hX hl 0 rfl dX6_raise_83 rfl ?_
    refine W.widen (k := 5) (n := 30) (by omega) (by omega) ?_
    exact ry_ie hX hR hr hw dX6_raise_84 hlocks
  refine rw_entry (ca1 rfl (ca1 rfl ca0)) (Nat.le_of_ble_eq_true rfl) (fun ls hl1 => ?_)
  replace hl := hl1
  clear hl1
  refine rw_aload_n hX hl 0 rfl (Or.inr ⟨_, rfl⟩) dX6_raise_0 rfl ?_
  refine rw_iload_n hX hl 1 rfl dX6_raise_1 rfl ?_
  obtain ⟨v1, g3, h4, h5⟩ := xb1_some hw
  refine rw_xVq hX hR pk_f7_known (mc := 1) (ms := 6) ⟨rfl, rfl, (show 15 + 1 ≤ 82 by omega), (show 8 + (2 + 11) + 64 * 15 ≤ 64 * 82 by omega)⟩ (As := [.int a1]) (rest := []) rfl (C_f7_known l hfl γ ad a1 σ v1 g3) gw_205 gw_207 gs_4 (rs_recv hX hR 7 0 (C := RX6) (T := TX6) (N := 11) rfl (by decide) (Nat.le_of_ble_eq_true rfl) rfl) rfl hl.1 ca0 (Nat.le_of_ble_eq_true rfl) dX6_raise_2 ⟨(show 0 + 1 ≤ 5 by omega), (show 0 + 6 ≤ 30 by omega)⟩ (fun x ce q9 H locs hx hR1 h1 h2 h3 => ?_) (fun v1 H locs hx hR1 => ?_)
  · replace hR := hR1
    clear hR1
    replace hw := h4 x hx
    cases hw
    exact rx_out hX hR hxt rfl h1 h2 h3 hlocks (by omega) (by omega)
  replace hR := hR1
  clear hR1
  replace hw := h5 v1 hx
  refine rw_astore_n (lv' := [(2, va_rf (Option.map (Ad γ ad 2) v1)), (0, .ref (gS γ 7 0)), (1, .int a1)]) hX hl (by decide) rfl (va_rf_or _) dX6_raise_5 rfl (fun ls hl1 => ?_)
  replace hl := hl1
  clear hl1
  refine rw_aload_n hX hl 0 rfl (va_rf_or _) dX6_raise_6 rfl ?_
  obtain ⟨i6, e7, h8, hw1⟩ := dr_some hw
  replace hw := hw1
  clear hw1
  subst e7
  refine rw_getN hX hR 2 8 i6 (C := RX1) (T := TX1) (N := 18) rfl (by decide) h8 rfl (v := .int (b2i (gb σ 208 i6))) rfl uw_X1 nw_358 rfl dX6_raise_7 ?_
  refine rw_ifeqZ (b := (gb σ 208 i6)) (tgt := 21) hX dX6_raise_10 (by decide) (fun c9 => ?_) (fun c9 => ?_)
  · replace hw := if_f hw c9
    cases hw
    exact rw_throwW (lv := [(2, .ref (Ad γ ad 2 i6)), (0, .ref (gS γ 7 0)), (1, .int a1)]) (text := "the device is there no more, or has no line") hX hR hfl 3 74 292 78 rfl XN_fit3 XNS_fit gw_320 gw_19 (by decide +kernel) xa_3 xg_3 hl.1 hxt dX6_raise_21 dX6_raise_24 dX6_raise_25 dX6_raise_28 dX6_raise_31 (Nat.le_of_ble_eq_true rfl) (Nat.le_of_ble_eq_true rfl) ⟨(show (0 + 1) + 1 ≤ 5 by omega), (show (0 + 6) + 6 ≤ 30 by omega)⟩ hlocks ⟨by omega, by omega⟩
  · replace hw := if_t hw c9
    refine rw_aload_n hX hl 0 rfl (Or.inr ⟨_, rfl⟩) dX6_raise_13 rfl ?_
    refine rw_getN hX hR 2 3 i6 (C := RX1) (T := TX1) (N := 18) rfl (by decide) h8 rfl (v := .int (gi σ 203 i6)) rfl uw_X1 nw_348 rfl dX6_raise_14 ?_
    refine lv_iconst (v := (-1)) hX.1.1 hX.1.2.1 dX6_raise_17 (by decide) ?_
    refine lv_icmp_ne (x := (gi σ 203 i6)) (y := (-1)) (tgt := 32) hX.1.1 hX.1.2.1 dX6_raise_18 (by decide) (fun c10 => ?_) (fun c10 => ?_)
    · replace hw := if_f hw c10
      refine rw_aload_n hX hl 0 rfl (Or.inr ⟨_, rfl⟩) dX6_raise_32 rfl ?_
      refine lv_iconst (v := 1) hX.1.1 hX.1.2.1 dX6_raise_33 (by decide) ?_
      refine rw_putbN (x := true) hX hR 2 15 i6 215 (C := RX1) (T := TX1) (N := 18) rfl (by decide) rfl rfl h8 rfl uw_X1 tyX1 tyX1_ok nmX1 nw_367 rfl rfl (by decide) dX6_raise_34 (fun σ1 H locs e1 hR1 => ?_)
      replace hR := hR1
      clear hR1
      subst e1
      refine rw_aload_n hX hl 1 rfl (Or.inr ⟨_, rfl⟩) dX6_raise_37 rfl ?_
      refine rw_get hX hR 7 9 0 (C := RX6) (T := TX6) (N := 11) rfl (by decide) (Nat.le_of_ble_eq_true rfl) rfl (v := .int (b2i (gb (zb σ 215 i6 true) 709 0))) rfl uw_X6 gw_158 rfl dX6_raise_38 ?_
      refine rw_ifneZ (b := (gb (zb σ 215 i6 true) 709 0)) (tgt := 55) hX dX6_raise_41 (by decide) (fun c11 => ?_) (fun c11 => ?_)
      · replace hw := if_t hw c11
        refine lv_iconst (v := 0) hX.1.1 hX.1.2.1 dX6_raise_55 (by decide) ?_
        refine W.widen (k := 5) (n := 30) (by omega) (by omega) ?_
        exact ry_ie hX hR hr hw dX6_raise_56 hlocks
      · replace hw := if_f hw c11
        refine rw_aload_n hX hl 1 rfl (Or.inr ⟨_, rfl⟩) dX6_raise_44 rfl ?_
        refine rw_aload_n hX hl 0 rfl (Or.inr ⟨_, rfl⟩) dX6_raise_45 rfl ?_
        refine rw_getN hX hR 2 3 i6 (C := RX1) (T := TX1) (N := 18) rfl (by decide) h8 rfl (v := .int (gi (zb σ 215 i6 true) 203 i6)) rfl uw_X1 nw_348 rfl dX6_raise_46 ?_
        obtain ⟨v12, g14, h15, h16⟩ := xb1_some hw
        refine rw_xVz hX hR pk_f7_isShut (mc := 1) (ms := 6) ⟨rfl, rfl, (show 10 + 1 ≤ 82 by omega), (show 8 + (2 + 11) + 64 * 10 ≤ 64 * 82 by omega)⟩ (As := [.int (gi (zb σ 215 i6 true) 203 i6)]) (rest := []) rfl (C_f7_isShut l hfl γ ad (gi (zb σ 215 i6 true) 203 i6) (zb σ 215 i6 true) v12 g14) gw_773 gw_775 gs_43 (rs_recv hX hR 7 0 (C := RX6) (T := TX6) (N := 11) rfl (by decide) (Nat.le_of_ble_eq_true rfl) rfl) rfl hl.1 ca0 (Nat.le_of_ble_eq_true rfl) dX6_raise_49 ⟨(show (0 + 1) + 1 ≤ 5 by omega), (show (0 + 6) + 6 ≤ 30 by omega)⟩ (fun x ce q9 H locs hx hR1 h1 h2 h3 => ?_) (fun v12 H locs hx hR1 => ?_)
        · replace hR := hR1
          clear hR1
          replace hw := h15 x hx
          cases hw
          exact rx_out hX hR hxt rfl h1 h2 h3 hlocks (by omega) (by omega)
        replace hR := hR1
        clear hR1
        replace hw := h16 v12 hx
        refine rw_ifeqZ (b := v12) (tgt := 57) hX dX6_raise_52 (by decide) (fun c17 => ?_) (fun c17 => ?_)
        · replace hw := if_f hw c17
          refine rw_aload_n hX hl 1 rfl (Or.inr ⟨_, rfl⟩) dX6_raise_57 rfl ?_
          refine rw_aload_n hX hl 0 rfl (Or.inr ⟨_, rfl⟩) dX6_raise_58 rfl ?_
          refine rw_getN hX hR 2 3 i6 (C := RX1) (T := TX1) (N := 18) rfl (by decide) h8 rfl (v := .int (gi (zb σ 215 i6 true) 203 i6)) rfl uw_X1 nw_348 rfl dX6_raise_59 ?_
          obtain ⟨v18, σ19, g20, hw1⟩ := ob2_some hw
          replace hw := hw1
          clear hw1
          refine rw_cVi hX hR pk_f7_ask (mc := 0) (ms := 0) ⟨rfl, rfl, (show 81 + 1 ≤ 82 by omega), (show 8 + (5 + 11) + 64 * 81 ≤ 64 * 82 by omega)⟩ (As := [.int (gi (zb σ 215 i6 true) 203 i6)]) (rest := []) rfl (C_f7_ask l γ ad (gi (zb σ 215 i6 true) 203 i6) (zb σ 215 i6 true) v18 σ19 g20) gw_785 gw_787 gs_44 (rs_recv hX hR 7 0 (C := RX6) (T := TX6) (N := 11) rfl (by decide) (Nat.le_of_ble_eq_true rfl) rfl) rfl hl.1 ca0 (Nat.le_of_ble_eq_true rfl) dX6_raise_62 ⟨(show ((0 + 1) + 1) + 0 ≤ 5 by omega), (show ((0 + 6) + 6) + 0 ≤ 30 by omega)⟩ (fun H locs hR1 => ?_)
          replace hR := hR1
          clear hR1
          refine rw_istore_n (lv' := [(3, .int v18), (2, .ref (Ad γ ad 2 i6)), (0, .ref (gS γ 7 0)), (1, .int a1)]) hX hl (by decide) rfl dX6_raise_65 rfl (fun ls hl1 => ?_)
          replace hl := hl1
          clear hl1
          refine rw_aload_n hX hl 2 rfl (Or.inr ⟨_, rfl⟩) dX6_raise_66 rfl ?_
          refine rw_aload_n hX hl 1 rfl (Or.inr ⟨_, rfl⟩) dX6_raise_67 rfl ?_
          obtain ⟨h21, hw1⟩ := ck_lt hw
          replace hw := hw1
          clear hw1
          refine rw_getN hX hR 2 3 i6 (C := RX1) (T := TX1) (N := 18) rfl (by decide) h21 rfl (v := .int (gi σ19 203 i6)) rfl uw_X1 nw_348 rfl dX6_raise_68 ?_
          refine rw_iload_n hX hl 0 rfl dX6_raise_71 rfl ?_
          refine lv_if_le (x := v18) (tgt := 79) hX.1.1 hX.1.2.1 dX6_raise_72 (by decide) (fun c22 => ?_) (fun c22 => ?_)
          · replace hw := if_t hw c22
            refine lv_iconst (v := 0) hX.1.1 hX.1.2.1 dX6_raise_79 (by decide) ?_
            exact J80 v18 (gi σ19 203 i6) false σ19 _ _ (by omega) (by omega) _ _ _ hw hR (lh_sub hl [0] rfl)
          · replace hw := if_f hw c22
            refine lv_iconst (v := 1) hX.1.1 hX.1.2.1 dX6_raise_75 (by decide) ?_
            refine lv_goto (tgt := 80) hX.1.1 hX.1.2.1 dX6_raise_76 (by decide) ?_
            exact J80 v18 (gi σ19 203 i6) true σ19 _ _ (by omega) (by omega) _ _ _ hw hR (lh_sub hl [0] rfl)
        · replace hw := if_t hw c17
          refine lv_iconst (v := 0) hX.1.1 hX.1.2.1 dX6_raise_55 (by decide) ?_
          refine W.widen (k := 5) (n := 30) (by omega) (by omega) ?_
          exact ry_ie hX hR hr hw dX6_raise_56 hlocks
    · replace hw := if_t hw c10
      cases hw
      exact rw_throwW (lv := [(2, .ref (Ad γ ad 2 i6)), (0, .ref (gS γ 7 0)), (1, .int a1)]) (text := "the device is there no more, or has no line") hX hR hfl 3 74 292 78 rfl XN_fit3 XNS_fit gw_320 gw_19 (by decide +kernel) xa_3 xg_3 hl.1 hxt dX6_raise_21 dX6_raise_24 dX6_raise_25 dX6_raise_28 dX6_raise_31 (Nat.le_of_ble_eq_true rfl) (Nat.le_of_ble_eq_true rfl) ⟨(show (0 + 1) + 1 ≤ 5 by omega), (show (0 + 6) + 6 ≤ 30 by omega)⟩ hlocks ⟨by omega, by omega⟩
set_option maxHeartbeats 8000000 in
set_option maxRecDepth 100000 in
theorem C_f7_openLine (l : Launch) (hfl : l.stackTraces = false) (γ : GT) (ad : Nat → Nat → Nat) {fu : Nat} (a1 : Int32) (σ : St) (r : Except Nat Int32) (σ' : St) (hw : f7_openLine fu a1 σ = some (r, σ')) : vx_Met l yX6_openLine (Cond.code yX6_openLine cX6_openLine 2 (Option.some Jvm.ClassFile.FieldType.int) :: GW) (rmo 82 1 6) (va_Pc [.ref (gS γ 7 0), .int a1] (RU γ ad σ)) (QXI γ ad σ' r) (QXX γ ad σ' r) 1 6 (gA γ) := by
  refine vx_ofW (cc := cX6_openLine) (maxL := 2) (ret := (Option.some Jvm.ClassFile.FieldType.int)) (by decide) rfl ?_
  intro p e s m args below meth c s₁ B hml hxt hv
  obtain ⟨rfl, hU⟩ := hv
  obtain ⟨hX, hR⟩ := cx_of (own := RX6) B hml rfl hU
  have hr := B.returns
  have hlocks := B.notSynchronized
  have hc0 : (0 : Nat) ≤ 0 := Nat.le_refl 0
  show W p l e (rmo 82 1 6) s m ([.ref (gS γ 7 0), .int a1] : List Value).toArray below meth c s.heap [] 0 0 (vx_MQ below (QXI γ ad σ' r) (QXX γ ad σ' r) ([.ref (gS γ 7 0), .int a1] : List Value).toArray s 1 6 (gA γ)) (entryFrame m ([.ref (gS γ 7 0), .int a1] : List Value).toArray 2)
  unfold f7_openLine at hw
  refine rw_entry (ca1 rfl (ca1 rfl ca0)) (Nat.le_of_ble_eq_true rfl) (fun ls hl1 => ?_)
  replace hl := hl1
  clear hl1
  refine rw_iload_n hX hl 1 rfl dX6_openLine_0 rfl ?_
  obtain ⟨v1, g3, h4, h5⟩ := xb1_some hw
  refine rw_xSv hX hR pk_f7_checkLine (mc := 1) (ms := 6) ⟨rfl, rfl, (show 8 + 1 ≤ 82 by omega), (show 8 + (1 + 11) + 64 * 8 ≤ 64 * 82 by omega)⟩ (As := [.int a1]) (rest := []) rfl (C_f7_checkLine l hfl γ ad a1 σ v1 g3) gw_781 gw_782 rfl hl.1 ca0 (Nat.le_of_ble_eq_true rfl) dX6_openLine_1 ⟨(show 0 + 1 ≤ 1 by omega), (show 0 + 6 ≤ 6 by omega)⟩ (fun x ce q9 H locs hx hR1 h1 h2 h3 => ?_) (fun H locs hx hR1 => ?_)
  · replace hR := hR1
    clear hR1
    replace hw := h4 x hx
    cases hw
    exact rx_out hX hR hxt rfl h1 h2 h3 hlocks (by omega) (by omega)
  replace hR := hR1
  clear hR1
  replace hw := h5 () hx
  refine rw_aload_n hX hl 0 rfl (Or.inr ⟨_, rfl⟩) dX6_openLine_4 rfl ?_
  refine rw_get hX hR 7 6 0 (C := RX6) (T := TX6) (N := 11) rfl (by decide) (Nat.le_of_ble_eq_true rfl) rfl (v := .ref (gS γ 1706 0)) rfl uw_X6 gw_155 rfl dX6_openLine_5 ?_
  refine rw_iload_n hX hl 1 rfl dX6_openLine_8 rfl ?_
  refine lv_iconst (v := 0) hX.1.1 hX.1.2.1 dX6_openLine_9 (by decide) ?_
  obtain ⟨h7, hw1⟩ := ar_some hw
  replace hw := hw1
  clear hw1
  obtain ⟨j6, ej6⟩ : ∃ j, (a1 : Int32).toNatClampNeg = j := ⟨_, rfl⟩
  rw [ej6] at hw
  refine rw_iast hX hR 706 (n := 8) (i := a1) (x := 0) rfl (by decide) rfl rfl h7 dX6_openLine_10 (fun σ1 H locs e1 hR1 => ?_)
  replace hR := hR1
  clear hR1
  rw [ej6] at e1
  subst e1
  refine rw_aload_n hX hl 0 rfl (Or.inr ⟨_, rfl⟩) dX6_openLine_11 rfl ?_
  refine rw_get hX hR 7 9 0 (C := RX6) (T := TX6) (N := 11) rfl (by decide) (Nat.le_of_ble_eq_true rfl) rfl (v := .int (b2i (gb (zi σ 706 j6 0) 709 0))) rfl uw_X6 gw_158 rfl dX6_openLine_12 ?_
  refine rw_ifeqZ (b := (gb (zi σ 706 j6 0) 709 0)) (tgt := 22) hX dX6_openLine_15 (by decide) (fun c8 => ?_) (fun c8 => ?_)
  · replace hw := if_f hw c8
    refine rw_aload_n hX hl 0 rfl (Or.inr ⟨_, rfl⟩) dX6_openLine_22 rfl ?_
    refine rw_iload_n hX hl 1 rfl dX6_openLine_23 rfl ?_
    obtain ⟨v9, σ10, g11, hw1⟩ := ob2_some hw
    replace hw := hw1
    clear hw1
    refine rw_cVi hX hR pk_f7_ask (mc := 0) (ms := 0) ⟨rfl, rfl, (show 81 + 1 ≤ 82 by omega), (show 8 + (5 + 11) + 64 * 81 ≤ 64 * 82 by omega)⟩ (As := [.int a1]) (rest := []) rfl (C_f7_ask l γ ad a1 (zi σ 706 j6 0) v9 σ10 g11) gw_785 gw_787 gs_44 (rs_recv hX hR 7 0 (C := RX6) (T := TX6) (N := 11) rfl (by decide) (Nat.le_of_ble_eq_true rfl) rfl) rfl hl.1 ca0 (Nat.le_of_ble_eq_true rfl) dX6_openLine_24 ⟨(show (0 + 1) + 0 ≤ 1 by omega), (show (0 + 6) + 0 ≤ 6 by omega)⟩ (fun H locs hR1 => ?_)
    replace hR := hR1
    clear hR1
    refine W.widen (k := 1) (n := 6) (by omega) (by omega) ?_
    exact ry_ie hX hR hr hw dX6_openLine_27 hlocks
  · replace hw := if_t hw c8
    refine lv_iconst (v := 0) hX.1.1 hX.1.2.1 dX6_openLine_18 (by decide) ?_
    refine lv_goto (tgt := 27) hX.1.1 hX.1.2.1 dX6_openLine_19 (by decide) ?_
    refine W.widen (k := 1) (n := 6) (by omega) (by omega) ?_
    exact ry_ie hX hR hr hw dX6_openLine_27 hlocks
set_option maxHeartbeats 8000000 in
set_option maxRecDepth 100000 in
theorem C_f7_isThere (l : Launch) (hfl : l.stackTraces = false) (γ : GT) (ad : Nat → Nat → Nat) {fu : Nat} (a1 : Int32) (σ : St) (r : Except Nat Bool) (hw : f7_isThere fu a1 σ = some r) : vx_Met l yX6_isThere (Cond.code yX6_isThere cX6_isThere 2 (Option.some Jvm.ClassFile.FieldType.boolean) :: GW) (rmo 16 1 6) (va_Pc [.ref (gS γ 7 0), .int a1] (RU γ ad σ)) (QXZ γ ad σ r) (QXX γ ad σ r) 1 6 (gA γ) := by
  refine vx_ofW (cc := cX6_isThere) (maxL := 2) (ret := (Option.some Jvm.ClassFile.FieldType.boolean)) (by decide) rfl ?_
  intro p e s m args below meth c s₁ B hml hxt hv
  obtain ⟨rfl, hU⟩ := hv
  obtain ⟨hX, hR⟩ := cx_of (own := RX6) B hml rfl hU
  have hr := B.returns
  have hlocks := B.notSynchronized
  have hc0 : (0 : Nat) ≤ 0 := Nat.le_refl 0
  show W p l e (rmo 16 1 6) s m ([.ref (gS γ 7 0), .int a1] : List Value).toArray below meth c s.heap [] 0 0 (vx_MQ below (QXZ γ ad σ r) (QXX γ ad σ r) ([.ref (gS γ 7 0), .int a1] : List Value).toArray s 1 6 (gA γ)) (entryFrame m ([.ref (gS γ 7 0), .int a1] : List Value).toArray 2)
  unfold f7_isThere at hw
  refine rw_entry (ca1 rfl (ca1 rfl ca0)) (Nat.le_of_ble_eq_true rfl) (fun ls hl1 => ?_)
  replace hl := hl1
  clear hl1
  refine rw_aload_n hX hl 0 rfl (Or.inr ⟨_, rfl⟩) dX6_isThere_0 rfl ?_
  refine rw_iload_n hX hl 1 rfl dX6_isThere_1 rfl ?_
  obtain ⟨v1, g3, h4, h5⟩ := xb1_some hw
  refine rw_xVq hX hR pk_f7_known (mc := 1) (ms := 6) ⟨rfl, rfl, (show 15 + 1 ≤ 16 by omega), (show 8 + (2 + 11) + 64 * 15 ≤ 64 * 16 by omega)⟩ (As := [.int a1]) (rest := []) rfl (C_f7_known l hfl γ ad a1 σ v1 g3) gw_205 gw_207 gs_4 (rs_recv hX hR 7 0 (C := RX6) (T := TX6) (N := 11) rfl (by decide) (Nat.le_of_ble_eq_true rfl) rfl) rfl hl.1 ca0 (Nat.le_of_ble_eq_true rfl) dX6_isThere_2 ⟨(show 0 + 1 ≤ 1 by omega), (show 0 + 6 ≤ 6 by omega)⟩ (fun x ce q9 H locs hx hR1 h1 h2 h3 => ?_) (fun v1 H locs hx hR1 => ?_)
  · replace hR := hR1
    clear hR1
    replace hw := h4 x hx
    cases hw
    exact rx_out hX hR hxt rfl h1 h2 h3 hlocks (by omega) (by omega)
  replace hR := hR1
  clear hR1
  replace hw := h5 v1 hx
  obtain ⟨i6, e7, h8, hw1⟩ := dr_some hw
  replace hw := hw1
  clear hw1
  subst e7
  refine rw_getN hX hR 2 8 i6 (C := RX1) (T := TX1) (N := 18) rfl (by decide) h8 rfl (v := .int (b2i (gb σ 208 i6))) rfl uw_X1 nw_358 rfl dX6_isThere_5 ?_
  refine W.widen (k := 1) (n := 6) (by omega) (by omega) ?_
  exact ry_z hX hR hr (v := (gb σ 208 i6)) rfl hw dX6_isThere_8 hlocks
set_option maxHeartbeats 8000000 in
set_option maxRecDepth 100000 in
theorem C_f7_reason (l : Launch) (hfl : l.stackTraces = false) (γ : GT) (ad : Nat → Nat → Nat) {fu : Nat} (a1 : Int32) (σ : St) (r : Except Nat Int32) (hw : f7_reason fu a1 σ = some r) : vx_Met l yX6_reason (Cond.code yX6_reason cX6_reason 4 (Option.some Jvm.ClassFile.FieldType.int) :: GW) (rmo 18 1 6) (va_Pc [.ref (gS γ 7 0), .int a1] (RU γ ad σ)) (QXI γ ad σ r) (QXX γ ad σ r) 1 6 (gA γ) := by
  refine vx_ofW (cc := cX6_reason) (maxL := 4) (ret := (Option.some Jvm.ClassFile.FieldType.int)) (by decide) rfl ?_
  intro p e s m args below meth c s₁ B hml hxt hv
  obtain ⟨rfl, hU⟩ := hv
  obtain ⟨hX, hR⟩ := cx_of (own := RX6) B hml rfl hU
  have hr := B.returns
  have hlocks := B.notSynchronized
  have hc0 : (0 : Nat) ≤ 0 := Nat.le_refl 0
  show W p l e (rmo 18 1 6) s m ([.ref (gS γ 7 0), .int a1] : List Value).toArray below meth c s.heap [] 0 0 (vx_MQ below (QXI γ ad σ r) (QXX γ ad σ r) ([.ref (gS γ 7 0), .int a1] : List Value).toArray s 1 6 (gA γ)) (entryFrame m ([.ref (gS γ 7 0), .int a1] : List Value).toArray 4)
  unfold f7_reason at hw
  refine rw_entry (ca1 rfl (ca1 rfl ca0)) (Nat.le_of_ble_eq_true rfl) (fun ls hl1 => ?_)
  replace hl := hl1
  clear hl1
  refine rw_aload_n hX hl 0 rfl (Or.inr ⟨_, rfl⟩) dX6_reason_0 rfl ?_
  refine rw_iload_n hX hl 1 rfl dX6_reason_1 rfl ?_
  obtain ⟨v1, g3, h4, h5⟩ := xb1_some hw
  refine rw_xVq hX hR pk_f7_known (mc := 1) (ms := 6) ⟨rfl, rfl, (show 15 + 1 ≤ 18 by omega), (show 8 + (2 + 11) + 64 * 15 ≤ 64 * 18 by omega)⟩ (As := [.int a1]) (rest := []) rfl (C_f7_known l hfl γ ad a1 σ v1 g3) gw_205 gw_207 gs_4 (rs_recv hX hR 7 0 (C := RX6) (T := TX6) (N := 11) rfl (by decide) (Nat.le_of_ble_eq_true rfl) rfl) rfl hl.1 ca0 (Nat.le_of_ble_eq_true rfl) dX6_reason_2 ⟨(show 0 + 1 ≤ 1 by omega), (show 0 + 6 ≤ 6 by omega)⟩ (fun x ce q9 H locs hx hR1 h1 h2 h3 => ?_) (fun v1 H locs hx hR1 => ?_)
  · replace hR := hR1
    clear hR1
    replace hw := h4 x hx
    cases hw
    exact rx_out hX hR hxt rfl h1 h2 h3 hlocks (by omega) (by omega)
  replace hR := hR1
  clear hR1
  replace hw := h5 v1 hx
  refine rw_astore_n (lv' := [(2, va_rf (Option.map (Ad γ ad 2) v1)), (0, .ref (gS γ 7 0)), (1, .int a1)]) hX hl (by decide) rfl (va_rf_or _) dX6_reason_5 rfl (fun ls hl1 => ?_)
  replace hl := hl1
  clear hl1
  refine rw_aload_n hX hl 0 rfl (va_rf_or _) dX6_reason_6 rfl ?_
  obtain ⟨i6, e7, h8, hw1⟩ := dr_some hw
  replace hw := hw1
  clear hw1
  subst e7
  refine rw_getN hX hR 2 8 i6 (C := RX1) (T := TX1) (N := 18) rfl (by decide) h8 rfl (v := .int (b2i (gb σ 208 i6))) rfl uw_X1 nw_358 rfl dX6_reason_7 ?_
  refine rw_ifneZ (b := (gb σ 208 i6)) (tgt := 16) hX dX6_reason_10 (by decide) (fun c9 => ?_) (fun c9 => ?_)
  · replace hw := if_t hw c9
    refine rw_aload_n hX hl 0 rfl (Or.inr ⟨_, rfl⟩) dX6_reason_16 rfl ?_
    obtain ⟨v10, g12, hw1⟩ := ob1_some hw
    replace hw := hw1
    clear hw1
    refine rw_cVNi hX hR pk_f2_isBound (mc := 0) (ms := 0) ⟨rfl, rfl, (show 1 + 1 ≤ 18 by omega), (show 8 + (1 + 11) + 64 * 1 ≤ 64 * 18 by omega)⟩ (As := []) (rest := []) rfl (C_f2_isBound l γ ad i6 σ v10 g12) nw_416 gw_418 gs_8 (rs_recv hX hR 2 i6 (C := RX1) (T := TX1) (N := 18) rfl (by decide) h8 rfl) rfl hl.1 ca0 (Nat.le_of_ble_eq_true rfl) dX6_reason_17 ⟨(show (0 + 1) + 0 ≤ 1 by omega), (show (0 + 6) + 0 ≤ 6 by omega)⟩ (fun H locs hR1 => ?_)
    replace hR := hR1
    clear hR1
    refine rw_ifeqZ (b := v10) (tgt := 25) hX dX6_reason_20 (by decide) (fun c13 => ?_) (fun c13 => ?_)
    · replace hw := if_f hw c13
      refine rw_aload_n hX hl 1 rfl (Or.inr ⟨_, rfl⟩) dX6_reason_25 rfl ?_
      refine rw_aload_n hX hl 0 rfl (Or.inr ⟨_, rfl⟩) dX6_reason_26 rfl ?_
      obtain ⟨v14, g16, hw1⟩ := ob1_some hw
      replace hw := hw1
      clear hw1
      refine rw_cVi hX hR pk_f7_refusalOf (mc := 0) (ms := 0) ⟨rfl, rfl, (show 17 + 1 ≤ 18 by omega), (show 8 + (3 + 11) + 64 * 17 ≤ 64 * 18 by omega)⟩ (As := [va_rf (Option.map (Ad γ ad 2) (some i6))]) (rest := []) rfl (C_f7_refusalOf l γ ad (some i6) σ v14 g16) gw_420 gw_422 gs_9 (rs_recv hX hR 7 0 (C := RX6) (T := TX6) (N := 11) rfl (by decide) (Nat.le_of_ble_eq_true rfl) rfl) rfl hl.1 ca0 (Nat.le_of_ble_eq_true rfl) dX6_reason_27 ⟨(show ((0 + 1) + 0) + 0 ≤ 1 by omega), (show ((0 + 6) + 0) + 0 ≤ 6 by omega)⟩ (fun H locs hR1 => ?_)
      replace hR := hR1
      clear hR1
      refine rw_istore_n (lv' := [(3, .int v14), (2, .ref (Ad γ ad 2 i6)), (0, .ref (gS γ 7 0)), (1, .int a1)]) hX hl (by decide) rfl dX6_reason_30 rfl (fun ls hl1 => ?_)
      replace hl := hl1
      clear hl1
      refine rw_iload_n hX hl 0 rfl dX6_reason_31 rfl ?_
      refine lv_if_ne (x := v14) (tgt := 39) hX.1.1 hX.1.2.1 dX6_reason_32 (by decide) (fun c17 => ?_) (fun c17 => ?_)
      · replace hw := if_f hw c17
        refine rw_iload_n hX hl 0 rfl dX6_reason_39 rfl ?_
        refine W.widen (k := 1) (n := 6) (by omega) (by omega) ?_
        exact ry_i hX hR hr hw dX6_reason_40 hlocks
      · replace hw := if_t hw c17
        refine lv_iconst (v := (-1)) hX.1.1 hX.1.2.1 dX6_reason_35 (by decide) ?_
        refine lv_goto (tgt := 40) hX.1.1 hX.1.2.1 dX6_reason_36 (by decide) ?_
        refine W.widen (k := 1) (n := 6) (by omega) (by omega) ?_
        exact ry_i hX hR hr hw dX6_reason_40 hlocks
    · replace hw := if_t hw c13
      refine lv_iconst (v := 0) hX.1.1 hX.1.2.1 dX6_reason_23 (by decide) ?_
      refine W.widen (k := 1) (n := 6) (by omega) (by omega) ?_
      exact ry_i hX hR hr hw dX6_reason_24 hlocks
  · replace hw := if_f hw c9
    refine lv_bipush (v := 8) hX.1.1 hX.1.2.1 dX6_reason_13 (by decide) ?_
    refine W.widen (k := 1) (n := 6) (by omega) (by omega) ?_
    exact ry_i hX hR hr hw dX6_reason_15 hlocks
set_option maxHeartbeats 8000000 in
set_option maxRecDepth 100000 in
theorem C_f7_driverOf (l : Launch) (hfl : l.stackTraces = false) (γ : GT) (ad : Nat → Nat → Nat) {fu : Nat} (a1 : Int32) (σ : St) (r : Except Nat Int32) (hw : f7_driverOf fu a1 σ = some r) : vx_Met l yX6_driverOf (Cond.code yX6_driverOf cX6_driverOf 4 (Option.some Jvm.ClassFile.FieldType.int) :: GW) (rmo 16 1 6) (va_Pc [.ref (gS γ 7 0), .int a1] (RU γ ad σ)) (QXI γ ad σ r) (QXX γ ad σ r) 1 6 (gA γ) := by
  refine vx_ofW (cc := cX6_driverOf) (maxL := 4) (ret := (Option.some Jvm.ClassFile.FieldType.int)) (by decide) rfl ?_
  intro p e s m args below meth c s₁ B hml hxt hv
  obtain ⟨rfl, hU⟩ := hv
  obtain ⟨hX, hR⟩ := cx_of (own := RX6) B hml rfl hU
  have hr := B.returns
  have hlocks := B.notSynchronized
  have hc0 : (0 : Nat) ≤ 0 := Nat.le_refl 0
  show W p l e (rmo 16 1 6) s m ([.ref (gS γ 7 0), .int a1] : List Value).toArray below meth c s.heap [] 0 0 (vx_MQ below (QXI γ ad σ r) (QXX γ ad σ r) ([.ref (gS γ 7 0), .int a1] : List Value).toArray s 1 6 (gA γ)) (entryFrame m ([.ref (gS γ 7 0), .int a1] : List Value).toArray 4)
  unfold f7_driverOf at hw
  have J37 : ∀ (y0 : (Option Nat)) (cells slots : Nat), cells ≤ 1 → slots ≤ 6 → ∀ (H : Heap) (locs : List Loc) (ls : Array Slot), f7_driverOf_j37 fu y0 σ = some r → RS γ ad σ s H locs → lh ls 4 [] → W p l e (rmo 16 1 6) s m ([.ref (gS γ 7 0), .int a1] : List Value).toArray below meth c H locs cells slots (vx_MQ below (QXI γ ad σ r) (QXX γ ad σ r) ([.ref (gS γ 7 0), .int a1] : List Value).toArray s 1 6 (gA γ)) (F0 m 37 ls [va_rf (Option.map (Ad γ ad 3) y0)]) := by
    intro y0 cells slots hc1 hc2 H locs ls hw hR hl
    unfold f7_driverOf_j37 at hw
    refine rw_astore_n (lv' := [(3, va_rf (Option.map (Ad γ ad 3) y0))]) hX hl (by decide) rfl (va_rf_or _) dX6_driverOf_37 rfl (fun ls hl1 => ?_)
    replace hl := hl1
    clear hl1
    refine rw_aload_n hX hl 0 rfl (va_rf_or _) dX6_driverOf_38 rfl ?_
    refine rw_ifnonnull hX (o := y0) (g := Ad γ ad 3) (tgt := 46) dX6_driverOf_39 (by decide) (fun c17 => ?_) (fun c17 => ?_)
    · replace hw := if_f hw c17
      refine rw_aload_n hX hl 0 rfl (va_rf_or _) dX6_driverOf_46 rfl ?_
      obtain ⟨i18, e19, h20, hw1⟩ := dr_some hw
      replace hw := hw1
      clear hw1
      subst e19
      refine rw_getN hX hR 3 0 i18 (C := RX2) (T := TX2) (N := 6) rfl (by decide) h20 rfl (v := .int (gi σ 300 i18)) rfl uw_X2 nw_541 rfl dX6_driverOf_47 ?_
      refine W.widen (k := 1) (n := 6) (by omega) (by omega) ?_
      exact ry_i hX hR hr hw dX6_driverOf_50 hlocks
    · replace hw := if_t hw c17
      refine lv_iconst (v := (-1)) hX.1.1 hX.1.2.1 dX6_driverOf_42 (by decide) ?_
      refine lv_goto (tgt := 50) hX.1.1 hX.1.2.1 dX6_driverOf_43 (by decide) ?_
      refine W.widen (k := 1) (n := 6) (by omega) (by omega) ?_
      exact ry_i hX hR hr hw dX6_driverOf_50 hlocks
  refine rw_entry (ca1 rfl (ca1 rfl ca0)) (Nat.le_of_ble_eq_true rfl) (fun ls hl1 => ?_)
  replace hl := hl1
  clear hl1
  refine rw_aload_n hX hl 0 rfl (Or.inr ⟨_, rfl⟩) dX6_driverOf_0 rfl ?_
  refine rw_iload_n hX hl 1 rfl dX6_driverOf_1 rfl ?_
  obtain ⟨v1, g3, h4, h5⟩ := xb1_some hw
  refine rw_xVq hX hR pk_f7_known (mc := 1) (ms := 6) ⟨rfl, rfl, (show 15 + 1 ≤ 16 by omega), (show 8 + (2 + 11) + 64 * 15 ≤ 64 * 16 by omega)⟩ (As := [.int a1]) (rest := []) rfl (C_f7_known l hfl γ ad a1 σ v1 g3) gw_205 gw_207 gs_4 (rs_recv hX hR 7 0 (C := RX6) (T := TX6) (N := 11) rfl (by decide) (Nat.le_of_ble_eq_true rfl) rfl) rfl hl.1 ca0 (Nat.le_of_ble_eq_true rfl) dX6_driverOf_2 ⟨(show 0 + 1 ≤ 1 by omega), (show 0 + 6 ≤ 6 by omega)⟩ (fun x ce q9 H locs hx hR1 h1 h2 h3 => ?_) (fun v1 H locs hx hR1 => ?_)
  · replace hR := hR1
    clear hR1
    replace hw := h4 x hx
    cases hw
    exact rx_out hX hR hxt rfl h1 h2 h3 hlocks (by omega) (by omega)
  replace hR := hR1
  clear hR1
  replace hw := h5 v1 hx
  refine rw_astore_n (lv' := [(2, va_rf (Option.map (Ad γ ad 2) v1)), (0, .ref (gS γ 7 0)), (1, .int a1)]) hX hl (by decide) rfl (va_rf_or _) dX6_driverOf_5 rfl (fun ls hl1 => ?_)
  replace hl := hl1
  clear hl1
  refine rw_aload_n hX hl 0 rfl (va_rf_or _) dX6_driverOf_6 rfl ?_
  obtain ⟨i6, e7, h8, hw1⟩ := dr_some hw
  replace hw := hw1
  clear hw1
  subst e7
  refine rw_getN hX hR 2 8 i6 (C := RX1) (T := TX1) (N := 18) rfl (by decide) h8 rfl (v := .int (b2i (gb σ 208 i6))) rfl uw_X1 nw_358 rfl dX6_driverOf_7 ?_
  refine rw_ifneZ (b := (gb σ 208 i6)) (tgt := 15) hX dX6_driverOf_10 (by decide) (fun c9 => ?_) (fun c9 => ?_)
  · replace hw := if_t hw c9
    refine rw_aload_n hX hl 0 rfl (Or.inr ⟨_, rfl⟩) dX6_driverOf_15 rfl ?_
    obtain ⟨v10, g12, hw1⟩ := ob1_some hw
    replace hw := hw1
    clear hw1
    refine rw_cVNi hX hR pk_f2_isBound (mc := 0) (ms := 0) ⟨rfl, rfl, (show 1 + 1 ≤ 16 by omega), (show 8 + (1 + 11) + 64 * 1 ≤ 64 * 16 by omega)⟩ (As := []) (rest := []) rfl (C_f2_isBound l γ ad i6 σ v10 g12) nw_416 gw_418 gs_8 (rs_recv hX hR 2 i6 (C := RX1) (T := TX1) (N := 18) rfl (by decide) h8 rfl) rfl hl.1 ca0 (Nat.le_of_ble_eq_true rfl) dX6_driverOf_16 ⟨(show (0 + 1) + 0 ≤ 1 by omega), (show (0 + 6) + 0 ≤ 6 by omega)⟩ (fun H locs hR1 => ?_)
    replace hR := hR1
    clear hR1
    refine rw_ifeqZ (b := v10) (tgt := 29) hX dX6_driverOf_19 (by decide) (fun c13 => ?_) (fun c13 => ?_)
    · replace hw := if_f hw c13
      refine rw_aload_n hX hl 1 rfl (Or.inr ⟨_, rfl⟩) dX6_driverOf_29 rfl ?_
      refine rw_aload_n hX hl 0 rfl (Or.inr ⟨_, rfl⟩) dX6_driverOf_30 rfl ?_
      refine rw_getN hX hR 2 1 i6 (C := RX1) (T := TX1) (N := 18) rfl (by decide) h8 rfl (v := .int (gi σ 201 i6)) rfl uw_X1 nw_344 rfl dX6_driverOf_31 ?_
      obtain ⟨v14, g16, hw1⟩ := ob1_some hw
      replace hw := hw1
      clear hw1
      refine rw_cVq hX hR pk_f7_bestDriver (mc := 0) (ms := 0) ⟨rfl, rfl, (show 15 + 1 ≤ 16 by omega), (show 8 + (5 + 11) + 64 * 15 ≤ 64 * 16 by omega)⟩ (As := [.int (gi σ 201 i6)]) (rest := []) rfl (C_f7_bestDriver l γ ad (gi σ 201 i6) σ v14 g16) gw_424 gw_426 gs_10 (rs_recv hX hR 7 0 (C := RX6) (T := TX6) (N := 11) rfl (by decide) (Nat.le_of_ble_eq_true rfl) rfl) rfl hl.1 ca0 (Nat.le_of_ble_eq_true rfl) dX6_driverOf_34 ⟨(show ((0 + 1) + 0) + 0 ≤ 1 by omega), (show ((0 + 6) + 0) + 0 ≤ 6 by omega)⟩ (fun H locs hR1 => ?_)
      replace hR := hR1
      clear hR1
      exact J37 v14 _ _ (by omega) (by omega) _ _ _ hw hR (lh_sub hl [] rfl)
    · replace hw := if_t hw c13
      refine rw_aload_n hX hl 0 rfl (Or.inr ⟨_, rfl⟩) dX6_driverOf_22 rfl ?_
      obtain ⟨p21, q22⟩ : ∃ o, gp σ 210 i6 = o := ⟨_, rfl⟩
      replace hw := lt_eq hw q22
      refine rw_getN hX hR 2 10 i6 (C := RX1) (T := TX1) (N := 18) rfl (by decide) h8 rfl (v := va_rf (Option.map (Ad γ ad 3) p21)) (by rw [← q22]; rfl) uw_X1 nw_361 rfl dX6_driverOf_23 ?_
      refine lv_goto (tgt := 37) hX.1.1 hX.1.2.1 dX6_driverOf_26 (by decide) ?_
      exact J37 p21 _ _ (by omega) (by omega) _ _ _ hw hR (lh_sub hl [] rfl)
  · replace hw := if_f hw c9
    refine lv_iconst (v := (-1)) hX.1.1 hX.1.2.1 dX6_driverOf_13 (by decide) ?_
    refine W.widen (k := 1) (n := 6) (by omega) (by omega) ?_
    exact ry_i hX hR hr hw dX6_driverOf_14 hlocks
set_option maxHeartbeats 8000000 in
set_option maxRecDepth 100000 in
theorem C_f7_window (l : Launch) (hfl : l.stackTraces = false) (γ : GT) (ad : Nat → Nat → Nat) {fu : Nat} (a1 : Int32) (σ : St) (r : Except Nat Int32) (hw : f7_window fu a1 σ = some r) : vx_Met l yX6_window (Cond.code yX6_window cX6_window 2 (Option.some Jvm.ClassFile.FieldType.int) :: GW) (rmo 16 1 6) (va_Pc [.ref (gS γ 7 0), .int a1] (RU γ ad σ)) (QXI γ ad σ r) (QXX γ ad σ r) 1 6 (gA γ) := by
  refine vx_ofW (cc := cX6_window) (maxL := 2) (ret := (Option.some Jvm.ClassFile.FieldType.int)) (by decide) rfl ?_
  intro p e s m args below meth c s₁ B hml hxt hv
  obtain ⟨rfl, hU⟩ := hv
  obtain ⟨hX, hR⟩ := cx_of (own := RX6) B hml rfl hU
  have hr := B.returns
  have hlocks := B.notSynchronized
  have hc0 : (0 : Nat) ≤ 0 := Nat.le_refl 0
  show W p l e (rmo 16 1 6) s m ([.ref (gS γ 7 0), .int a1] : List Value).toArray below meth c s.heap [] 0 0 (vx_MQ below (QXI γ ad σ r) (QXX γ ad σ r) ([.ref (gS γ 7 0), .int a1] : List Value).toArray s 1 6 (gA γ)) (entryFrame m ([.ref (gS γ 7 0), .int a1] : List Value).toArray 2)
  unfold f7_window at hw
  refine rw_entry (ca1 rfl (ca1 rfl ca0)) (Nat.le_of_ble_eq_true rfl) (fun ls hl1 => ?_)
  replace hl := hl1
  clear hl1
  refine rw_aload_n hX hl 0 rfl (Or.inr ⟨_, rfl⟩) dX6_window_0 rfl ?_
  refine rw_iload_n hX hl 1 rfl dX6_window_1 rfl ?_
  obtain ⟨v1, g3, h4, h5⟩ := xb1_some hw
  refine rw_xVq hX hR pk_f7_known (mc := 1) (ms := 6) ⟨rfl, rfl, (show 15 + 1 ≤ 16 by omega), (show 8 + (2 + 11) + 64 * 15 ≤ 64 * 16 by omega)⟩ (As := [.int a1]) (rest := []) rfl (C_f7_known l hfl γ ad a1 σ v1 g3) gw_205 gw_207 gs_4 (rs_recv hX hR 7 0 (C := RX6) (T := TX6) (N := 11) rfl (by decide) (Nat.le_of_ble_eq_true rfl) rfl) rfl hl.1 ca0 (Nat.le_of_ble_eq_true rfl) dX6_window_2 ⟨(show 0 + 1 ≤ 1 by omega), (show 0 + 6 ≤ 6 by omega)⟩ (fun x ce q9 H locs hx hR1 h1 h2 h3 => ?_) (fun v1 H locs hx hR1 => ?_)
  · replace hR := hR1
    clear hR1
    replace hw := h4 x hx
    cases hw
    exact rx_out hX hR hxt rfl h1 h2 h3 hlocks (by omega) (by omega)
  replace hR := hR1
  clear hR1
  replace hw := h5 v1 hx
  obtain ⟨i6, e7, h8, hw1⟩ := dr_some hw
  replace hw := hw1
  clear hw1
  subst e7
  refine rw_getN hX hR 2 11 i6 (C := RX1) (T := TX1) (N := 18) rfl (by decide) h8 rfl (v := .int (gi σ 211 i6)) rfl uw_X1 nw_363 rfl dX6_window_5 ?_
  refine W.widen (k := 1) (n := 6) (by omega) (by omega) ?_
  exact ry_i hX hR hr hw dX6_window_8 hlocks
set_option maxHeartbeats 8000000 in
set_option maxRecDepth 100000 in
theorem C_f7_isOn (l : Launch) (hfl : l.stackTraces = false) (γ : GT) (ad : Nat → Nat → Nat) {fu : Nat} (a1 : Int32) (σ : St) (r : Except Nat Bool) (hw : f7_isOn fu a1 σ = some r) : vx_Met l yX6_isOn (Cond.code yX6_isOn cX6_isOn 2 (Option.some Jvm.ClassFile.FieldType.boolean) :: GW) (rmo 16 1 6) (va_Pc [.ref (gS γ 7 0), .int a1] (RU γ ad σ)) (QXZ γ ad σ r) (QXX γ ad σ r) 1 6 (gA γ) := by
  refine vx_ofW (cc := cX6_isOn) (maxL := 2) (ret := (Option.some Jvm.ClassFile.FieldType.boolean)) (by decide) rfl ?_
  intro p e s m args below meth c s₁ B hml hxt hv
  obtain ⟨rfl, hU⟩ := hv
  obtain ⟨hX, hR⟩ := cx_of (own := RX6) B hml rfl hU
  have hr := B.returns
  have hlocks := B.notSynchronized
  have hc0 : (0 : Nat) ≤ 0 := Nat.le_refl 0
  show W p l e (rmo 16 1 6) s m ([.ref (gS γ 7 0), .int a1] : List Value).toArray below meth c s.heap [] 0 0 (vx_MQ below (QXZ γ ad σ r) (QXX γ ad σ r) ([.ref (gS γ 7 0), .int a1] : List Value).toArray s 1 6 (gA γ)) (entryFrame m ([.ref (gS γ 7 0), .int a1] : List Value).toArray 2)
  unfold f7_isOn at hw
  refine rw_entry (ca1 rfl (ca1 rfl ca0)) (Nat.le_of_ble_eq_true rfl) (fun ls hl1 => ?_)
  replace hl := hl1
  clear hl1
  refine rw_aload_n hX hl 0 rfl (Or.inr ⟨_, rfl⟩) dX6_isOn_0 rfl ?_
  refine rw_iload_n hX hl 1 rfl dX6_isOn_1 rfl ?_
  obtain ⟨v1, g3, h4, h5⟩ := xb1_some hw
  refine rw_xVq hX hR pk_f7_known (mc := 1) (ms := 6) ⟨rfl, rfl, (show 15 + 1 ≤ 16 by omega), (show 8 + (2 + 11) + 64 * 15 ≤ 64 * 16 by omega)⟩ (As := [.int a1]) (rest := []) rfl (C_f7_known l hfl γ ad a1 σ v1 g3) gw_205 gw_207 gs_4 (rs_recv hX hR 7 0 (C := RX6) (T := TX6) (N := 11) rfl (by decide) (Nat.le_of_ble_eq_true rfl) rfl) rfl hl.1 ca0 (Nat.le_of_ble_eq_true rfl) dX6_isOn_2 ⟨(show 0 + 1 ≤ 1 by omega), (show 0 + 6 ≤ 6 by omega)⟩ (fun x ce q9 H locs hx hR1 h1 h2 h3 => ?_) (fun v1 H locs hx hR1 => ?_)
  · replace hR := hR1
    clear hR1
    replace hw := h4 x hx
    cases hw
    exact rx_out hX hR hxt rfl h1 h2 h3 hlocks (by omega) (by omega)
  replace hR := hR1
  clear hR1
  replace hw := h5 v1 hx
  obtain ⟨i6, e7, h8, hw1⟩ := dr_some hw
  replace hw := hw1
  clear hw1
  subst e7
  refine rw_getN hX hR 2 12 i6 (C := RX1) (T := TX1) (N := 18) rfl (by decide) h8 rfl (v := .int (b2i (gb σ 212 i6))) rfl uw_X1 nw_364 rfl dX6_isOn_5 ?_
  refine W.widen (k := 1) (n := 6) (by omega) (by omega) ?_
  exact ry_z hX hR hr (v := (gb σ 212 i6)) rfl hw dX6_isOn_8 hlocks
set_option maxHeartbeats 8000000 in
set_option maxRecDepth 100000 in
theorem C_f7_isPending (l : Launch) (hfl : l.stackTraces = false) (γ : GT) (ad : Nat → Nat → Nat) {fu : Nat} (a1 : Int32) (σ : St) (r : Except Nat Bool) (hw : f7_isPending fu a1 σ = some r) : vx_Met l yX6_isPending (Cond.code yX6_isPending cX6_isPending 2 (Option.some Jvm.ClassFile.FieldType.boolean) :: GW) (rmo 16 1 6) (va_Pc [.ref (gS γ 7 0), .int a1] (RU γ ad σ)) (QXZ γ ad σ r) (QXX γ ad σ r) 1 6 (gA γ) := by
  refine vx_ofW (cc := cX6_isPending) (maxL := 2) (ret := (Option.some Jvm.ClassFile.FieldType.boolean)) (by decide) rfl ?_
  intro p e s m args below meth c s₁ B hml hxt hv
  obtain ⟨rfl, hU⟩ := hv
  obtain ⟨hX, hR⟩ := cx_of (own := RX6) B hml rfl hU
  have hr := B.returns
  have hlocks := B.notSynchronized
  have hc0 : (0 : Nat) ≤ 0 := Nat.le_refl 0
  show W p l e (rmo 16 1 6) s m ([.ref (gS γ 7 0), .int a1] : List Value).toArray below meth c s.heap [] 0 0 (vx_MQ below (QXZ γ ad σ r) (QXX γ ad σ r) ([.ref (gS γ 7 0), .int a1] : List Value).toArray s 1 6 (gA γ)) (entryFrame m ([.ref (gS γ 7 0), .int a1] : List Value).toArray 2)
  unfold f7_isPending at hw
  refine rw_entry (ca1 rfl (ca1 rfl ca0)) (Nat.le_of_ble_eq_true rfl) (fun ls hl1 => ?_)
  replace hl := hl1
  clear hl1
  refine rw_aload_n hX hl 0 rfl (Or.inr ⟨_, rfl⟩) dX6_isPending_0 rfl ?_
  refine rw_iload_n hX hl 1 rfl dX6_isPending_1 rfl ?_
  obtain ⟨v1, g3, h4, h5⟩ := xb1_some hw
  refine rw_xVq hX hR pk_f7_known (mc := 1) (ms := 6) ⟨rfl, rfl, (show 15 + 1 ≤ 16 by omega), (show 8 + (2 + 11) + 64 * 15 ≤ 64 * 16 by omega)⟩ (As := [.int a1]) (rest := []) rfl (C_f7_known l hfl γ ad a1 σ v1 g3) gw_205 gw_207 gs_4 (rs_recv hX hR 7 0 (C := RX6) (T := TX6) (N := 11) rfl (by decide) (Nat.le_of_ble_eq_true rfl) rfl) rfl hl.1 ca0 (Nat.le_of_ble_eq_true rfl) dX6_isPending_2 ⟨(show 0 + 1 ≤ 1 by omega), (show 0 + 6 ≤ 6 by omega)⟩ (fun x ce q9 H locs hx hR1 h1 h2 h3 => ?_) (fun v1 H locs hx hR1 => ?_)
  · replace hR := hR1
    clear hR1
    replace hw := h4 x hx
    cases hw
    exact rx_out hX hR hxt rfl h1 h2 h3 hlocks (by omega) (by omega)
  replace hR := hR1
  clear hR1
  replace hw := h5 v1 hx
  obtain ⟨i6, e7, h8, hw1⟩ := dr_some hw
  replace hw := hw1
  clear hw1
  subst e7
  refine rw_getN hX hR 2 15 i6 (C := RX1) (T := TX1) (N := 18) rfl (by decide) h8 rfl (v := .int (b2i (gb σ 215 i6))) rfl uw_X1 nw_367 rfl dX6_isPending_5 ?_
  refine W.widen (k := 1) (n := 6) (by omega) (by omega) ?_
  exact ry_z hX hR hr (v := (gb σ 215 i6)) rfl hw dX6_isPending_8 hlocks
set_option maxHeartbeats 8000000 in
set_option maxRecDepth 100000 in
theorem C_f7_handles (l : Launch) (hfl : l.stackTraces = false) (γ : GT) (ad : Nat → Nat → Nat) {fu : Nat} (a1 : Int32) (σ : St) (r : Except Nat Int32) (hw : f7_handles fu a1 σ = some r) : vx_Met l yX6_handles (Cond.code yX6_handles cX6_handles 6 (Option.some Jvm.ClassFile.FieldType.int) :: GW) (rmo 16 1 6) (va_Pc [.ref (gS γ 7 0), .int a1] (RU γ ad σ)) (QXI γ ad σ r) (QXX γ ad σ r) 1 6 (gA γ) := by
  refine vx_ofW (cc := cX6_handles) (maxL := 6) (ret := (Option.some Jvm.ClassFile.FieldType.int)) (by decide) rfl ?_
  intro p e s m args below meth c s₁ B hml hxt hv
  obtain ⟨rfl, hU⟩ := hv
  obtain ⟨hX, hR⟩ := cx_of (own := RX6) B hml rfl hU
  have hr := B.returns
  have hlocks := B.notSynchronized
  have hc0 : (0 : Nat) ≤ 0 := Nat.le_refl 0
  show W p l e (rmo 16 1 6) s m ([.ref (gS γ 7 0), .int a1] : List Value).toArray below meth c s.heap [] 0 0 (vx_MQ below (QXI γ ad σ r) (QXX γ ad σ r) ([.ref (gS γ 7 0), .int a1] : List Value).toArray s 1 6 (gA γ)) (entryFrame m ([.ref (gS γ 7 0), .int a1] : List Value).toArray 6)
  unfold f7_handles at hw
  have L11 : ∀ (x2 : (Option Nat)) (n : Nat) (s9 : (Int32 × Int32)) (cells slots : Nat), cells ≤ 1 → slots ≤ 6 → ∀ (H : Heap) (locs : List Loc) (ls : Array Slot), lp (fun s8 => f7_handles_b11 fu x2 s8.1 s8.2 σ) n s9 = some r → RS γ ad σ s H locs → lh ls 6 [(0, .ref (gS γ 7 0)), (2, va_rf (Option.map (Ad γ ad 2) x2)), (3, .int s9.1), (4, .int s9.2)] → W p l e (rmo 16 1 6) s m ([.ref (gS γ 7 0), .int a1] : List Value).toArray below meth c H locs cells slots (vx_MQ below (QXI γ ad σ r) (QXX γ ad σ r) ([.ref (gS γ 7 0), .int a1] : List Value).toArray s 1 6 (gA γ)) (F0 m 11 ls []) := by
    intro x2 n11
    induction n11 with
    | zero => intro s9 cells slots hc1 hc2 H locs ls hw hR hl; exact (lp_zero hw).elim
    | succ n11 ih11 =>
      intro s9 cells slots hc1 hc2 H locs ls hw hR hl
      obtain ⟨o11, hw1, hb11, ho11⟩ := lp_succ hw
      replace hw := hw1
      clear hw1
      obtain ⟨x3, x4⟩ := s9
      replace hw : f7_handles_b11 fu x2 x3 x4 σ = some o11 := hw
      replace hl : lh ls 6 [(0, .ref (gS γ 7 0)), (2, va_rf (Option.map (Ad γ ad 2) x2)), (3, .int x3), (4, .int x4)] := hl
      unfold f7_handles_b11 at hw
      have J57 : ∀ (x3 : Int32) (x4 : Int32) (cells slots : Nat), cells ≤ 1 → slots ≤ 6 → ∀ (H : Heap) (locs : List Loc) (ls : Array Slot), f7_handles_j57 fu x2 x3 x4 σ = some o11 → RS γ ad σ s H locs → lh ls 6 [(0, .ref (gS γ 7 0)), (2, va_rf (Option.map (Ad γ ad 2) x2)), (3, .int x3), (4, .int x4)] → W p l e (rmo 16 1 6) s m ([.ref (gS γ 7 0), .int a1] : List Value).toArray below meth c H locs cells slots (vx_MQ below (QXI γ ad σ r) (QXX γ ad σ r) ([.ref (gS γ 7 0), .int a1] : List Value).toArray s 1 6 (gA γ)) (F0 m 57 ls []) := by
        intro x3 x4 cells slots hc1 hc2 H locs ls hw hR hl
        unfold f7_handles_j57 at hw
        refine rw_iinc (k := 3) (v := (x4 + 1)) (lv' := [(4, .int (x4 + 1)), (0, .ref (gS γ 7 0)), (2, va_rf (Option.map (Ad γ ad 2) x2)), (3, .int x3)]) hX hl rfl (congrArg (fun q => x4 + q) (show Int32.ofInt 1 = 1 by decide)) (by decide) rfl dX6_handles_57 (fun ls hl1 => ?_)
        replace hl := hl1
        clear hl1
        refine lv_goto (tgt := 11) hX.1.1 hX.1.2.1 dX6_handles_60 (by decide) ?_
        exact ih11 _ _ _ (by omega) (by omega) _ _ _ (lp_back hw hb11) hR (lh_sub hl [1, 2, 3, 0] rfl)
      refine rw_iload hX hl 3 rfl dX6_handles_11 ?_
      refine rw_aload_n hX hl 0 rfl (Or.inr ⟨_, rfl⟩) dX6_handles_13 rfl ?_
      refine rw_get hX hR 7 3 0 (C := RX6) (T := TX6) (N := 11) rfl (by decide) (Nat.le_of_ble_eq_true rfl) rfl (v := .ref (gS γ 0 3)) rfl uw_X6 gw_152 rfl dX6_handles_14 ?_
      refine rw_cVi hX hR pk_lsize (mc := 0) (ms := 0) ⟨rfl, rfl, Nat.le_of_ble_eq_true rfl, Nat.le_of_ble_eq_true rfl⟩ (As := []) (rest := [.int x4]) rfl (C_lsize l γ ad σ 3 (by decide)) gw_209 gw_210 gw_211 (rs_recvL hX hR 3 (by decide)) rfl hl.1 (ca1 rfl ca0) (Nat.le_of_ble_eq_true rfl) dX6_handles_17 ⟨(show cells + 0 ≤ 1 by omega), (show slots + 0 ≤ 6 by omega)⟩ (fun H locs hR1 => ?_)
      replace hR := hR1
      clear hR1
      refine lv_icmp_ge (x := x4) (y := (nI (gl σ 3).length)) (tgt := 63) hX.1.1 hX.1.2.1 dX6_handles_20 (by decide) (fun c6 => ?_) (fun c6 => ?_)
      · replace hw := if_t hw c6
        replace hw := lp_out hw ho11
        refine rw_iload_n hX hl 2 rfl dX6_handles_63 rfl ?_
        refine W.widen (k := 1) (n := 6) (by omega) (by omega) ?_
        exact ry_i hX hR hr hw dX6_handles_64 hlocks
      · replace hw := if_f hw c6
        refine rw_aload_n hX hl 0 rfl (Or.inr ⟨_, rfl⟩) dX6_handles_23 rfl ?_
        refine rw_get hX hR 7 3 0 (C := RX6) (T := TX6) (N := 11) rfl (by decide) (Nat.le_of_ble_eq_true rfl) rfl (v := .ref (gS γ 0 3)) rfl uw_X6 gw_152 rfl dX6_handles_24 ?_
        refine rw_iload hX hl 3 rfl dX6_handles_27 ?_
        obtain ⟨h8, k7, h9, h10, hw1⟩ := lg_some hw
        replace hw := hw1
        clear hw1
        refine rw_cVq (r := some k7) (k := 5) hX hR pk_lget (mc := 0) (ms := 0) ⟨rfl, rfl, Nat.le_of_ble_eq_true rfl, Nat.le_of_ble_eq_true rfl⟩ (As := [.int x4]) (rest := []) rfl (C_lget l γ ad σ 3 x4 k7 (by decide) h8 h9) gw_281 gw_282 gw_283 (rs_recvL hX hR 3 (by decide)) rfl hl.1 ca0 (Nat.le_of_ble_eq_true rfl) dX6_handles_29 ⟨(show (cells + 0) + 0 ≤ 1 by omega), (show (slots + 0) + 0 ≤ 6 by omega)⟩ (fun H locs hR1 => ?_)
        replace hR := hR1
        clear hR1
        refine va_castS (a := Ad γ ad 5 k7) (nm := RX4) hX.1.1 hX.1.2.1 hX.1.2.2.2.1 (hX.1.2.2.2.2 _ gw_522) (hX.2.1.1 5 (RX4, TX4, 3) rfl).2 (rs_recv hX hR 5 k7 (C := RX4) (T := TX4) (N := 3) rfl (by decide) h10 rfl) dX6_handles_32 ?_
        refine rw_astore (lv' := [(5, .ref (Ad γ ad 5 k7)), (0, .ref (gS γ 7 0)), (2, va_rf (Option.map (Ad γ ad 2) x2)), (3, .int x3), (4, .int x4)]) hX hl (by decide) rfl (Or.inr ⟨_, rfl⟩) dX6_handles_35 (fun ls hl1 => ?_)
        replace hl := hl1
        clear hl1
        refine rw_aload hX hl 0 rfl (Or.inr ⟨_, rfl⟩) dX6_handles_37 ?_
        refine rw_getN hX hR 5 1 k7 (C := RX4) (T := TX4) (N := 3) rfl (by decide) h10 rfl (v := .int (b2i (gb σ 501 k7))) rfl uw_X4 nw_612 rfl dX6_handles_39 ?_
        refine rw_ifeqZ (b := (gb σ 501 k7)) (tgt := 57) hX dX6_handles_42 (by decide) (fun c11 => ?_) (fun c11 => ?_)
        · replace hw := if_f hw c11
          exact J57 x3 x4 _ _ (by omega) (by omega) _ _ _ hw hR (lh_sub hl [1, 2, 3, 4] rfl)
        · replace hw := if_t hw c11
          refine rw_aload hX hl 0 rfl (Or.inr ⟨_, rfl⟩) dX6_handles_45 ?_
          obtain ⟨p12, q13⟩ : ∃ o, gp σ 500 k7 = o := ⟨_, rfl⟩
          replace hw := lt_eq hw q13
          refine rw_getN hX hR 5 0 k7 (C := RX4) (T := TX4) (N := 3) rfl (by decide) h10 rfl (v := va_rf (Option.map (Ad γ ad 2) p12)) (by rw [← q13]; rfl) uw_X4 nw_610 rfl dX6_handles_47 ?_
          refine rw_aload_n hX hl 2 rfl (va_rf_or _) dX6_handles_50 rfl ?_
          obtain ⟨h14, hw1⟩ := ck_some hw
          replace hw := hw1
          clear hw1
          obtain ⟨h15, hw1⟩ := ck_some hw
          replace hw := hw1
          clear hw1
          refine rw_acmpne hX hR 2 (by decide) (o1 := p12) (o2 := x2) h14 h15 (tgt := 57) dX6_handles_51 (by decide) (fun c16 => ?_) (fun c16 => ?_)
          · replace hw := if_f hw c16
            exact J57 x3 x4 _ _ (by omega) (by omega) _ _ _ hw hR (lh_sub hl [1, 2, 3, 4] rfl)
          · replace hw := if_t hw c16
            refine rw_iinc (k := 3) (v := (x3 + 1)) (lv' := [(3, .int (x3 + 1)), (5, .ref (Ad γ ad 5 k7)), (0, .ref (gS γ 7 0)), (2, va_rf (Option.map (Ad γ ad 2) x2)), (4, .int x4)]) hX hl rfl (congrArg (fun q => x3 + q) (show Int32.ofInt 1 = 1 by decide)) (by decide) rfl dX6_handles_54 (fun ls hl1 => ?_)
            replace hl := hl1
            clear hl1
            exact J57 (x3 + 1) x4 _ _ (by omega) (by omega) _ _ _ hw hR (lh_sub hl [2, 3, 0, 4] rfl)
  refine rw_entry (ca1 rfl (ca1 rfl ca0)) (Nat.le_of_ble_eq_true rfl) (fun ls hl1 => ?_)
  replace hl := hl1
  clear hl1
  refine rw_aload_n hX hl 0 rfl (Or.inr ⟨_, rfl⟩) dX6_handles_0 rfl ?_
  refine rw_iload_n hX hl 1 rfl dX6_handles_1 rfl ?_
  obtain ⟨v1, g3, h4, h5⟩ := xb1_some hw
  refine rw_xVq hX hR pk_f7_known (mc := 1) (ms := 6) ⟨rfl, rfl, (show 15 + 1 ≤ 16 by omega), (show 8 + (2 + 11) + 64 * 15 ≤ 64 * 16 by omega)⟩ (As := [.int a1]) (rest := []) rfl (C_f7_known l hfl γ ad a1 σ v1 g3) gw_205 gw_207 gs_4 (rs_recv hX hR 7 0 (C := RX6) (T := TX6) (N := 11) rfl (by decide) (Nat.le_of_ble_eq_true rfl) rfl) rfl hl.1 ca0 (Nat.le_of_ble_eq_true rfl) dX6_handles_2 ⟨(show 0 + 1 ≤ 1 by omega), (show 0 + 6 ≤ 6 by omega)⟩ (fun x ce q9 H locs hx hR1 h1 h2 h3 => ?_) (fun v1 H locs hx hR1 => ?_)
  · replace hR := hR1
    clear hR1
    replace hw := h4 x hx
    cases hw
    exact rx_out hX hR hxt rfl h1 h2 h3 hlocks (by omega) (by omega)
  replace hR := hR1
  clear hR1
  replace hw := h5 v1 hx
  refine rw_astore_n (lv' := [(2, va_rf (Option.map (Ad γ ad 2) v1)), (0, .ref (gS γ 7 0)), (1, .int a1)]) hX hl (by decide) rfl (va_rf_or _) dX6_handles_5 rfl (fun ls hl1 => ?_)
  replace hl := hl1
  clear hl1
  refine lv_iconst (v := 0) hX.1.1 hX.1.2.1 dX6_handles_6 (by decide) ?_
  refine rw_istore_n (lv' := [(3, .int 0), (2, va_rf (Option.map (Ad γ ad 2) v1)), (0, .ref (gS γ 7 0)), (1, .int a1)]) hX hl (by decide) rfl dX6_handles_7 rfl (fun ls hl1 => ?_)
  replace hl := hl1
  clear hl1
  refine lv_iconst (v := 0) hX.1.1 hX.1.2.1 dX6_handles_8 (by decide) ?_
  refine rw_istore (lv' := [(4, .int 0), (3, .int 0), (2, va_rf (Option.map (Ad γ ad 2) v1)), (0, .ref (gS γ 7 0)), (1, .int a1)]) hX hl (by decide) rfl dX6_handles_9 (fun ls hl1 => ?_)
  replace hl := hl1
  clear hl1
  exact L11 v1 _ _ _ _ (by omega) (by omega) _ _ _ hw hR (lh_sub hl [3, 2, 1, 0] rfl)
set_option maxHeartbeats 8000000 in
set_option maxRecDepth 100000 in
theorem C_f7_callState (l : Launch) (hfl : l.stackTraces = false) (γ : GT) (ad : Nat → Nat → Nat) {fu : Nat} (a1 : Int32) (σ : St) (r : Except Nat Int32) (hw : f7_callState fu a1 σ = some r) : vx_Met l yX6_callState (Cond.code yX6_callState cX6_callState 2 (Option.some Jvm.ClassFile.FieldType.int) :: GW) (rmo 15 1 6) (va_Pc [.ref (gS γ 7 0), .int a1] (RU γ ad σ)) (QXI γ ad σ r) (QXX γ ad σ r) 1 6 (gA γ) := by
  refine vx_ofW (cc := cX6_callState) (maxL := 2) (ret := (Option.some Jvm.ClassFile.FieldType.int)) (by decide) rfl ?_
  intro p e s m args below meth c s₁ B hml hxt hv
  obtain ⟨rfl, hU⟩ := hv
  obtain ⟨hX, hR⟩ := cx_of (own := RX6) B hml rfl hU
  have hr := B.returns
  have hlocks := B.notSynchronized
  have hc0 : (0 : Nat) ≤ 0 := Nat.le_refl 0
  show W p l e (rmo 15 1 6) s m ([.ref (gS γ 7 0), .int a1] : List Value).toArray below meth c s.heap [] 0 0 (vx_MQ below (QXI γ ad σ r) (QXX γ ad σ r) ([.ref (gS γ 7 0), .int a1] : List Value).toArray s 1 6 (gA γ)) (entryFrame m ([.ref (gS γ 7 0), .int a1] : List Value).toArray 2)
  unfold f7_callState at hw
  refine rw_entry (ca1 rfl (ca1 rfl ca0)) (Nat.le_of_ble_eq_true rfl) (fun ls hl1 => ?_)
  replace hl := hl1
  clear hl1
  refine rw_iload_n hX hl 1 rfl dX6_callState_0 rfl ?_
  refine lv_if_lt (x := a1) (tgt := 15) hX.1.1 hX.1.2.1 dX6_callState_1 (by decide) (fun c1 => ?_) (fun c1 => ?_)
  · replace hw := if_t hw c1
    exact rw_throwW (lv := [(0, .ref (gS γ 7 0)), (1, .int a1)]) (text := "there is no such call") hX hR hfl 1 136 316 140 (Option.some.inj hw).symm XN_fit1 XNS_fit gw_213 gw_15 (by decide +kernel) xa_1 xg_1 hl.1 hxt dX6_callState_15 dX6_callState_18 dX6_callState_19 dX6_callState_22 dX6_callState_25 (Nat.le_of_ble_eq_true rfl) (Nat.le_of_ble_eq_true rfl) ⟨(show 0 + 1 ≤ 1 by omega), (show 0 + 6 ≤ 6 by omega)⟩ hlocks ⟨by omega, by omega⟩
  · replace hw := if_f hw c1
    refine rw_iload_n hX hl 1 rfl dX6_callState_4 rfl ?_
    refine rw_aload_n hX hl 0 rfl (Or.inr ⟨_, rfl⟩) dX6_callState_5 rfl ?_
    refine rw_get hX hR 7 4 0 (C := RX6) (T := TX6) (N := 11) rfl (by decide) (Nat.le_of_ble_eq_true rfl) rfl (v := .ref (gS γ 0 4)) rfl uw_X6 gw_153 rfl dX6_callState_6 ?_
    refine rw_cVi hX hR pk_lsize (mc := 0) (ms := 0) ⟨rfl, rfl, Nat.le_of_ble_eq_true rfl, Nat.le_of_ble_eq_true rfl⟩ (As := []) (rest := [.int a1]) rfl (C_lsize l γ ad σ 4 (by decide)) gw_209 gw_210 gw_211 (rs_recvL hX hR 4 (by decide)) rfl hl.1 (ca1 rfl ca0) (Nat.le_of_ble_eq_true rfl) dX6_callState_9 ⟨(show 0 + 0 ≤ 1 by omega), (show 0 + 0 ≤ 6 by omega)⟩ (fun H locs hR1 => ?_)
    replace hR := hR1
    clear hR1
    refine lv_icmp_lt (x := a1) (y := (nI (gl σ 4).length)) (tgt := 26) hX.1.1 hX.1.2.1 dX6_callState_12 (by decide) (fun c2 => ?_) (fun c2 => ?_)
    · replace hw := if_t hw c2
      refine rw_aload_n hX hl 0 rfl (Or.inr ⟨_, rfl⟩) dX6_callState_26 rfl ?_
      refine rw_get hX hR 7 4 0 (C := RX6) (T := TX6) (N := 11) rfl (by decide) (Nat.le_of_ble_eq_true rfl) rfl (v := .ref (gS γ 0 4)) rfl uw_X6 gw_153 rfl dX6_callState_27 ?_
      refine rw_iload_n hX hl 1 rfl dX6_callState_30 rfl ?_
      obtain ⟨h4, k3, h5, h6, hw1⟩ := lg_some hw
      replace hw := hw1
      clear hw1
      refine rw_cVq (r := some k3) (k := 1) hX hR pk_lget (mc := 0) (ms := 0) ⟨rfl, rfl, Nat.le_of_ble_eq_true rfl, Nat.le_of_ble_eq_true rfl⟩ (As := [.int a1]) (rest := []) rfl (C_lget l γ ad σ 4 a1 k3 (by decide) h4 h5) gw_281 gw_282 gw_283 (rs_recvL hX hR 4 (by decide)) rfl hl.1 ca0 (Nat.le_of_ble_eq_true rfl) dX6_callState_31 ⟨(show (0 + 0) + 0 ≤ 1 by omega), (show (0 + 0) + 0 ≤ 6 by omega)⟩ (fun H locs hR1 => ?_)
      replace hR := hR1
      clear hR1
      refine va_castS (a := Ad γ ad 1 k3) (nm := RX0) hX.1.1 hX.1.2.1 hX.1.2.2.2.1 (hX.1.2.2.2.2 _ gw_512) (hX.2.1.1 1 (RX0, TX0, 3) rfl).2 (rs_recv hX hR 1 k3 (C := RX0) (T := TX0) (N := 3) rfl (by decide) h6 rfl) dX6_callState_34 ?_
      refine rw_getN hX hR 1 2 k3 (C := RX0) (T := TX0) (N := 3) rfl (by decide) h6 rfl (v := .int (gi σ 102 k3)) rfl uw_X0 nw_665 rfl dX6_callState_37 ?_
      refine W.widen (k := 1) (n := 6) (by omega) (by omega) ?_
      exact ry_i hX hR hr hw dX6_callState_40 hlocks
    · replace hw := if_f hw c2
      exact rw_throwW (lv := [(0, .ref (gS γ 7 0)), (1, .int a1)]) (text := "there is no such call") hX hR hfl 1 136 316 140 (Option.some.inj hw).symm XN_fit1 XNS_fit gw_213 gw_15 (by decide +kernel) xa_1 xg_1 hl.1 hxt dX6_callState_15 dX6_callState_18 dX6_callState_19 dX6_callState_22 dX6_callState_25 (Nat.le_of_ble_eq_true rfl) (Nat.le_of_ble_eq_true rfl) ⟨(show (0 + 0) + 1 ≤ 1 by omega), (show (0 + 0) + 6 ≤ 6 by omega)⟩ hlocks ⟨by omega, by omega⟩
set_option maxHeartbeats 8000000 in
set_option maxRecDepth 100000 in
theorem C_f7_faults (l : Launch) (γ : GT) (ad : Nat → Nat → Nat) {fu : Nat} (σ : St) (r : Int32) (hw : f7_faults fu σ = some r) : Met l yX6_faults (Cond.code yX6_faults cX6_faults 1 (Option.some Jvm.ClassFile.FieldType.int) :: GW) (rmo 1 0 0) (va_Pc [.ref (gS γ 7 0)] (RU γ ad σ)) (QI γ ad σ r) 0 0 (gA γ) := by
  refine Met.ofW (cc := cX6_faults) (maxL := 1) (ret := (Option.some Jvm.ClassFile.FieldType.int)) (by decide +kernel) rfl ?_
  intro p e s m args below meth c s₁ B hml hv
  obtain ⟨rfl, hU⟩ := hv
  obtain ⟨hX, hR⟩ := cx_of (own := RX6) B hml rfl hU
  have hr := B.returns
  have hlocks := B.notSynchronized
  have hc0 : (0 : Nat) ≤ 0 := Nat.le_refl 0
  show W p l e (rmo 1 0 0) s m ([.ref (gS γ 7 0)] : List Value).toArray below meth c s.heap [] 0 0 (MQ below (QI γ ad σ r) ([.ref (gS γ 7 0)] : List Value).toArray s 0 0 (gA γ)) (entryFrame m ([.ref (gS γ 7 0)] : List Value).toArray 1)
  unfold f7_faults at hw
  refine rw_entry (ca1 rfl ca0) (Nat.le_of_ble_eq_true rfl) (fun ls hl1 => ?_)
  replace hl := hl1
  clear hl1
  refine rw_aload_n hX hl 0 rfl (Or.inr ⟨_, rfl⟩) dX6_faults_0 rfl ?_
  refine rw_get hX hR 7 10 0 (C := RX6) (T := TX6) (N := 11) rfl (by decide) (Nat.le_of_ble_eq_true rfl) rfl (v := .int (gi σ 710 0)) rfl uw_X6 gw_159 rfl dX6_faults_1 ?_
  exact rq_i hX hR hr hw dX6_faults_4 hlocks
set_option maxHeartbeats 8000000 in
set_option maxRecDepth 100000 in
theorem C_f7_countPlaces (l : Launch) (γ : GT) (ad : Nat → Nat → Nat) {fu : Nat} (σ : St) (r : Int32) (hw : f7_countPlaces fu σ = some r) : Met l yX6_countPlaces (Cond.code yX6_countPlaces cX6_countPlaces 4 (Option.some Jvm.ClassFile.FieldType.int) :: GW) (rmo 15 0 0) (va_Pc [.ref (gS γ 7 0)] (RU γ ad σ)) (QI γ ad σ r) 0 0 (gA γ) := by
  refine Met.ofW (cc := cX6_countPlaces) (maxL := 4) (ret := (Option.some Jvm.ClassFile.FieldType.int)) (by decide +kernel) rfl ?_
  intro p e s m args below meth c s₁ B hml hv
  obtain ⟨rfl, hU⟩ := hv
  obtain ⟨hX, hR⟩ := cx_of (own := RX6) B hml rfl hU
  have hr := B.returns
  have hlocks := B.notSynchronized
  have hc0 : (0 : Nat) ≤ 0 := Nat.le_refl 0
  show W p l e (rmo 15 0 0) s m ([.ref (gS γ 7 0)] : List Value).toArray below meth c s.heap [] 0 0 (MQ below (QI γ ad σ r) ([.ref (gS γ 7 0)] : List Value).toArray s 0 0 (gA γ)) (entryFrame m ([.ref (gS γ 7 0)] : List Value).toArray 4)
  unfold f7_countPlaces at hw
  have L4 : ∀ (n : Nat) (s9 : (Int32 × Int32)) (cells slots : Nat), cells ≤ 0 → slots ≤ 0 → ∀ (H : Heap) (locs : List Loc) (ls : Array Slot), lp (fun s8 => f7_countPlaces_b4 fu s8.1 s8.2 σ) n s9 = some r → RS γ ad σ s H locs → lh ls 4 [(0, .ref (gS γ 7 0)), (1, .int s9.1), (2, .int s9.2)] → W p l e (rmo 15 0 0) s m ([.ref (gS γ 7 0)] : List Value).toArray below meth c H locs cells slots (MQ below (QI γ ad σ r) ([.ref (gS γ 7 0)] : List Value).toArray s 0 0 (gA γ)) (F0 m 4 ls []) := by
    intro n4
    induction n4 with
    | zero => intro s9 cells slots hc1 hc2 H locs ls hw hR hl; exact (lp_zero hw).elim
    | succ n4 ih4 =>
      intro s9 cells slots hc1 hc2 H locs ls hw hR hl
      obtain ⟨o4, hw1, hb4, ho4⟩ := lp_succ hw
      replace hw := hw1
      clear hw1
      obtain ⟨x1, x2⟩ := s9
      replace hw : f7_countPlaces_b4 fu x1 x2 σ = some o4 := hw
      replace hl : lh ls 4 [(0, .ref (gS γ 7 0)), (1, .int x1), (2, .int x2)] := hl
      unfold f7_countPlaces_b4 at hw
      have J41 : ∀ (x1 : Int32) (x2 : Int32) (cells slots : Nat), cells ≤ 0 → slots ≤ 0 → ∀ (H : Heap) (locs : List Loc) (ls : Array Slot), f7_countPlaces_j41 fu x1 x2 σ = some o4 → RS γ ad σ s H locs → lh ls 4 [(0, .ref (gS γ 7 0)), (1, .int x1), (2, .int x2)] → W p l e (rmo 15 0 0) s m ([.ref (gS γ 7 0)] : List Value).toArray below meth c H locs cells slots (MQ below (QI γ ad σ r) ([.ref (gS γ 7 0)] : List Value).toArray s 0 0 (gA γ)) (F0 m 41 ls []) := by
        intro x1 x2 cells slots hc1 hc2 H locs ls hw hR hl
        unfold f7_countPlaces_j41 at hw
        refine rw_iinc (k := 2) (v := (x2 + 1)) (lv' := [(2, .int (x2 + 1)), (0, .ref (gS γ 7 0)), (1, .int x1)]) hX hl rfl (congrArg (fun q => x2 + q) (show Int32.ofInt 1 = 1 by decide)) (by decide) rfl dX6_countPlaces_41 (fun ls hl1 => ?_)
        replace hl := hl1
        clear hl1
        refine lv_goto (tgt := 4) hX.1.1 hX.1.2.1 dX6_countPlaces_44 (by decide) ?_
        exact ih4 _ _ _ (by omega) (by omega) _ _ _ (lp_back hw hb4) hR (lh_sub hl [1, 2, 0] rfl)
      refine rw_iload_n hX hl 2 rfl dX6_countPlaces_4 rfl ?_
      refine rw_aload_n hX hl 0 rfl (Or.inr ⟨_, rfl⟩) dX6_countPlaces_5 rfl ?_
      refine rw_get hX hR 7 1 0 (C := RX6) (T := TX6) (N := 11) rfl (by decide) (Nat.le_of_ble_eq_true rfl) rfl (v := .ref (gS γ 0 1)) rfl uw_X6 gw_150 rfl dX6_countPlaces_6 ?_
      refine rw_cVi hX hR pk_lsize (mc := 0) (ms := 0) ⟨rfl, rfl, Nat.le_of_ble_eq_true rfl, Nat.le_of_ble_eq_true rfl⟩ (As := []) (rest := [.int x2]) rfl (C_lsize l γ ad σ 1 (by decide)) gw_209 gw_210 gw_211 (rs_recvL hX hR 1 (by decide)) rfl hl.1 (ca1 rfl ca0) (Nat.le_of_ble_eq_true rfl) dX6_countPlaces_9 ⟨(show cells + 0 ≤ 0 by omega), (show slots + 0 ≤ 0 by omega)⟩ (fun H locs hR1 => ?_)
      replace hR := hR1
      clear hR1
      refine lv_icmp_ge (x := x2) (y := (nI (gl σ 1).length)) (tgt := 47) hX.1.1 hX.1.2.1 dX6_countPlaces_12 (by decide) (fun c1 => ?_) (fun c1 => ?_)
      · replace hw := if_t hw c1
        replace hw := lp_out hw ho4
        refine rw_iload_n hX hl 1 rfl dX6_countPlaces_47 rfl ?_
        refine W.widen (k := 0) (n := 0) (by omega) (by omega) ?_
        exact rq_i hX hR hr hw dX6_countPlaces_48 hlocks
      · replace hw := if_f hw c1
        refine rw_aload_n hX hl 0 rfl (Or.inr ⟨_, rfl⟩) dX6_countPlaces_15 rfl ?_
        refine rw_get hX hR 7 1 0 (C := RX6) (T := TX6) (N := 11) rfl (by decide) (Nat.le_of_ble_eq_true rfl) rfl (v := .ref (gS γ 0 1)) rfl uw_X6 gw_150 rfl dX6_countPlaces_16 ?_
        refine rw_iload_n hX hl 2 rfl dX6_countPlaces_19 rfl ?_
        obtain ⟨h3, k2, h4, h5, hw1⟩ := lg_some hw
        replace hw := hw1
        clear hw1
        refine rw_cVq (r := some k2) (k := 2) hX hR pk_lget (mc := 0) (ms := 0) ⟨rfl, rfl, Nat.le_of_ble_eq_true rfl, Nat.le_of_ble_eq_true rfl⟩ (As := [.int x2]) (rest := []) rfl (C_lget l γ ad σ 1 x2 k2 (by decide) h3 h4) gw_281 gw_282 gw_283 (rs_recvL hX hR 1 (by decide)) rfl hl.1 ca0 (Nat.le_of_ble_eq_true rfl) dX6_countPlaces_20 ⟨(show (cells + 0) + 0 ≤ 0 by omega), (show (slots + 0) + 0 ≤ 0 by omega)⟩ (fun H locs hR1 => ?_)
        replace hR := hR1
        clear hR1
        refine va_castS (a := Ad γ ad 2 k2) (nm := RX1) hX.1.1 hX.1.2.1 hX.1.2.2.2.1 (hX.1.2.2.2.2 _ gw_295) (hX.2.1.1 2 (RX1, TX1, 18) rfl).2 (rs_recv hX hR 2 k2 (C := RX1) (T := TX1) (N := 18) rfl (by decide) h5 rfl) dX6_countPlaces_23 ?_
        refine rw_astore_n (lv' := [(3, .ref (Ad γ ad 2 k2)), (0, .ref (gS γ 7 0)), (1, .int x1), (2, .int x2)]) hX hl (by decide) rfl (Or.inr ⟨_, rfl⟩) dX6_countPlaces_26 rfl (fun ls hl1 => ?_)
        replace hl := hl1
        clear hl1
        refine rw_aload_n hX hl 0 rfl (Or.inr ⟨_, rfl⟩) dX6_countPlaces_27 rfl ?_
        obtain ⟨v6, g8, hw1⟩ := ob1_some hw
        replace hw := hw1
        clear hw1
        refine rw_cVNq hX hR pk_f2_space (mc := 0) (ms := 0) ⟨rfl, rfl, (show 1 + 1 ≤ 15 by omega), (show 8 + (2 + 11) + 64 * 1 ≤ 64 * 15 by omega)⟩ (As := []) (rest := []) rfl (C_f2_space l γ ad k2 σ v6 g8) nw_441 gw_443 gs_13 (rs_recv hX hR 2 k2 (C := RX1) (T := TX1) (N := 18) rfl (by decide) h5 rfl) rfl hl.1 ca0 (Nat.le_of_ble_eq_true rfl) dX6_countPlaces_28 ⟨(show ((cells + 0) + 0) + 0 ≤ 0 by omega), (show ((slots + 0) + 0) + 0 ≤ 0 by omega)⟩ (fun H locs hR1 => ?_)
        replace hR := hR1
        clear hR1
        refine rw_ifnonnull hX (o := v6) (g := Ad γ ad 2) (tgt := 41) dX6_countPlaces_31 (by decide) (fun c9 => ?_) (fun c9 => ?_)
        · replace hw := if_f hw c9
          exact J41 x1 x2 _ _ (by omega) (by omega) _ _ _ hw hR (lh_sub hl [1, 2, 3] rfl)
        · replace hw := if_t hw c9
          refine rw_iload_n hX hl 2 rfl dX6_countPlaces_34 rfl ?_
          refine rw_aload_n hX hl 0 rfl (Or.inr ⟨_, rfl⟩) dX6_countPlaces_35 rfl ?_
          refine rw_getN hX hR 2 2 k2 (C := RX1) (T := TX1) (N := 18) rfl (by decide) h5 rfl (v := .int (gi σ 202 k2)) rfl uw_X1 nw_346 rfl dX6_countPlaces_36 ?_
          refine lv_iadd (x := x1) (y := (gi σ 202 k2)) hX.1.1 hX.1.2.1 dX6_countPlaces_39 ?_
          refine rw_istore_n (lv' := [(1, .int (x1 + (gi σ 202 k2))), (3, .ref (Ad γ ad 2 k2)), (0, .ref (gS γ 7 0)), (2, .int x2)]) hX hl (by decide) rfl dX6_countPlaces_40 rfl (fun ls hl1 => ?_)
          replace hl := hl1
          clear hl1
          exact J41 (x1 + (gi σ 202 k2)) x2 _ _ (by omega) (by omega) _ _ _ hw hR (lh_sub hl [2, 0, 3] rfl)
  refine rw_entry (ca1 rfl ca0) (Nat.le_of_ble_eq_true rfl) (fun ls hl1 => ?_)
  replace hl := hl1
  clear hl1
  refine lv_iconst (v := 0) hX.1.1 hX.1.2.1 dX6_countPlaces_0 (by decide) ?_
  refine rw_istore_n (lv' := [(1, .int 0), (0, .ref (gS γ 7 0))]) hX hl (by decide) rfl dX6_countPlaces_1 rfl (fun ls hl1 => ?_)
  replace hl := hl1
  clear hl1
  refine lv_iconst (v := 0) hX.1.1 hX.1.2.1 dX6_countPlaces_2 (by decide) ?_
  refine rw_istore_n (lv' := [(2, .int 0), (1, .int 0), (0, .ref (gS γ 7 0))]) hX hl (by decide) rfl dX6_countPlaces_3 rfl (fun ls hl1 => ?_)
  replace hl := hl1
  clear hl1
  exact L4 _ _ _ _ (by omega) (by omega) _ _ _ hw hR (lh_sub hl [2, 1, 0] rfl)
set_option maxHeartbeats 8000000 in
set_option maxRecDepth 100000 in
theorem C_f91_bitCount (l : Launch) (γ : GT) (ad : Nat → Nat → Nat) {fu : Nat} (a0 : Int32) (σ : St) (r : Int32) (hw : f91_bitCount fu a0 σ = some r) : Met l yJ6_bitCount_0f7a4 (Cond.code yJ6_bitCount_0f7a4 cJ6_bitCount_0f7a4 1 (Option.some Jvm.ClassFile.FieldType.int) :: GW) (rmo 1 0 0) (va_Pc [.int a0] (RU γ ad σ)) (QI γ ad σ r) 0 0 (gA γ) := by
  refine va_MetF (cc := cJ6_bitCount_0f7a4) (maxL := 1) (ret := (Option.some Jvm.ClassFile.FieldType.int)) (by decide +kernel) rfl ?_
  intro p e s m args below meth c s₁ B hml hv
  obtain ⟨rfl, hU⟩ := hv
  obtain ⟨hX, hR⟩ := cx_of (own := RJ6) B hml rfl hU
  have hr := B.returns
  have hlocks := B.notSynchronized
  have hc0 : (0 : Nat) ≤ 0 := Nat.le_refl 0
  show W p l e (rmo 1 0 0) s m ([.int a0] : List Value).toArray below meth c s.heap [] 0 0 (MQ below (QI γ ad σ r) ([.int a0] : List Value).toArray s 0 0 (gA γ)) (entryFrame m ([.int a0] : List Value).toArray 1)
  unfold f91_bitCount at hw
  refine rw_entry (ca1 rfl ca0) (Nat.le_of_ble_eq_true rfl) (fun ls hl1 => ?_)
  replace hl := hl1
  clear hl1
  refine rw_iload_n hX hl 0 rfl dJ6_bitCount_0f7a4_0 rfl ?_
  refine rw_iload_n hX hl 0 rfl dJ6_bitCount_0f7a4_1 rfl ?_
  refine lv_iconst (v := 1) hX.1.1 hX.1.2.1 dJ6_bitCount_0f7a4_2 (by decide) ?_
  refine lv_iushr (x := a0) (y := 1) hX.1.1 hX.1.2.1 dJ6_bitCount_0f7a4_3 rfl ?_
  refine lv_ldcw (v := 1431655765) hX.1.1 hX.1.2.1 hX.1.2.2.2.1 (hX.1.2.2.2.2 _ gw_887) dJ6_bitCount_0f7a4_4 ?_
  refine lv_iand (x := ((Int32.toUInt32 a0 >>> (Int32.toUInt32 1 &&& Int32.toUInt32 31)).toInt32)) (y := 1431655765) hX.1.1 hX.1.2.1 dJ6_bitCount_0f7a4_7 ?_
  refine lv_isub (x := a0) (y := (((Int32.toUInt32 a0 >>> (Int32.toUInt32 1 &&& Int32.toUInt32 31)).toInt32) &&& 1431655765)) hX.1.1 hX.1.2.1 dJ6_bitCount_0f7a4_8 ?_
  obtain ⟨w1, e2⟩ : ∃ q, (a0 - (((Int32.toUInt32 a0 >>> (Int32.toUInt32 1 &&& Int32.toUInt32 31)).toInt32) &&& 1431655765)) = q := ⟨_, rfl⟩
  replace hw := lt_eq hw e2
  rw [e2]
  refine rw_istore_n (lv' := [(0, .int w1)]) hX hl (by decide) rfl dJ6_bitCount_0f7a4_9 rfl (fun ls hl1 => ?_)
  replace hl := hl1
  clear hl1
  refine rw_iload_n hX hl 0 rfl dJ6_bitCount_0f7a4_10 rfl ?_
  refine lv_ldcw (v := 858993459) hX.1.1 hX.1.2.1 hX.1.2.2.2.1 (hX.1.2.2.2.2 _ gw_888) dJ6_bitCount_0f7a4_11 ?_
  refine lv_iand (x := w1) (y := 858993459) hX.1.1 hX.1.2.1 dJ6_bitCount_0f7a4_14 ?_
  refine rw_iload_n hX hl 0 rfl dJ6_bitCount_0f7a4_15 rfl ?_
  refine lv_iconst (v := 2) hX.1.1 hX.1.2.1 dJ6_bitCount_0f7a4_16 (by decide) ?_
  refine lv_iushr (x := w1) (y := 2) hX.1.1 hX.1.2.1 dJ6_bitCount_0f7a4_17 rfl ?_
  refine lv_ldcw (v := 858993459) hX.1.1 hX.1.2.1 hX.1.2.2.2.1 (hX.1.2.2.2.2 _ gw_888) dJ6_bitCount_0f7a4_18 ?_
  refine lv_iand (x := ((Int32.toUInt32 w1 >>> (Int32.toUInt32 2 &&& Int32.toUInt32 31)).toInt32)) (y := 858993459) hX.1.1 hX.1.2.1 dJ6_bitCount_0f7a4_21 ?_
  refine lv_iadd (x := (w1 &&& 858993459)) (y := (((Int32.toUInt32 w1 >>> (Int32.toUInt32 2 &&& Int32.toUInt32 31)).toInt32) &&& 858993459)) hX.1.1 hX.1.2.1 dJ6_bitCount_0f7a4_22 ?_
  obtain ⟨w3, e4⟩ : ∃ q, ((w1 &&& 858993459) + (((Int32.toUInt32 w1 >>> (Int32.toUInt32 2 &&& Int32.toUInt32 31)).toInt32) &&& 858993459)) = q := ⟨_, rfl⟩
  replace hw := lt_eq hw e4
  rw [e4]
  refine rw_istore_n (lv' := [(0, .int w3)]) hX hl (by decide) rfl dJ6_bitCount_0f7a4_23 rfl (fun ls hl1 => ?_)
  replace hl := hl1
  clear hl1
  refine rw_iload_n hX hl 0 rfl dJ6_bitCount_0f7a4_24 rfl ?_
  refine rw_iload_n hX hl 0 rfl dJ6_bitCount_0f7a4_25 rfl ?_
  refine lv_iconst (v := 4) hX.1.1 hX.1.2.1 dJ6_bitCount_0f7a4_26 (by decide) ?_
  refine lv_iushr (x := w3) (y := 4) hX.1.1 hX.1.2.1 dJ6_bitCount_0f7a4_27 rfl ?_
  refine lv_iadd (x := w3) (y := ((Int32.toUInt32 w3 >>> (Int32.toUInt32 4 &&& Int32.toUInt32 31)).toInt32)) hX.1.1 hX.1.2.1 dJ6_bitCount_0f7a4_28 ?_
  refine lv_ldcw (v := 252645135) hX.1.1 hX.1.2.1 hX.1.2.2.2.1 (hX.1.2.2.2.2 _ gw_889) dJ6_bitCount_0f7a4_29 ?_
  refine lv_iand (x := (w3 + ((Int32.toUInt32 w3 >>> (Int32.toUInt32 4 &&& Int32.toUInt32 31)).toInt32))) (y := 252645135) hX.1.1 hX.1.2.1 dJ6_bitCount_0f7a4_32 ?_
  obtain ⟨w5, e6⟩ : ∃ q, ((w3 + ((Int32.toUInt32 w3 >>> (Int32.toUInt32 4 &&& Int32.toUInt32 31)).toInt32)) &&& 252645135) = q := ⟨_, rfl⟩
  replace hw := lt_eq hw e6
  rw [e6]
  refine rw_istore_n (lv' := [(0, .int w5)]) hX hl (by decide) rfl dJ6_bitCount_0f7a4_33 rfl (fun ls hl1 => ?_)
  replace hl := hl1
  clear hl1
  refine rw_iload_n hX hl 0 rfl dJ6_bitCount_0f7a4_34 rfl ?_
  refine rw_iload_n hX hl 0 rfl dJ6_bitCount_0f7a4_35 rfl ?_
  refine lv_bipush (v := 8) hX.1.1 hX.1.2.1 dJ6_bitCount_0f7a4_36 (by decide) ?_
  refine lv_iushr (x := w5) (y := 8) hX.1.1 hX.1.2.1 dJ6_bitCount_0f7a4_38 rfl ?_
  refine lv_iadd (x := w5) (y := ((Int32.toUInt32 w5 >>> (Int32.toUInt32 8 &&& Int32.toUInt32 31)).toInt32)) hX.1.1 hX.1.2.1 dJ6_bitCount_0f7a4_39 ?_
  obtain ⟨w7, e8⟩ : ∃ q, (w5 + ((Int32.toUInt32 w5 >>> (Int32.toUInt32 8 &&& Int32.toUInt32 31)).toInt32)) = q := ⟨_, rfl⟩
  replace hw := lt_eq hw e8
  rw [e8]
  refine rw_istore_n (lv' := [(0, .int w7)]) hX hl (by decide) rfl dJ6_bitCount_0f7a4_40 rfl (fun ls hl1 => ?_)
  replace hl := hl1
  clear hl1
  refine rw_iload_n hX hl 0 rfl dJ6_bitCount_0f7a4_41 rfl ?_
  refine rw_iload_n hX hl 0 rfl dJ6_bitCount_0f7a4_42 rfl ?_
  refine lv_bipush (v := 16) hX.1.1 hX.1.2.1 dJ6_bitCount_0f7a4_43 (by decide) ?_
  refine lv_iushr (x := w7) (y := 16) hX.1.1 hX.1.2.1 dJ6_bitCount_0f7a4_45 rfl ?_
  refine lv_iadd (x := w7) (y := ((Int32.toUInt32 w7 >>> (Int32.toUInt32 16 &&& Int32.toUInt32 31)).toInt32)) hX.1.1 hX.1.2.1 dJ6_bitCount_0f7a4_46 ?_
  obtain ⟨w9, e10⟩ : ∃ q, (w7 + ((Int32.toUInt32 w7 >>> (Int32.toUInt32 16 &&& Int32.toUInt32 31)).toInt32)) = q := ⟨_, rfl⟩
  replace hw := lt_eq hw e10
  rw [e10]
  refine rw_istore_n (lv' := [(0, .int w9)]) hX hl (by decide) rfl dJ6_bitCount_0f7a4_47 rfl (fun ls hl1 => ?_)
  replace hl := hl1
  clear hl1
  refine rw_iload_n hX hl 0 rfl dJ6_bitCount_0f7a4_48 rfl ?_
  refine lv_bipush (v := 63) hX.1.1 hX.1.2.1 dJ6_bitCount_0f7a4_49 (by decide) ?_
  refine lv_iand (x := w9) (y := 63) hX.1.1 hX.1.2.1 dJ6_bitCount_0f7a4_51 ?_
  exact rq_i hX hR hr hw dJ6_bitCount_0f7a4_52 hlocks
set_option maxHeartbeats 8000000 in
set_option maxRecDepth 100000 in
theorem C_f7_countLines (l : Launch) (γ : GT) (ad : Nat → Nat → Nat) {fu : Nat} (σ : St) (r : Int32) (hw : f7_countLines fu σ = some r) : Met l yX6_countLines (Cond.code yX6_countLines cX6_countLines 4 (Option.some Jvm.ClassFile.FieldType.int) :: GW) (rmo 15 0 0) (va_Pc [.ref (gS γ 7 0)] (RU γ ad σ)) (QI γ ad σ r) 0 0 (gA γ) := by
  refine Met.ofW (cc := cX6_countLines) (maxL := 4) (ret := (Option.some Jvm.ClassFile.FieldType.int)) (by decide +kernel) rfl ?_
  intro p e s m args below meth c s₁ B hml hv
  obtain ⟨rfl, hU⟩ := hv
  obtain ⟨hX, hR⟩ := cx_of (own := RX6) B hml rfl hU
  have hr := B.returns
  have hlocks := B.notSynchronized
  have hc0 : (0 : Nat) ≤ 0 := Nat.le_refl 0
  show W p l e (rmo 15 0 0) s m ([.ref (gS γ 7 0)] : List Value).toArray below meth c s.heap [] 0 0 (MQ below (QI γ ad σ r) ([.ref (gS γ 7 0)] : List Value).toArray s 0 0 (gA γ)) (entryFrame m ([.ref (gS γ 7 0)] : List Value).toArray 4)
  unfold f7_countLines at hw
  have L4 : ∀ (n : Nat) (s9 : (Int32 × Int32)) (cells slots : Nat), cells ≤ 0 → slots ≤ 0 → ∀ (H : Heap) (locs : List Loc) (ls : Array Slot), lp (fun s8 => f7_countLines_b4 fu s8.1 s8.2 σ) n s9 = some r → RS γ ad σ s H locs → lh ls 4 [(0, .ref (gS γ 7 0)), (1, .int s9.1), (2, .int s9.2)] → W p l e (rmo 15 0 0) s m ([.ref (gS γ 7 0)] : List Value).toArray below meth c H locs cells slots (MQ below (QI γ ad σ r) ([.ref (gS γ 7 0)] : List Value).toArray s 0 0 (gA γ)) (F0 m 4 ls []) := by
    intro n4
    induction n4 with
    | zero => intro s9 cells slots hc1 hc2 H locs ls hw hR hl; exact (lp_zero hw).elim
    | succ n4 ih4 =>
      intro s9 cells slots hc1 hc2 H locs ls hw hR hl
      obtain ⟨o4, hw1, hb4, ho4⟩ := lp_succ hw
      replace hw := hw1
      clear hw1
      obtain ⟨x1, x2⟩ := s9
      replace hw : f7_countLines_b4 fu x1 x2 σ = some o4 := hw
      replace hl : lh ls 4 [(0, .ref (gS γ 7 0)), (1, .int x1), (2, .int x2)] := hl
      unfold f7_countLines_b4 at hw
      have J41 : ∀ (x1 : Int32) (x2 : Int32) (cells slots : Nat), cells ≤ 0 → slots ≤ 0 → ∀ (H : Heap) (locs : List Loc) (ls : Array Slot), f7_countLines_j41 fu x1 x2 σ = some o4 → RS γ ad σ s H locs → lh ls 4 [(0, .ref (gS γ 7 0)), (1, .int x1), (2, .int x2)] → W p l e (rmo 15 0 0) s m ([.ref (gS γ 7 0)] : List Value).toArray below meth c H locs cells slots (MQ below (QI γ ad σ r) ([.ref (gS γ 7 0)] : List Value).toArray s 0 0 (gA γ)) (F0 m 41 ls []) := by
        intro x1 x2 cells slots hc1 hc2 H locs ls hw hR hl
        unfold f7_countLines_j41 at hw
        refine rw_iinc (k := 2) (v := (x2 + 1)) (lv' := [(2, .int (x2 + 1)), (0, .ref (gS γ 7 0)), (1, .int x1)]) hX hl rfl (congrArg (fun q => x2 + q) (show Int32.ofInt 1 = 1 by decide)) (by decide) rfl dX6_countLines_41 (fun ls hl1 => ?_)
        replace hl := hl1
        clear hl1
        refine lv_goto (tgt := 4) hX.1.1 hX.1.2.1 dX6_countLines_44 (by decide) ?_
        exact ih4 _ _ _ (by omega) (by omega) _ _ _ (lp_back hw hb4) hR (lh_sub hl [1, 2, 0] rfl)
      refine rw_iload_n hX hl 2 rfl dX6_countLines_4 rfl ?_
      refine rw_aload_n hX hl 0 rfl (Or.inr ⟨_, rfl⟩) dX6_countLines_5 rfl ?_
      refine rw_get hX hR 7 1 0 (C := RX6) (T := TX6) (N := 11) rfl (by decide) (Nat.le_of_ble_eq_true rfl) rfl (v := .ref (gS γ 0 1)) rfl uw_X6 gw_150 rfl dX6_countLines_6 ?_
      refine rw_cVi hX hR pk_lsize (mc := 0) (ms := 0) ⟨rfl, rfl, Nat.le_of_ble_eq_true rfl, Nat.le_of_ble_eq_true rfl⟩ (As := []) (rest := [.int x2]) rfl (C_lsize l γ ad σ 1 (by decide)) gw_209 gw_210 gw_211 (rs_recvL hX hR 1 (by decide)) rfl hl.1 (ca1 rfl ca0) (Nat.le_of_ble_eq_true rfl) dX6_countLines_9 ⟨(show cells + 0 ≤ 0 by omega), (show slots + 0 ≤ 0 by omega)⟩ (fun H locs hR1 => ?_)
      replace hR := hR1
      clear hR1
      refine lv_icmp_ge (x := x2) (y := (nI (gl σ 1).length)) (tgt := 47) hX.1.1 hX.1.2.1 dX6_countLines_12 (by decide) (fun c1 => ?_) (fun c1 => ?_)
      · replace hw := if_t hw c1
        replace hw := lp_out hw ho4
        refine rw_iload_n hX hl 1 rfl dX6_countLines_47 rfl ?_
        obtain ⟨v2, g4, hw1⟩ := ob1_some hw
        replace hw := hw1
        clear hw1
        refine rw_cSi hX hR pk_f91_bitCount (mc := 0) (ms := 0) ⟨rfl, rfl, (show 1 + 1 ≤ 15 by omega), (show 8 + (1 + 11) + 64 * 1 ≤ 64 * 15 by omega)⟩ (As := [.int x1]) (rest := []) rfl (C_f91_bitCount l γ ad x1 σ v2 g4) gw_884 gw_885 rfl hl.1 ca0 (Nat.le_of_ble_eq_true rfl) dX6_countLines_48 ⟨(show (cells + 0) + 0 ≤ 0 by omega), (show (slots + 0) + 0 ≤ 0 by omega)⟩ (fun H locs hR1 => ?_)
        replace hR := hR1
        clear hR1
        refine W.widen (k := 0) (n := 0) (by omega) (by omega) ?_
        exact rq_i hX hR hr hw dX6_countLines_51 hlocks
      · replace hw := if_f hw c1
        refine rw_aload_n hX hl 0 rfl (Or.inr ⟨_, rfl⟩) dX6_countLines_15 rfl ?_
        refine rw_get hX hR 7 1 0 (C := RX6) (T := TX6) (N := 11) rfl (by decide) (Nat.le_of_ble_eq_true rfl) rfl (v := .ref (gS γ 0 1)) rfl uw_X6 gw_150 rfl dX6_countLines_16 ?_
        refine rw_iload_n hX hl 2 rfl dX6_countLines_19 rfl ?_
        obtain ⟨h6, k5, h7, h8, hw1⟩ := lg_some hw
        replace hw := hw1
        clear hw1
        refine rw_cVq (r := some k5) (k := 2) hX hR pk_lget (mc := 0) (ms := 0) ⟨rfl, rfl, Nat.le_of_ble_eq_true rfl, Nat.le_of_ble_eq_true rfl⟩ (As := [.int x2]) (rest := []) rfl (C_lget l γ ad σ 1 x2 k5 (by decide) h6 h7) gw_281 gw_282 gw_283 (rs_recvL hX hR 1 (by decide)) rfl hl.1 ca0 (Nat.le_of_ble_eq_true rfl) dX6_countLines_20 ⟨(show (cells + 0) + 0 ≤ 0 by omega), (show (slots + 0) + 0 ≤ 0 by omega)⟩ (fun H locs hR1 => ?_)
        replace hR := hR1
        clear hR1
        refine va_castS (a := Ad γ ad 2 k5) (nm := RX1) hX.1.1 hX.1.2.1 hX.1.2.2.2.1 (hX.1.2.2.2.2 _ gw_295) (hX.2.1.1 2 (RX1, TX1, 18) rfl).2 (rs_recv hX hR 2 k5 (C := RX1) (T := TX1) (N := 18) rfl (by decide) h8 rfl) dX6_countLines_23 ?_
        refine rw_getN hX hR 2 3 k5 (C := RX1) (T := TX1) (N := 18) rfl (by decide) h8 rfl (v := .int (gi σ 203 k5)) rfl uw_X1 nw_348 rfl dX6_countLines_26 ?_
        refine rw_istore_n (lv' := [(3, .int (gi σ 203 k5)), (0, .ref (gS γ 7 0)), (1, .int x1), (2, .int x2)]) hX hl (by decide) rfl dX6_countLines_29 rfl (fun ls hl1 => ?_)
        replace hl := hl1
        clear hl1
        refine rw_iload_n hX hl 0 rfl dX6_countLines_30 rfl ?_
        refine lv_iconst (v := (-1)) hX.1.1 hX.1.2.1 dX6_countLines_31 (by decide) ?_
        refine lv_icmp_eq (x := (gi σ 203 k5)) (y := (-1)) (tgt := 41) hX.1.1 hX.1.2.1 dX6_countLines_32 (by decide) (fun c9 => ?_) (fun c9 => ?_)
        · replace hw := if_t hw c9
          exact J41 x1 x2 _ _ (by omega) (by omega) _ _ _ hw hR (lh_sub hl [1, 2, 3] rfl)
        · replace hw := if_f hw c9
          refine rw_iload_n hX hl 2 rfl dX6_countLines_35 rfl ?_
          refine lv_iconst (v := 1) hX.1.1 hX.1.2.1 dX6_countLines_36 (by decide) ?_
          refine rw_iload_n hX hl 0 rfl dX6_countLines_37 rfl ?_
          refine lv_ishl (x := 1) (y := (gi σ 203 k5)) hX.1.1 hX.1.2.1 dX6_countLines_38 ?_
          refine lv_ior (x := x1) (y := (1 <<< ((gi σ 203 k5) &&& 31))) hX.1.1 hX.1.2.1 dX6_countLines_39 ?_
          refine rw_istore_n (lv' := [(1, .int (x1 ||| (1 <<< ((gi σ 203 k5) &&& 31)))), (3, .int (gi σ 203 k5)), (0, .ref (gS γ 7 0)), (2, .int x2)]) hX hl (by decide) rfl dX6_countLines_40 rfl (fun ls hl1 => ?_)
          replace hl := hl1
          clear hl1
          exact J41 (x1 ||| (1 <<< ((gi σ 203 k5) &&& 31))) x2 _ _ (by omega) (by omega) _ _ _ hw hR (lh_sub hl [2, 0, 3] rfl)
  refine rw_entry (ca1 rfl ca0) (Nat.le_of_ble_eq_true rfl) (fun ls hl1 => ?_)
  replace hl := hl1
  clear hl1
  refine lv_iconst (v := 0) hX.1.1 hX.1.2.1 dX6_countLines_0 (by decide) ?_
  refine rw_istore_n (lv' := [(1, .int 0), (0, .ref (gS γ 7 0))]) hX hl (by decide) rfl dX6_countLines_1 rfl (fun ls hl1 => ?_)
  replace hl := hl1
  clear hl1
  refine lv_iconst (v := 0) hX.1.1 hX.1.2.1 dX6_countLines_2 (by decide) ?_
  refine rw_istore_n (lv' := [(2, .int 0), (1, .int 0), (0, .ref (gS γ 7 0))]) hX hl (by decide) rfl dX6_countLines_3 rfl (fun ls hl1 => ?_)
  replace hl := hl1
  clear hl1
  exact L4 _ _ _ _ (by omega) (by omega) _ _ _ hw hR (lh_sub hl [2, 1, 0] rfl)
set_option maxHeartbeats 8000000 in
set_option maxRecDepth 100000 in
theorem C_f7_countSlots (l : Launch) (γ : GT) (ad : Nat → Nat → Nat) {fu : Nat} (σ : St) (r : Int32) (hw : f7_countSlots fu σ = some r) : Met l yX6_countSlots (Cond.code yX6_countSlots cX6_countSlots 3 (Option.some Jvm.ClassFile.FieldType.int) :: GW) (rmo 15 0 0) (va_Pc [.ref (gS γ 7 0)] (RU γ ad σ)) (QI γ ad σ r) 0 0 (gA γ) := by
  refine Met.ofW (cc := cX6_countSlots) (maxL := 3) (ret := (Option.some Jvm.ClassFile.FieldType.int)) (by decide +kernel) rfl ?_
  intro p e s m args below meth c s₁ B hml hv
  obtain ⟨rfl, hU⟩ := hv
  obtain ⟨hX, hR⟩ := cx_of (own := RX6) B hml rfl hU
  have hr := B.returns
  have hlocks := B.notSynchronized
  have hc0 : (0 : Nat) ≤ 0 := Nat.le_refl 0
  show W p l e (rmo 15 0 0) s m ([.ref (gS γ 7 0)] : List Value).toArray below meth c s.heap [] 0 0 (MQ below (QI γ ad σ r) ([.ref (gS γ 7 0)] : List Value).toArray s 0 0 (gA γ)) (entryFrame m ([.ref (gS γ 7 0)] : List Value).toArray 3)
  unfold f7_countSlots at hw
  have L4 : ∀ (n : Nat) (s9 : (Int32 × Int32)) (cells slots : Nat), cells ≤ 0 → slots ≤ 0 → ∀ (H : Heap) (locs : List Loc) (ls : Array Slot), lp (fun s8 => f7_countSlots_b4 fu s8.1 s8.2 σ) n s9 = some r → RS γ ad σ s H locs → lh ls 3 [(0, .ref (gS γ 7 0)), (1, .int s9.1), (2, .int s9.2)] → W p l e (rmo 15 0 0) s m ([.ref (gS γ 7 0)] : List Value).toArray below meth c H locs cells slots (MQ below (QI γ ad σ r) ([.ref (gS γ 7 0)] : List Value).toArray s 0 0 (gA γ)) (F0 m 4 ls []) := by
    intro n4
    induction n4 with
    | zero => intro s9 cells slots hc1 hc2 H locs ls hw hR hl; exact (lp_zero hw).elim
    | succ n4 ih4 =>
      intro s9 cells slots hc1 hc2 H locs ls hw hR hl
      obtain ⟨o4, hw1, hb4, ho4⟩ := lp_succ hw
      replace hw := hw1
      clear hw1
      obtain ⟨x1, x2⟩ := s9
      replace hw : f7_countSlots_b4 fu x1 x2 σ = some o4 := hw
      replace hl : lh ls 3 [(0, .ref (gS γ 7 0)), (1, .int x1), (2, .int x2)] := hl
      unfold f7_countSlots_b4 at hw
      have J35 : ∀ (x1 : Int32) (x2 : Int32) (cells slots : Nat), cells ≤ 0 → slots ≤ 0 → ∀ (H : Heap) (locs : List Loc) (ls : Array Slot), f7_countSlots_j35 fu x1 x2 σ = some o4 → RS γ ad σ s H locs → lh ls 3 [(0, .ref (gS γ 7 0)), (1, .int x1), (2, .int x2)] → W p l e (rmo 15 0 0) s m ([.ref (gS γ 7 0)] : List Value).toArray below meth c H locs cells slots (MQ below (QI γ ad σ r) ([.ref (gS γ 7 0)] : List Value).toArray s 0 0 (gA γ)) (F0 m 35 ls []) := by
        intro x1 x2 cells slots hc1 hc2 H locs ls hw hR hl
        unfold f7_countSlots_j35 at hw
        refine rw_iinc (k := 2) (v := (x2 + 1)) (lv' := [(2, .int (x2 + 1)), (0, .ref (gS γ 7 0)), (1, .int x1)]) hX hl rfl (congrArg (fun q => x2 + q) (show Int32.ofInt 1 = 1 by decide)) (by decide) rfl dX6_countSlots_35 (fun ls hl1 => ?_)
        replace hl := hl1
        clear hl1
        refine lv_goto (tgt := 4) hX.1.1 hX.1.2.1 dX6_countSlots_38 (by decide) ?_
        exact ih4 _ _ _ (by omega) (by omega) _ _ _ (lp_back hw hb4) hR (lh_sub hl [1, 2, 0] rfl)
      refine rw_iload_n hX hl 2 rfl dX6_countSlots_4 rfl ?_
      refine rw_aload_n hX hl 0 rfl (Or.inr ⟨_, rfl⟩) dX6_countSlots_5 rfl ?_
      refine rw_get hX hR 7 5 0 (C := RX6) (T := TX6) (N := 11) rfl (by decide) (Nat.le_of_ble_eq_true rfl) rfl (v := .ref (gS γ 0 5)) rfl uw_X6 gw_154 rfl dX6_countSlots_6 ?_
      refine rw_cVi hX hR pk_lsize (mc := 0) (ms := 0) ⟨rfl, rfl, Nat.le_of_ble_eq_true rfl, Nat.le_of_ble_eq_true rfl⟩ (As := []) (rest := [.int x2]) rfl (C_lsize l γ ad σ 5 (by decide)) gw_209 gw_210 gw_211 (rs_recvL hX hR 5 (by decide)) rfl hl.1 (ca1 rfl ca0) (Nat.le_of_ble_eq_true rfl) dX6_countSlots_9 ⟨(show cells + 0 ≤ 0 by omega), (show slots + 0 ≤ 0 by omega)⟩ (fun H locs hR1 => ?_)
      replace hR := hR1
      clear hR1
      refine lv_icmp_ge (x := x2) (y := (nI (gl σ 5).length)) (tgt := 41) hX.1.1 hX.1.2.1 dX6_countSlots_12 (by decide) (fun c1 => ?_) (fun c1 => ?_)
      · replace hw := if_t hw c1
        replace hw := lp_out hw ho4
        refine rw_iload_n hX hl 1 rfl dX6_countSlots_41 rfl ?_
        refine W.widen (k := 0) (n := 0) (by omega) (by omega) ?_
        exact rq_i hX hR hr hw dX6_countSlots_42 hlocks
      · replace hw := if_f hw c1
        refine rw_aload_n hX hl 0 rfl (Or.inr ⟨_, rfl⟩) dX6_countSlots_15 rfl ?_
        refine rw_get hX hR 7 5 0 (C := RX6) (T := TX6) (N := 11) rfl (by decide) (Nat.le_of_ble_eq_true rfl) rfl (v := .ref (gS γ 0 5)) rfl uw_X6 gw_154 rfl dX6_countSlots_16 ?_
        refine rw_iload_n hX hl 2 rfl dX6_countSlots_19 rfl ?_
        obtain ⟨h3, k2, h4, h5, hw1⟩ := lg_some hw
        replace hw := hw1
        clear hw1
        refine rw_cVq (r := some k2) (k := 6) hX hR pk_lget (mc := 0) (ms := 0) ⟨rfl, rfl, Nat.le_of_ble_eq_true rfl, Nat.le_of_ble_eq_true rfl⟩ (As := [.int x2]) (rest := []) rfl (C_lget l γ ad σ 5 x2 k2 (by decide) h3 h4) gw_281 gw_282 gw_283 (rs_recvL hX hR 5 (by decide)) rfl hl.1 ca0 (Nat.le_of_ble_eq_true rfl) dX6_countSlots_20 ⟨(show (cells + 0) + 0 ≤ 0 by omega), (show (slots + 0) + 0 ≤ 0 by omega)⟩ (fun H locs hR1 => ?_)
        replace hR := hR1
        clear hR1
        refine va_castS (a := Ad γ ad 6 k2) (nm := RX5) hX.1.1 hX.1.2.1 hX.1.2.2.2.1 (hX.1.2.2.2.2 _ gw_77) (hX.2.1.1 6 (RX5, TX5, 2) rfl).2 (rs_recv hX hR 6 k2 (C := RX5) (T := TX5) (N := 2) rfl (by decide) h5 rfl) dX6_countSlots_23 ?_
        obtain ⟨p6, q7⟩ : ∃ o, gp σ 600 k2 = o := ⟨_, rfl⟩
        replace hw := lt_eq hw q7
        refine rw_getN hX hR 6 0 k2 (C := RX5) (T := TX5) (N := 2) rfl (by decide) h5 rfl (v := va_rf (Option.map (Ad γ ad 2) p6)) (by rw [← q7]; rfl) uw_X5 nw_83 rfl dX6_countSlots_26 ?_
        refine rw_ifnull hX (o := p6) (g := Ad γ ad 2) (tgt := 35) dX6_countSlots_29 (by decide) (fun c8 => ?_) (fun c8 => ?_)
        · replace hw := if_t hw c8
          exact J35 x1 x2 _ _ (by omega) (by omega) _ _ _ hw hR (lh_sub hl [0, 1, 2] rfl)
        · replace hw := if_f hw c8
          refine rw_iinc (k := 1) (v := (x1 + 1)) (lv' := [(1, .int (x1 + 1)), (0, .ref (gS γ 7 0)), (2, .int x2)]) hX hl rfl (congrArg (fun q => x1 + q) (show Int32.ofInt 1 = 1 by decide)) (by decide) rfl dX6_countSlots_32 (fun ls hl1 => ?_)
          replace hl := hl1
          clear hl1
          exact J35 (x1 + 1) x2 _ _ (by omega) (by omega) _ _ _ hw hR (lh_sub hl [1, 0, 2] rfl)
  refine rw_entry (ca1 rfl ca0) (Nat.le_of_ble_eq_true rfl) (fun ls hl1 => ?_)
  replace hl := hl1
  clear hl1
  refine lv_iconst (v := 0) hX.1.1 hX.1.2.1 dX6_countSlots_0 (by decide) ?_
  refine rw_istore_n (lv' := [(1, .int 0), (0, .ref (gS γ 7 0))]) hX hl (by decide) rfl dX6_countSlots_1 rfl (fun ls hl1 => ?_)
  replace hl := hl1
  clear hl1
  refine lv_iconst (v := 0) hX.1.1 hX.1.2.1 dX6_countSlots_2 (by decide) ?_
  refine rw_istore_n (lv' := [(2, .int 0), (1, .int 0), (0, .ref (gS γ 7 0))]) hX hl (by decide) rfl dX6_countSlots_3 rfl (fun ls hl1 => ?_)
  replace hl := hl1
  clear hl1
  exact L4 _ _ _ _ (by omega) (by omega) _ _ _ hw hR (lh_sub hl [2, 1, 0] rfl)
set_option maxHeartbeats 8000000 in
set_option maxRecDepth 100000 in
theorem C_f7_given (l : Launch) (hfl : l.stackTraces = false) (γ : GT) (ad : Nat → Nat → Nat) {fu : Nat} (a1 : Int32) (σ : St) (r : Except Nat Int32) (hw : f7_given fu a1 σ = some r) : vx_Met l yX6_given (Cond.code yX6_given cX6_given 2 (Option.some Jvm.ClassFile.FieldType.int) :: GW) (rmo 16 1 6) (va_Pc [.ref (gS γ 7 0), .int a1] (RU γ ad σ)) (QXI γ ad σ r) (QXX γ ad σ r) 1 6 (gA γ) := by
  refine vx_ofW (cc := cX6_given) (maxL := 2) (ret := (Option.some Jvm.ClassFile.FieldType.int)) (by decide) rfl ?_
  intro p e s m args below meth c s₁ B hml hxt hv
  obtain ⟨rfl, hU⟩ := hv
  obtain ⟨hX, hR⟩ := cx_of (own := RX6) B hml rfl hU
  have hr := B.returns
  have hlocks := B.notSynchronized
  have hc0 : (0 : Nat) ≤ 0 := Nat.le_refl 0
  show W p l e (rmo 16 1 6) s m ([.ref (gS γ 7 0), .int a1] : List Value).toArray below meth c s.heap [] 0 0 (vx_MQ below (QXI γ ad σ r) (QXX γ ad σ r) ([.ref (gS γ 7 0), .int a1] : List Value).toArray s 1 6 (gA γ)) (entryFrame m ([.ref (gS γ 7 0), .int a1] : List Value).toArray 2)
  unfold f7_given at hw
  refine rw_entry (ca1 rfl (ca1 rfl ca0)) (Nat.le_of_ble_eq_true rfl) (fun ls hl1 => ?_)
  replace hl := hl1
  clear hl1
  refine rw_iload_n hX hl 1 rfl dX6_given_0 rfl ?_
  refine rw_tsw hX (x := a1) (n := 4) 55 (fun i => [32, 37, 42, 47].getD i 0) dX6_given_1 (by decide) (by decide) (by decide) (by decide) (fun hx => ?_) (fun i hi hx => ?_)
  · replace hw := if_f hw (hx 0 (by decide))
    replace hw := if_f hw (hx 1 (by decide))
    replace hw := if_f hw (hx 2 (by decide))
    replace hw := if_f hw (hx 3 (by decide))
    exact rw_throwW (lv := [(0, .ref (gS γ 7 0)), (1, .int a1)]) (text := "what is out of range") hX hR hfl 2 61 330 65 (Option.some.inj hw).symm XN_fit2 XNS_fit gw_303 gw_18 (by decide +kernel) xa_2 xg_2 hl.1 hxt dX6_given_55 dX6_given_58 dX6_given_59 dX6_given_62 dX6_given_65 (Nat.le_of_ble_eq_true rfl) (Nat.le_of_ble_eq_true rfl) ⟨(show 0 + 1 ≤ 1 by omega), (show 0 + 6 ≤ 6 by omega)⟩ hlocks ⟨by omega, by omega⟩
  · match i, hi, hx with
    | 0, _, hx =>
      replace hw := if_t hw hx
      refine rw_aload_n hX hl 0 rfl (Or.inr ⟨_, rfl⟩) dX6_given_32 rfl ?_
      obtain ⟨v1, g3, hw1⟩ := ob1_some hw
      replace hw := hw1
      clear hw1
      refine rw_cVi hX hR pk_f7_countPlaces (mc := 0) (ms := 0) ⟨rfl, rfl, (show 15 + 1 ≤ 16 by omega), (show 8 + (4 + 11) + 64 * 15 ≤ 64 * 16 by omega)⟩ (As := []) (rest := []) rfl (C_f7_countPlaces l γ ad σ v1 g3) gw_876 gw_878 gs_46 (rs_recv hX hR 7 0 (C := RX6) (T := TX6) (N := 11) rfl (by decide) (Nat.le_of_ble_eq_true rfl) rfl) rfl hl.1 ca0 (Nat.le_of_ble_eq_true rfl) dX6_given_33 ⟨(show 0 + 0 ≤ 1 by omega), (show 0 + 0 ≤ 6 by omega)⟩ (fun H locs hR1 => ?_)
      replace hR := hR1
      clear hR1
      refine W.widen (k := 1) (n := 6) (by omega) (by omega) ?_
      exact ry_i hX hR hr hw dX6_given_36 hlocks
    | 1, _, hx =>
      replace hw := if_f hw (show ¬ a1 = 0 by rw [hx]; decide)
      replace hw := if_t hw hx
      refine rw_aload_n hX hl 0 rfl (Or.inr ⟨_, rfl⟩) dX6_given_37 rfl ?_
      obtain ⟨v4, g6, hw1⟩ := ob1_some hw
      replace hw := hw1
      clear hw1
      refine rw_cVi hX hR pk_f7_countLines (mc := 0) (ms := 0) ⟨rfl, rfl, (show 15 + 1 ≤ 16 by omega), (show 8 + (4 + 11) + 64 * 15 ≤ 64 * 16 by omega)⟩ (As := []) (rest := []) rfl (C_f7_countLines l γ ad σ v4 g6) gw_880 gw_882 gs_47 (rs_recv hX hR 7 0 (C := RX6) (T := TX6) (N := 11) rfl (by decide) (Nat.le_of_ble_eq_true rfl) rfl) rfl hl.1 ca0 (Nat.le_of_ble_eq_true rfl) dX6_given_38 ⟨(show 0 + 0 ≤ 1 by omega), (show 0 + 0 ≤ 6 by omega)⟩ (fun H locs hR1 => ?_)
      replace hR := hR1
      clear hR1
      refine W.widen (k := 1) (n := 6) (by omega) (by omega) ?_
      exact ry_i hX hR hr hw dX6_given_41 hlocks
    | 2, _, hx =>
      replace hw := if_f hw (show ¬ a1 = 0 by rw [hx]; decide)
      replace hw := if_f hw (show ¬ a1 = 1 by rw [hx]; decide)
      replace hw := if_t hw hx
      refine rw_aload_n hX hl 0 rfl (Or.inr ⟨_, rfl⟩) dX6_given_42 rfl ?_
      obtain ⟨v7, g9, hw1⟩ := ob1_some hw
      replace hw := hw1
      clear hw1
      refine rw_cVi hX hR pk_f7_countSlots (mc := 0) (ms := 0) ⟨rfl, rfl, (show 15 + 1 ≤ 16 by omega), (show 8 + (3 + 11) + 64 * 15 ≤ 64 * 16 by omega)⟩ (As := []) (rest := []) rfl (C_f7_countSlots l γ ad σ v7 g9) gw_890 gw_892 gs_48 (rs_recv hX hR 7 0 (C := RX6) (T := TX6) (N := 11) rfl (by decide) (Nat.le_of_ble_eq_true rfl) rfl) rfl hl.1 ca0 (Nat.le_of_ble_eq_true rfl) dX6_given_43 ⟨(show 0 + 0 ≤ 1 by omega), (show 0 + 0 ≤ 6 by omega)⟩ (fun H locs hR1 => ?_)
      replace hR := hR1
      clear hR1
      refine W.widen (k := 1) (n := 6) (by omega) (by omega) ?_
      exact ry_i hX hR hr hw dX6_given_46 hlocks
    | 3, _, hx =>
      replace hw := if_f hw (show ¬ a1 = 0 by rw [hx]; decide)
      replace hw := if_f hw (show ¬ a1 = 1 by rw [hx]; decide)
      replace hw := if_f hw (show ¬ a1 = 2 by rw [hx]; decide)
      replace hw := if_t hw hx
      refine rw_aload_n hX hl 0 rfl (Or.inr ⟨_, rfl⟩) dX6_given_47 rfl ?_
      refine rw_get hX hR 7 1 0 (C := RX6) (T := TX6) (N := 11) rfl (by decide) (Nat.le_of_ble_eq_true rfl) rfl (v := .ref (gS γ 0 1)) rfl uw_X6 gw_150 rfl dX6_given_48 ?_
      refine rw_cVi hX hR pk_lsize (mc := 0) (ms := 0) ⟨rfl, rfl, Nat.le_of_ble_eq_true rfl, Nat.le_of_ble_eq_true rfl⟩ (As := []) (rest := []) rfl (C_lsize l γ ad σ 1 (by decide)) gw_209 gw_210 gw_211 (rs_recvL hX hR 1 (by decide)) rfl hl.1 ca0 (Nat.le_of_ble_eq_true rfl) dX6_given_51 ⟨(show 0 + 0 ≤ 1 by omega), (show 0 + 0 ≤ 6 by omega)⟩ (fun H locs hR1 => ?_)
      replace hR := hR1
      clear hR1
      refine W.widen (k := 1) (n := 6) (by omega) (by omega) ?_
      exact ry_i hX hR hr hw dX6_given_54 hlocks
    | n + 4, hi, _ => exact absurd hi (by omega)
set_option maxHeartbeats 8000000 in
set_option maxRecDepth 100000 in
theorem C_f7_events (l : Launch) (γ : GT) (ad : Nat → Nat → Nat) {fu : Nat} (σ : St) (r : Int32) (hw : f7_events fu σ = some r) : Met l yX6_events (Cond.code yX6_events cX6_events 1 (Option.some Jvm.ClassFile.FieldType.int) :: GW) (rmo 1 0 0) (va_Pc [.ref (gS γ 7 0)] (RU γ ad σ)) (QI γ ad σ r) 0 0 (gA γ) := by
  refine Met.ofW (cc := cX6_events) (maxL := 1) (ret := (Option.some Jvm.ClassFile.FieldType.int)) (by decide +kernel) rfl ?_
  intro p e s m args below meth c s₁ B hml hv
  obtain ⟨rfl, hU⟩ := hv
  obtain ⟨hX, hR⟩ := cx_of (own := RX6) B hml rfl hU
  have hr := B.returns
  have hlocks := B.notSynchronized
  have hc0 : (0 : Nat) ≤ 0 := Nat.le_refl 0
  show W p l e (rmo 1 0 0) s m ([.ref (gS γ 7 0)] : List Value).toArray below meth c s.heap [] 0 0 (MQ below (QI γ ad σ r) ([.ref (gS γ 7 0)] : List Value).toArray s 0 0 (gA γ)) (entryFrame m ([.ref (gS γ 7 0)] : List Value).toArray 1)
  unfold f7_events at hw
  refine rw_entry (ca1 rfl ca0) (Nat.le_of_ble_eq_true rfl) (fun ls hl1 => ?_)
  replace hl := hl1
  clear hl1
  refine rw_aload_n hX hl 0 rfl (Or.inr ⟨_, rfl⟩) dX6_events_0 rfl ?_
  refine rw_get hX hR 7 7 0 (C := RX6) (T := TX6) (N := 11) rfl (by decide) (Nat.le_of_ble_eq_true rfl) rfl (v := .ref (gS γ 4 0)) rfl uw_X6 gw_156 rfl dX6_events_1 ?_
  refine rw_getN hX hR 4 2 0 (C := RX3) (T := TX3) (N := 3) rfl (by decide) (Nat.le_of_ble_eq_true rfl) rfl (v := .int (gi σ 402 0)) rfl uw_X3 nw_68 rfl dX6_events_4 ?_
  exact rq_i hX hR hr hw dX6_events_7 hlocks
set_option maxHeartbeats 8000000 in
set_option maxRecDepth 100000 in
theorem C_f4_keeps (l : Launch) (γ : GT) (ad : Nat → Nat → Nat) {fu : Nat} (a1 : Int32) (σ : St) (r : Bool) (hw : f4_keeps fu a1 σ = some r) : Met l yX3_keeps (Cond.code yX3_keeps cX3_keeps 2 (Option.some Jvm.ClassFile.FieldType.boolean) :: GW) (rmo 1 0 0) (va_Pc [.ref (gS γ 4 0), .int a1] (RU γ ad σ)) (QI γ ad σ (b2i r)) 0 0 (gA γ) := by
  refine Met.ofW (cc := cX3_keeps) (maxL := 2) (ret := (Option.some Jvm.ClassFile.FieldType.boolean)) (by decide +kernel) rfl ?_
  intro p e s m args below meth c s₁ B hml hv
  obtain ⟨rfl, hU⟩ := hv
  obtain ⟨hX, hR⟩ := cx_of (own := RX3) B hml rfl hU
  have hr := B.returns
  have hlocks := B.notSynchronized
  have hc0 : (0 : Nat) ≤ 0 := Nat.le_refl 0
  show W p l e (rmo 1 0 0) s m ([.ref (gS γ 4 0), .int a1] : List Value).toArray below meth c s.heap [] 0 0 (MQ below (QI γ ad σ (b2i r)) ([.ref (gS γ 4 0), .int a1] : List Value).toArray s 0 0 (gA γ)) (entryFrame m ([.ref (gS γ 4 0), .int a1] : List Value).toArray 2)
  unfold f4_keeps at hw
  refine rw_entry (ca1 rfl (ca1 rfl ca0)) (Nat.le_of_ble_eq_true rfl) (fun ls hl1 => ?_)
  replace hl := hl1
  clear hl1
  refine rw_iload_n hX hl 1 rfl dX3_keeps_0 rfl ?_
  refine lv_if_lt (x := a1) (tgt := 27) hX.1.1 hX.1.2.1 dX3_keeps_1 (by decide) (fun c1 => ?_) (fun c1 => ?_)
  · replace hw := if_t hw c1
    refine lv_iconst (v := 0) hX.1.1 hX.1.2.1 dX3_keeps_27 (by decide) ?_
    exact rq_z hX hR hr (v := false) rfl hw dX3_keeps_28 hlocks
  · replace hw := if_f hw c1
    refine rw_iload_n hX hl 1 rfl dX3_keeps_4 rfl ?_
    refine rw_aload_n hX hl 0 rfl (Or.inr ⟨_, rfl⟩) dX3_keeps_5 rfl ?_
    refine rw_get hX hR 4 2 0 (C := RX3) (T := TX3) (N := 3) rfl (by decide) (Nat.le_of_ble_eq_true rfl) rfl (v := .int (gi σ 402 0)) rfl uw_X3 gw_67 rfl dX3_keeps_6 ?_
    refine lv_icmp_ge (x := a1) (y := (gi σ 402 0)) (tgt := 27) hX.1.1 hX.1.2.1 dX3_keeps_9 (by decide) (fun c2 => ?_) (fun c2 => ?_)
    · replace hw := if_t hw c2
      refine lv_iconst (v := 0) hX.1.1 hX.1.2.1 dX3_keeps_27 (by decide) ?_
      exact rq_z hX hR hr (v := false) rfl hw dX3_keeps_28 hlocks
    · replace hw := if_f hw c2
      refine rw_iload_n hX hl 1 rfl dX3_keeps_12 rfl ?_
      refine rw_aload_n hX hl 0 rfl (Or.inr ⟨_, rfl⟩) dX3_keeps_13 rfl ?_
      refine rw_get hX hR 4 2 0 (C := RX3) (T := TX3) (N := 3) rfl (by decide) (Nat.le_of_ble_eq_true rfl) rfl (v := .int (gi σ 402 0)) rfl uw_X3 gw_67 rfl dX3_keeps_14 ?_
      refine lv_bipush (v := 20) hX.1.1 hX.1.2.1 dX3_keeps_17 (by decide) ?_
      refine lv_isub (x := (gi σ 402 0)) (y := 20) hX.1.1 hX.1.2.1 dX3_keeps_19 ?_
      refine lv_icmp_lt (x := a1) (y := ((gi σ 402 0) - 20)) (tgt := 27) hX.1.1 hX.1.2.1 dX3_keeps_20 (by decide) (fun c3 => ?_) (fun c3 => ?_)
      · replace hw := if_t hw c3
        refine lv_iconst (v := 0) hX.1.1 hX.1.2.1 dX3_keeps_27 (by decide) ?_
        exact rq_z hX hR hr (v := false) rfl hw dX3_keeps_28 hlocks
      · replace hw := if_f hw c3
        refine lv_iconst (v := 1) hX.1.1 hX.1.2.1 dX3_keeps_23 (by decide) ?_
        refine lv_goto (tgt := 28) hX.1.1 hX.1.2.1 dX3_keeps_24 (by decide) ?_
        exact rq_z hX hR hr (v := true) rfl hw dX3_keeps_28 hlocks
set_option maxHeartbeats 8000000 in
set_option maxRecDepth 100000 in
theorem C_f4_kindAt (l : Launch) (γ : GT) (ad : Nat → Nat → Nat) {fu : Nat} (a1 : Int32) (σ : St) (r : Int32) (hw : f4_kindAt fu a1 σ = some r) : Met l yX3_kindAt (Cond.code yX3_kindAt cX3_kindAt 2 (Option.some Jvm.ClassFile.FieldType.int) :: GW) (rmo 2 0 0) (va_Pc [.ref (gS γ 4 0), .int a1] (RU γ ad σ)) (QI γ ad σ r) 0 0 (gA γ) := by
  refine Met.ofW (cc := cX3_kindAt) (maxL := 2) (ret := (Option.some Jvm.ClassFile.FieldType.int)) (by decide +kernel) rfl ?_
  intro p e s m args below meth c s₁ B hml hv
  obtain ⟨rfl, hU⟩ := hv
  obtain ⟨hX, hR⟩ := cx_of (own := RX3) B hml rfl hU
  have hr := B.returns
  have hlocks := B.notSynchronized
  have hc0 : (0 : Nat) ≤ 0 := Nat.le_refl 0
  show W p l e (rmo 2 0 0) s m ([.ref (gS γ 4 0), .int a1] : List Value).toArray below meth c s.heap [] 0 0 (MQ below (QI γ ad σ r) ([.ref (gS γ 4 0), .int a1] : List Value).toArray s 0 0 (gA γ)) (entryFrame m ([.ref (gS γ 4 0), .int a1] : List Value).toArray 2)
  unfold f4_kindAt at hw
  refine rw_entry (ca1 rfl (ca1 rfl ca0)) (Nat.le_of_ble_eq_true rfl) (fun ls hl1 => ?_)
  replace hl := hl1
  clear hl1
  refine rw_aload_n hX hl 0 rfl (Or.inr ⟨_, rfl⟩) dX3_kindAt_0 rfl ?_
  refine rw_get hX hR 4 0 0 (C := RX3) (T := TX3) (N := 3) rfl (by decide) (Nat.le_of_ble_eq_true rfl) rfl (v := .ref (gS γ 1400 0)) rfl uw_X3 gw_65 rfl dX3_kindAt_1 ?_
  refine rw_iload_n hX hl 1 rfl dX3_kindAt_4 rfl ?_
  refine lv_bipush (v := 20) hX.1.1 hX.1.2.1 dX3_kindAt_5 (by decide) ?_
  obtain ⟨v1, g3, hw1⟩ := ob1_some hw
  replace hw := hw1
  clear hw1
  refine rw_cSi hX hR pk_f90_floorMod (mc := 0) (ms := 0) ⟨rfl, rfl, (show 1 + 1 ≤ 2 by omega), (show 8 + (3 + 11) + 64 * 1 ≤ 64 * 2 by omega)⟩ (As := [.int a1, .int 20]) (rest := [.ref (gS γ 1400 0)]) rfl (C_f90_floorMod l γ ad a1 20 σ v1 g3) gw_473 gw_474 rfl hl.1 (ca1 rfl ca0) (Nat.le_of_ble_eq_true rfl) dX3_kindAt_7 ⟨(show 0 + 0 ≤ 0 by omega), (show 0 + 0 ≤ 0 by omega)⟩ (fun H locs hR1 => ?_)
  replace hR := hR1
  clear hR1
  obtain ⟨h5, hw1⟩ := ar_some hw
  replace hw := hw1
  clear hw1
  obtain ⟨j4, ej4⟩ : ∃ j, (v1 : Int32).toNatClampNeg = j := ⟨_, rfl⟩
  rw [ej4] at hw
  refine rw_iald hX hR 400 (n := 20) (i := v1) (v := (gi σ 400 j4)) rfl (by decide) rfl rfl h5 (by rw [ej4]) dX3_kindAt_10 ?_
  refine W.widen (k := 0) (n := 0) (by omega) (by omega) ?_
  exact rq_i hX hR hr hw dX3_kindAt_11 hlocks
set_option maxHeartbeats 8000000 in
set_option maxRecDepth 100000 in
theorem C_f7_eventKind (l : Launch) (hfl : l.stackTraces = false) (γ : GT) (ad : Nat → Nat → Nat) {fu : Nat} (a1 : Int32) (σ : St) (r : Except Nat Int32) (hw : f7_eventKind fu a1 σ = some r) : vx_Met l yX6_eventKind (Cond.code yX6_eventKind cX6_eventKind 2 (Option.some Jvm.ClassFile.FieldType.int) :: GW) (rmo 8 1 6) (va_Pc [.ref (gS γ 7 0), .int a1] (RU γ ad σ)) (QXI γ ad σ r) (QXX γ ad σ r) 1 6 (gA γ) := by
  refine vx_ofW (cc := cX6_eventKind) (maxL := 2) (ret := (Option.some Jvm.ClassFile.FieldType.int)) (by decide) rfl ?_
  intro p e s m args below meth c s₁ B hml hxt hv
  obtain ⟨rfl, hU⟩ := hv
  obtain ⟨hX, hR⟩ := cx_of (own := RX6) B hml rfl hU
  have hr := B.returns
  have hlocks := B.notSynchronized
  have hc0 : (0 : Nat) ≤ 0 := Nat.le_refl 0
  show W p l e (rmo 8 1 6) s m ([.ref (gS γ 7 0), .int a1] : List Value).toArray below meth c s.heap [] 0 0 (vx_MQ below (QXI γ ad σ r) (QXX γ ad σ r) ([.ref (gS γ 7 0), .int a1] : List Value).toArray s 1 6 (gA γ)) (entryFrame m ([.ref (gS γ 7 0), .int a1] : List Value).toArray 2)
  unfold f7_eventKind at hw
  refine rw_entry (ca1 rfl (ca1 rfl ca0)) (Nat.le_of_ble_eq_true rfl) (fun ls hl1 => ?_)
  replace hl := hl1
  clear hl1
  refine rw_aload_n hX hl 0 rfl (Or.inr ⟨_, rfl⟩) dX6_eventKind_0 rfl ?_
  refine rw_get hX hR 7 7 0 (C := RX6) (T := TX6) (N := 11) rfl (by decide) (Nat.le_of_ble_eq_true rfl) rfl (v := .ref (gS γ 4 0)) rfl uw_X6 gw_156 rfl dX6_eventKind_1 ?_
  refine rw_iload_n hX hl 1 rfl dX6_eventKind_4 rfl ?_
  obtain ⟨v1, g3, hw1⟩ := ob1_some hw
  replace hw := hw1
  clear hw1
  refine rw_cVNi hX hR pk_f4_keeps (mc := 0) (ms := 0) ⟨rfl, rfl, (show 1 + 1 ≤ 8 by omega), (show 8 + (2 + 11) + 64 * 1 ≤ 64 * 8 by omega)⟩ (As := [.int a1]) (rest := []) rfl (C_f4_keeps l γ ad a1 σ v1 g3) nw_902 gw_904 gs_49 (rs_recv hX hR 4 0 (C := RX3) (T := TX3) (N := 3) rfl (by decide) (Nat.le_of_ble_eq_true rfl) rfl) rfl hl.1 ca0 (Nat.le_of_ble_eq_true rfl) dX6_eventKind_5 ⟨(show 0 + 0 ≤ 1 by omega), (show 0 + 0 ≤ 6 by omega)⟩ (fun H locs hR1 => ?_)
  replace hR := hR1
  clear hR1
  refine rw_ifneZ (b := v1) (tgt := 22) hX dX6_eventKind_8 (by decide) (fun c4 => ?_) (fun c4 => ?_)
  · replace hw := if_t hw c4
    refine rw_aload_n hX hl 0 rfl (Or.inr ⟨_, rfl⟩) dX6_eventKind_22 rfl ?_
    refine rw_get hX hR 7 7 0 (C := RX6) (T := TX6) (N := 11) rfl (by decide) (Nat.le_of_ble_eq_true rfl) rfl (v := .ref (gS γ 4 0)) rfl uw_X6 gw_156 rfl dX6_eventKind_23 ?_
    refine rw_iload_n hX hl 1 rfl dX6_eventKind_26 rfl ?_
    obtain ⟨v5, g7, hw1⟩ := ob1_some hw
    replace hw := hw1
    clear hw1
    refine rw_cVNi hX hR pk_f4_kindAt (mc := 0) (ms := 0) ⟨rfl, rfl, (show 2 + 1 ≤ 8 by omega), (show 8 + (2 + 11) + 64 * 2 ≤ 64 * 8 by omega)⟩ (As := [.int a1]) (rest := []) rfl (C_f4_kindAt l γ ad a1 σ v5 g7) nw_907 gw_909 gs_50 (rs_recv hX hR 4 0 (C := RX3) (T := TX3) (N := 3) rfl (by decide) (Nat.le_of_ble_eq_true rfl) rfl) rfl hl.1 ca0 (Nat.le_of_ble_eq_true rfl) dX6_eventKind_27 ⟨(show (0 + 0) + 0 ≤ 1 by omega), (show (0 + 0) + 0 ≤ 6 by omega)⟩ (fun H locs hR1 => ?_)
    replace hR := hR1
    clear hR1
    refine W.widen (k := 1) (n := 6) (by omega) (by omega) ?_
    exact ry_i hX hR hr hw dX6_eventKind_30 hlocks
  · replace hw := if_f hw c4
    exact rw_throwW (lv := [(0, .ref (gS γ 7 0)), (1, .int a1)]) (text := "there is no such event, or it is not kept any more") hX hR hfl 1 136 338 140 (Option.some.inj hw).symm XN_fit1 XNS_fit gw_213 gw_15 (by decide +kernel) xa_1 xg_1 hl.1 hxt dX6_eventKind_11 dX6_eventKind_14 dX6_eventKind_15 dX6_eventKind_18 dX6_eventKind_21 (Nat.le_of_ble_eq_true rfl) (Nat.le_of_ble_eq_true rfl) ⟨(show (0 + 0) + 1 ≤ 1 by omega), (show (0 + 0) + 6 ≤ 6 by omega)⟩ hlocks ⟨by omega, by omega⟩
set_option maxHeartbeats 8000000 in
set_option maxRecDepth 100000 in
theorem C_f4_subjectAt (l : Launch) (γ : GT) (ad : Nat → Nat → Nat) {fu : Nat} (a1 : Int32) (σ : St) (r : Int32) (hw : f4_subjectAt fu a1 σ = some r) : Met l yX3_subjectAt (Cond.code yX3_subjectAt cX3_subjectAt 2 (Option.some Jvm.ClassFile.FieldType.int) :: GW) (rmo 2 0 0) (va_Pc [.ref (gS γ 4 0), .int a1] (RU γ ad σ)) (QI γ ad σ r) 0 0 (gA γ) := by
  refine Met.ofW (cc := cX3_subjectAt) (maxL := 2) (ret := (Option.some Jvm.ClassFile.FieldType.int)) (by decide +kernel) rfl ?_
  intro p e s m args below meth c s₁ B hml hv
  obtain ⟨rfl, hU⟩ := hv
  obtain ⟨hX, hR⟩ := cx_of (own := RX3) B hml rfl hU
  have hr := B.returns
  have hlocks := B.notSynchronized
  have hc0 : (0 : Nat) ≤ 0 := Nat.le_refl 0
  show W p l e (rmo 2 0 0) s m ([.ref (gS γ 4 0), .int a1] : List Value).toArray below meth c s.heap [] 0 0 (MQ below (QI γ ad σ r) ([.ref (gS γ 4 0), .int a1] : List Value).toArray s 0 0 (gA γ)) (entryFrame m ([.ref (gS γ 4 0), .int a1] : List Value).toArray 2)
  unfold f4_subjectAt at hw
  refine rw_entry (ca1 rfl (ca1 rfl ca0)) (Nat.le_of_ble_eq_true rfl) (fun ls hl1 => ?_)
  replace hl := hl1
  clear hl1
  refine rw_aload_n hX hl 0 rfl (Or.inr ⟨_, rfl⟩) dX3_subjectAt_0 rfl ?_
  refine rw_get hX hR 4 1 0 (C := RX3) (T := TX3) (N := 3) rfl (by decide) (Nat.le_of_ble_eq_true rfl) rfl (v := .ref (gS γ 1401 0)) rfl uw_X3 gw_66 rfl dX3_subjectAt_1 ?_
  refine rw_iload_n hX hl 1 rfl dX3_subjectAt_4 rfl ?_
  refine lv_bipush (v := 20) hX.1.1 hX.1.2.1 dX3_subjectAt_5 (by decide) ?_
  obtain ⟨v1, g3, hw1⟩ := ob1_some hw
  replace hw := hw1
  clear hw1
  refine rw_cSi hX hR pk_f90_floorMod (mc := 0) (ms := 0) ⟨rfl, rfl, (show 1 + 1 ≤ 2 by omega), (show 8 + (3 + 11) + 64 * 1 ≤ 64 * 2 by omega)⟩ (As := [.int a1, .int 20]) (rest := [.ref (gS γ 1401 0)]) rfl (C_f90_floorMod l γ ad a1 20 σ v1 g3) gw_473 gw_474 rfl hl.1 (ca1 rfl ca0) (Nat.le_of_ble_eq_true rfl) dX3_subjectAt_7 ⟨(show 0 + 0 ≤ 0 by omega), (show 0 + 0 ≤ 0 by omega)⟩ (fun H locs hR1 => ?_)
  replace hR := hR1
  clear hR1
  obtain ⟨h5, hw1⟩ := ar_some hw
  replace hw := hw1
  clear hw1
  obtain ⟨j4, ej4⟩ : ∃ j, (v1 : Int32).toNatClampNeg = j := ⟨_, rfl⟩
  rw [ej4] at hw
  refine rw_iald hX hR 401 (n := 20) (i := v1) (v := (gi σ 401 j4)) rfl (by decide) rfl rfl h5 (by rw [ej4]) dX3_subjectAt_10 ?_
  refine W.widen (k := 0) (n := 0) (by omega) (by omega) ?_
  exact rq_i hX hR hr hw dX3_subjectAt_11 hlocks
set_option maxHeartbeats 8000000 in
set_option maxRecDepth 100000 in
theorem C_f7_eventOf (l : Launch) (hfl : l.stackTraces = false) (γ : GT) (ad : Nat → Nat → Nat) {fu : Nat} (a1 : Int32) (σ : St) (r : Except Nat Int32) (hw : f7_eventOf fu a1 σ = some r) : vx_Met l yX6_eventOf (Cond.code yX6_eventOf cX6_eventOf 2 (Option.some Jvm.ClassFile.FieldType.int) :: GW) (rmo 8 1 6) (va_Pc [.ref (gS γ 7 0), .int a1] (RU γ ad σ)) (QXI γ ad σ r) (QXX γ ad σ r) 1 6 (gA γ) := by
  refine vx_ofW (cc := cX6_eventOf) (maxL := 2) (ret := (Option.some Jvm.ClassFile.FieldType.int)) (by decide) rfl ?_
  intro p e s m args below meth c s₁ B hml hxt hv
  obtain ⟨rfl, hU⟩ := hv
  obtain ⟨hX, hR⟩ := cx_of (own := RX6) B hml rfl hU
  have hr := B.returns
  have hlocks := B.notSynchronized
  have hc0 : (0 : Nat) ≤ 0 := Nat.le_refl 0
  show W p l e (rmo 8 1 6) s m ([.ref (gS γ 7 0), .int a1] : List Value).toArray below meth c s.heap [] 0 0 (vx_MQ below (QXI γ ad σ r) (QXX γ ad σ r) ([.ref (gS γ 7 0), .int a1] : List Value).toArray s 1 6 (gA γ)) (entryFrame m ([.ref (gS γ 7 0), .int a1] : List Value).toArray 2)
  unfold f7_eventOf at hw
  refine rw_entry (ca1 rfl (ca1 rfl ca0)) (Nat.le_of_ble_eq_true rfl) (fun ls hl1 => ?_)
  replace hl := hl1
  clear hl1
  refine rw_aload_n hX hl 0 rfl (Or.inr ⟨_, rfl⟩) dX6_eventOf_0 rfl ?_
  refine rw_get hX hR 7 7 0 (C := RX6) (T := TX6) (N := 11) rfl (by decide) (Nat.le_of_ble_eq_true rfl) rfl (v := .ref (gS γ 4 0)) rfl uw_X6 gw_156 rfl dX6_eventOf_1 ?_
  refine rw_iload_n hX hl 1 rfl dX6_eventOf_4 rfl ?_
  obtain ⟨v1, g3, hw1⟩ := ob1_some hw
  replace hw := hw1
  clear hw1
  refine rw_cVNi hX hR pk_f4_keeps (mc := 0) (ms := 0) ⟨rfl, rfl, (show 1 + 1 ≤ 8 by omega), (show 8 + (2 + 11) + 64 * 1 ≤ 64 * 8 by omega)⟩ (As := [.int a1]) (rest := []) rfl (C_f4_keeps l γ ad a1 σ v1 g3) nw_902 gw_904 gs_49 (rs_recv hX hR 4 0 (C := RX3) (T := TX3) (N := 3) rfl (by decide) (Nat.le_of_ble_eq_true rfl) rfl) rfl hl.1 ca0 (Nat.le_of_ble_eq_true rfl) dX6_eventOf_5 ⟨(show 0 + 0 ≤ 1 by omega), (show 0 + 0 ≤ 6 by omega)⟩ (fun H locs hR1 => ?_)
  replace hR := hR1
  clear hR1
  refine rw_ifneZ (b := v1) (tgt := 22) hX dX6_eventOf_8 (by decide) (fun c4 => ?_) (fun c4 => ?_)
  · replace hw := if_t hw c4
    refine rw_aload_n hX hl 0 rfl (Or.inr ⟨_, rfl⟩) dX6_eventOf_22 rfl ?_
    refine rw_get hX hR 7 7 0 (C := RX6) (T := TX6) (N := 11) rfl (by decide) (Nat.le_of_ble_eq_true rfl) rfl (v := .ref (gS γ 4 0)) rfl uw_X6 gw_156 rfl dX6_eventOf_23 ?_
    refine rw_iload_n hX hl 1 rfl dX6_eventOf_26 rfl ?_
    obtain ⟨v5, g7, hw1⟩ := ob1_some hw
    replace hw := hw1
    clear hw1
    refine rw_cVNi hX hR pk_f4_subjectAt (mc := 0) (ms := 0) ⟨rfl, rfl, (show 2 + 1 ≤ 8 by omega), (show 8 + (2 + 11) + 64 * 2 ≤ 64 * 8 by omega)⟩ (As := [.int a1]) (rest := []) rfl (C_f4_subjectAt l γ ad a1 σ v5 g7) nw_918 gw_920 gs_51 (rs_recv hX hR 4 0 (C := RX3) (T := TX3) (N := 3) rfl (by decide) (Nat.le_of_ble_eq_true rfl) rfl) rfl hl.1 ca0 (Nat.le_of_ble_eq_true rfl) dX6_eventOf_27 ⟨(show (0 + 0) + 0 ≤ 1 by omega), (show (0 + 0) + 0 ≤ 6 by omega)⟩ (fun H locs hR1 => ?_)
    replace hR := hR1
    clear hR1
    refine W.widen (k := 1) (n := 6) (by omega) (by omega) ?_
    exact ry_i hX hR hr hw dX6_eventOf_30 hlocks
  · replace hw := if_f hw c4
    exact rw_throwW (lv := [(0, .ref (gS γ 7 0)), (1, .int a1)]) (text := "there is no such event, or it is not kept any more") hX hR hfl 1 136 338 140 (Option.some.inj hw).symm XN_fit1 XNS_fit gw_213 gw_15 (by decide +kernel) xa_1 xg_1 hl.1 hxt dX6_eventOf_11 dX6_eventOf_14 dX6_eventOf_15 dX6_eventOf_18 dX6_eventOf_21 (Nat.le_of_ble_eq_true rfl) (Nat.le_of_ble_eq_true rfl) ⟨(show (0 + 0) + 1 ≤ 1 by omega), (show (0 + 0) + 6 ≤ 6 by omega)⟩ hlocks ⟨by omega, by omega⟩
