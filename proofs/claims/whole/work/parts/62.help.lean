set_option maxHeartbeats 8000000 in
set_option maxRecDepth 100000 in
theorem L_plug (l : Launch) (hfl : l.stackTraces = false) (γ : GT) (ad : Nat → Nat → Nat) {fu : Nat} (a1 : Int32) (a2 : Int32) (a3 : Int32) (a4 : Int32) (a5 : Bool) (a6 : Int32) (a7 : Int32) (σ : St) (r : Except Nat Int32) (σ' : St) (hw : f7_plug fu a1 a2 a3 a4 a5 a6 a7 σ = some (r, σ')) (he : ∀ e, r = .error e → e = 1 ∨ e = 2 ∨ e = 3) : Met l yL_plug (Cond.codeWith yL_plug cL_plug 10 (some .int) [(0, 20, 23, 13), (0, 20, 27, 15), (0, 20, 31, 17)] :: GW) (rmo 85 37 6282) (va_Pc [.ref (gS γ 7 0), .int a1, .int a2, .int a3, .int a4, .int (b2i a5), .int a6, .int a7, .ref (gS γ 3000 0)] (RU γ ad σ)) (QL γ (hoi σ' r) (hk (fun e => if e = 1 then 1 else if e = 2 then 2 else if e = 3 then 3 else 0) r)) 37 6282 (gA γ) := by
  refine met_vx (vx_ofWH (cc := cL_plug) (maxL := 10) (ret := some .int) (hh := [(0, 20, 23, 13), (0, 20, 27, 15), (0, 20, 31, 17)]) (by decide) rfl ?_)
  intro p e s m args below meth c s₁ B hml hv
  obtain ⟨rfl, hU⟩ := hv
  obtain ⟨hX, hR, hxt⟩ := cx_ofH (own := RL) B hml rfl hU
  have hr := B.returns
  have hlocks := B.notSynchronized
  show W p l e (rmo 85 37 6282) s m ([.ref (gS γ 7 0), .int a1, .int a2, .int a3, .int a4, .int (b2i a5), .int a6, .int a7, .ref (gS γ 3000 0)] : List Value).toArray below meth c s.heap [] 0 0 (vx_MQ below (QL γ (hoi σ' r) (hk (fun e => if e = 1 then 1 else if e = 2 then 2 else if e = 3 then 3 else 0) r)) (fun _ _ _ => False) ([.ref (gS γ 7 0), .int a1, .int a2, .int a3, .int a4, .int (b2i a5), .int a6, .int a7, .ref (gS γ 3000 0)] : List Value).toArray s 37 6282 (gA γ)) (entryFrame m ([.ref (gS γ 7 0), .int a1, .int a2, .int a3, .int a4, .int (b2i a5), .int a6, .int a7, .ref (gS γ 3000 0)] : List Value).toArray 10)
  refine rw_entry (ca1 rfl (ca1 rfl (ca1 rfl (ca1 rfl (ca1 rfl (ca1 rfl (ca1 rfl (ca1 rfl (ca1 rfl ca0))))))))) (Nat.le_of_ble_eq_true rfl) (fun ls hl => ?_)
  refine rw_aload hX hl 8 rfl (Or.inr ⟨_, rfl⟩) dL_plug_0 ?_
  refine lv_iconst (v := 0) hX.1.1 hX.1.2.1 dL_plug_2 rfl ?_
  refine rw_aload_n hX hl 0 rfl (Or.inr ⟨_, rfl⟩) dL_plug_3 rfl ?_
  refine rw_iload_n hX hl 1 rfl dL_plug_4 rfl ?_
  refine rw_iload_n hX hl 2 rfl dL_plug_5 rfl ?_
  refine rw_iload_n hX hl 3 rfl dL_plug_6 rfl ?_
  refine rw_iload hX hl 4 rfl dL_plug_7 ?_
  refine rw_iload hX hl 5 rfl dL_plug_9 ?_
  refine rw_iload hX hl 6 rfl dL_plug_11 ?_
  refine rw_iload hX hl 7 rfl dL_plug_13 ?_
  refine rw_xVn hX hR pk_f7_plug (mc := 37) (ms := 6282) ⟨rfl, rfl, (show 84 + 1 ≤ 85 by omega), (show 8 + (12 + 11) + 64 * 84 ≤ 64 * 85 by omega)⟩ (As := [.int a1, .int a2, .int a3, .int a4, .int (b2i a5), .int a6, .int a7]) (rest := [.int 0, .ref (gS γ 3000 0)]) rfl (C_f7_plug l hfl γ ad a1 a2 a3 a4 a5 a6 a7 σ r σ' hw) gw_197 gw_198 gw_199 (rs_recv hX hR 7 0 (C := RX6) (T := TX6) (N := 11) rfl (by decide) (Nat.le_of_ble_eq_true rfl) rfl) rfl hl.1 (ca1 rfl (ca1 rfl ca0)) (Nat.le_of_ble_eq_true rfl) dL_plug_15 ⟨(show 0 + 37 ≤ 37 by omega), (show 0 + 6282 ≤ 6282 by omega)⟩ (fun x ce q9 H1 locs1 hx hR1 h1 h2 h3 => ?_) (fun v1 ad1 H1 locs1 hx hR1 => ?_)
  · subst hx
    rcases he x rfl with rfl | rfl | rfl
    · refine rw_catch (ex := 1) (pre := []) (x := (0, 20, 23, 13)) (suf := [(0, 20, 27, 15), (0, 20, 31, 17)]) hX hxt rfl (fun _ h => nomatch h) rfl (by decide) gw_194 nw_215 h1 h2 h3 ?_
      refine rw_astore (i := 9) hX hl (Nat.le_of_ble_eq_true rfl) rfl (Or.inr ⟨_, rfl⟩) dL_plug_23 (fun ls1 hl1 => ?_)
      refine lv_iconst (v := 1) hX.1.1 hX.1.2.1 dL_plug_25 rfl ?_
      refine W.widen (k := 37) (n := 6282) (by omega) (by omega) ?_
      exact rl_i hX hR1 hr rfl rfl dL_plug_26 hlocks
    · refine rw_catch (ex := 2) (pre := [(0, 20, 23, 13)]) (x := (0, 20, 27, 15)) (suf := [(0, 20, 31, 17)]) hX hxt rfl (List.forall_mem_cons.mpr ⟨⟨by decide, _, gw_194, hX.2.2.2.2.1.1⟩, fun _ h => nomatch h⟩) rfl (by decide) gw_195 nw_305 h1 h2 h3 ?_
      refine rw_astore (i := 9) hX hl (Nat.le_of_ble_eq_true rfl) rfl (Or.inr ⟨_, rfl⟩) dL_plug_27 (fun ls1 hl1 => ?_)
      refine lv_iconst (v := 2) hX.1.1 hX.1.2.1 dL_plug_29 rfl ?_
      refine W.widen (k := 37) (n := 6282) (by omega) (by omega) ?_
      exact rl_i hX hR1 hr rfl rfl dL_plug_30 hlocks
    · refine rw_catch (ex := 3) (pre := [(0, 20, 23, 13), (0, 20, 27, 15)]) (x := (0, 20, 31, 17)) (suf := []) hX hxt rfl (List.forall_mem_cons.mpr ⟨⟨by decide, _, gw_194, hX.2.2.2.2.1.2.1⟩, List.forall_mem_cons.mpr ⟨⟨by decide, _, gw_195, hX.2.2.2.2.1.2.2⟩, fun _ h => nomatch h⟩⟩) rfl (by decide) gw_196 nw_322 h1 h2 h3 ?_
      refine rw_astore (i := 9) hX hl (Nat.le_of_ble_eq_true rfl) rfl (Or.inr ⟨_, rfl⟩) dL_plug_31 (fun ls1 hl1 => ?_)
      refine lv_iconst (v := 3) hX.1.1 hX.1.2.1 dL_plug_33 rfl ?_
      refine W.widen (k := 37) (n := 6282) (by omega) (by omega) ?_
      exact rl_i hX hR1 hr rfl rfl dL_plug_34 hlocks
  subst hx
  refine lv_i2l hX.1.1 hX.1.2.1 dL_plug_18 rfl ?_
  refine rw_outst hX hR1 dL_plug_19 (fun H1 locs1 hR1 => ?_)
  refine lv_goto (tgt := 35) hX.1.1 hX.1.2.1 dL_plug_20 (by decide) ?_
  refine lv_iconst (v := 0) hX.1.1 hX.1.2.1 dL_plug_35 rfl ?_
  refine W.widen (k := 37) (n := 6282) (by omega) (by omega) ?_
  exact rl_i hX hR1 hr rfl rfl dL_plug_36 hlocks
set_option maxHeartbeats 8000000 in
set_option maxRecDepth 100000 in
theorem L_unplug (l : Launch) (hfl : l.stackTraces = false) (γ : GT) (ad : Nat → Nat → Nat) {fu : Nat} (a1 : Int32) (σ : St) (r : Except Nat Int32) (σ' : St) (hw : f7_unplug fu a1 σ = some (r, σ')) (he : ∀ e, r = .error e → e = 1 ∨ e = 3) : Met l yL_unplug (Cond.codeWith yL_unplug cL_unplug 4 (some .int) [(0, 9, 12, 13), (0, 9, 15, 17)] :: GW) (rmo 85 28 5992) (va_Pc [.ref (gS γ 7 0), .int a1, .ref (gS γ 3000 0)] (RU γ ad σ)) (QL γ (hoi σ' r) (hk (fun e => if e = 1 then 1 else if e = 3 then 2 else 0) r)) 28 5992 (gA γ) := by
  refine met_vx (vx_ofWH (cc := cL_unplug) (maxL := 4) (ret := some .int) (hh := [(0, 9, 12, 13), (0, 9, 15, 17)]) (by decide) rfl ?_)
  intro p e s m args below meth c s₁ B hml hv
  obtain ⟨rfl, hU⟩ := hv
  obtain ⟨hX, hR, hxt⟩ := cx_ofH (own := RL) B hml rfl hU
  have hr := B.returns
  have hlocks := B.notSynchronized
  show W p l e (rmo 85 28 5992) s m ([.ref (gS γ 7 0), .int a1, .ref (gS γ 3000 0)] : List Value).toArray below meth c s.heap [] 0 0 (vx_MQ below (QL γ (hoi σ' r) (hk (fun e => if e = 1 then 1 else if e = 3 then 2 else 0) r)) (fun _ _ _ => False) ([.ref (gS γ 7 0), .int a1, .ref (gS γ 3000 0)] : List Value).toArray s 28 5992 (gA γ)) (entryFrame m ([.ref (gS γ 7 0), .int a1, .ref (gS γ 3000 0)] : List Value).toArray 4)
  refine rw_entry (ca1 rfl (ca1 rfl (ca1 rfl ca0))) (Nat.le_of_ble_eq_true rfl) (fun ls hl => ?_)
  refine rw_aload_n hX hl 2 rfl (Or.inr ⟨_, rfl⟩) dL_unplug_0 rfl ?_
  refine lv_iconst (v := 0) hX.1.1 hX.1.2.1 dL_unplug_1 rfl ?_
  refine rw_aload_n hX hl 0 rfl (Or.inr ⟨_, rfl⟩) dL_unplug_2 rfl ?_
  refine rw_iload_n hX hl 1 rfl dL_unplug_3 rfl ?_
  refine rw_xVi hX hR pk_f7_unplug (mc := 28) (ms := 5992) ⟨rfl, rfl, (show 84 + 1 ≤ 85 by omega), (show 8 + (5 + 11) + 64 * 84 ≤ 64 * 85 by omega)⟩ (As := [.int a1]) (rest := [.int 0, .ref (gS γ 3000 0)]) rfl (C_f7_unplug l hfl γ ad a1 σ r σ' hw) gw_479 gw_480 gw_481 (rs_recv hX hR 7 0 (C := RX6) (T := TX6) (N := 11) rfl (by decide) (Nat.le_of_ble_eq_true rfl) rfl) rfl hl.1 (ca1 rfl (ca1 rfl ca0)) (Nat.le_of_ble_eq_true rfl) dL_unplug_4 ⟨(show 0 + 28 ≤ 28 by omega), (show 0 + 5992 ≤ 5992 by omega)⟩ (fun x ce q9 H1 locs1 hx hR1 h1 h2 h3 => ?_) (fun v1 H1 locs1 hx hR1 => ?_)
  · subst hx
    rcases he x rfl with rfl | rfl
    · refine rw_catch (ex := 1) (pre := []) (x := (0, 9, 12, 13)) (suf := [(0, 9, 15, 17)]) hX hxt rfl (fun _ h => nomatch h) rfl (by decide) gw_194 nw_215 h1 h2 h3 ?_
      refine rw_astore_n (i := 3) hX hl (Nat.le_of_ble_eq_true rfl) rfl (Or.inr ⟨_, rfl⟩) dL_unplug_12 rfl (fun ls1 hl1 => ?_)
      refine lv_iconst (v := 1) hX.1.1 hX.1.2.1 dL_unplug_13 rfl ?_
      refine W.widen (k := 28) (n := 5992) (by omega) (by omega) ?_
      exact rl_i hX hR1 hr rfl rfl dL_unplug_14 hlocks
    · refine rw_catch (ex := 3) (pre := [(0, 9, 12, 13)]) (x := (0, 9, 15, 17)) (suf := []) hX hxt rfl (List.forall_mem_cons.mpr ⟨⟨by decide, _, gw_194, hX.2.2.2.2.1.2.1⟩, fun _ h => nomatch h⟩) rfl (by decide) gw_196 nw_322 h1 h2 h3 ?_
      refine rw_astore_n (i := 3) hX hl (Nat.le_of_ble_eq_true rfl) rfl (Or.inr ⟨_, rfl⟩) dL_unplug_15 rfl (fun ls1 hl1 => ?_)
      refine lv_iconst (v := 2) hX.1.1 hX.1.2.1 dL_unplug_16 rfl ?_
      refine W.widen (k := 28) (n := 5992) (by omega) (by omega) ?_
      exact rl_i hX hR1 hr rfl rfl dL_unplug_17 hlocks
  subst hx
  refine lv_i2l hX.1.1 hX.1.2.1 dL_unplug_7 rfl ?_
  refine rw_outst hX hR1 dL_unplug_8 (fun H1 locs1 hR1 => ?_)
  refine lv_goto (tgt := 18) hX.1.1 hX.1.2.1 dL_unplug_9 (by decide) ?_
  refine lv_iconst (v := 0) hX.1.1 hX.1.2.1 dL_unplug_18 rfl ?_
  refine W.widen (k := 28) (n := 5992) (by omega) (by omega) ?_
  exact rl_i hX hR1 hr rfl rfl dL_unplug_19 hlocks
set_option maxHeartbeats 8000000 in
set_option maxRecDepth 100000 in
theorem L_driver (l : Launch) (hfl : l.stackTraces = false) (γ : GT) (ad : Nat → Nat → Nat) {fu : Nat} (a1 : Int32) (a2 : Int32) (a3 : Int32) (a4 : Bool) (σ : St) (r : Except Nat Int32) (σ' : St) (hw : f7_driver fu a1 a2 a3 a4 σ = some (r, σ')) (he : ∀ e, r = .error e → e = 2 ∨ e = 3) : Met l yL_driver (Cond.codeWith yL_driver cL_driver 7 (some .int) [(0, 14, 17, 15), (0, 14, 21, 17)] :: GW) (rmo 85 30 6228) (va_Pc [.ref (gS γ 7 0), .int a1, .int a2, .int a3, .int (b2i a4), .ref (gS γ 3000 0)] (RU γ ad σ)) (QL γ (hoi σ' r) (hk (fun e => if e = 2 then 1 else if e = 3 then 2 else 0) r)) 30 6228 (gA γ) := by
  refine met_vx (vx_ofWH (cc := cL_driver) (maxL := 7) (ret := some .int) (hh := [(0, 14, 17, 15), (0, 14, 21, 17)]) (by decide) rfl ?_)
  intro p e s m args below meth c s₁ B hml hv
  obtain ⟨rfl, hU⟩ := hv
  obtain ⟨hX, hR, hxt⟩ := cx_ofH (own := RL) B hml rfl hU
  have hr := B.returns
  have hlocks := B.notSynchronized
  show W p l e (rmo 85 30 6228) s m ([.ref (gS γ 7 0), .int a1, .int a2, .int a3, .int (b2i a4), .ref (gS γ 3000 0)] : List Value).toArray below meth c s.heap [] 0 0 (vx_MQ below (QL γ (hoi σ' r) (hk (fun e => if e = 2 then 1 else if e = 3 then 2 else 0) r)) (fun _ _ _ => False) ([.ref (gS γ 7 0), .int a1, .int a2, .int a3, .int (b2i a4), .ref (gS γ 3000 0)] : List Value).toArray s 30 6228 (gA γ)) (entryFrame m ([.ref (gS γ 7 0), .int a1, .int a2, .int a3, .int (b2i a4), .ref (gS γ 3000 0)] : List Value).toArray 7)
  refine rw_entry (ca1 rfl (ca1 rfl (ca1 rfl (ca1 rfl (ca1 rfl (ca1 rfl ca0)))))) (Nat.le_of_ble_eq_true rfl) (fun ls hl => ?_)
  refine rw_aload hX hl 5 rfl (Or.inr ⟨_, rfl⟩) dL_driver_0 ?_
  refine lv_iconst (v := 0) hX.1.1 hX.1.2.1 dL_driver_2 rfl ?_
  refine rw_aload_n hX hl 0 rfl (Or.inr ⟨_, rfl⟩) dL_driver_3 rfl ?_
  refine rw_iload_n hX hl 1 rfl dL_driver_4 rfl ?_
  refine rw_iload_n hX hl 2 rfl dL_driver_5 rfl ?_
  refine rw_iload_n hX hl 3 rfl dL_driver_6 rfl ?_
  refine rw_iload hX hl 4 rfl dL_driver_7 ?_
  refine rw_xVn hX hR pk_f7_driver (mc := 30) (ms := 6228) ⟨rfl, rfl, (show 84 + 1 ≤ 85 by omega), (show 8 + (6 + 11) + 64 * 84 ≤ 64 * 85 by omega)⟩ (As := [.int a1, .int a2, .int a3, .int (b2i a4)]) (rest := [.int 0, .ref (gS γ 3000 0)]) rfl (C_f7_driver l hfl γ ad a1 a2 a3 a4 σ r σ' hw) gw_530 gw_531 gw_532 (rs_recv hX hR 7 0 (C := RX6) (T := TX6) (N := 11) rfl (by decide) (Nat.le_of_ble_eq_true rfl) rfl) rfl hl.1 (ca1 rfl (ca1 rfl ca0)) (Nat.le_of_ble_eq_true rfl) dL_driver_9 ⟨(show 0 + 30 ≤ 30 by omega), (show 0 + 6228 ≤ 6228 by omega)⟩ (fun x ce q9 H1 locs1 hx hR1 h1 h2 h3 => ?_) (fun v1 ad1 H1 locs1 hx hR1 => ?_)
  · subst hx
    rcases he x rfl with rfl | rfl
    · refine rw_catch (ex := 2) (pre := []) (x := (0, 14, 17, 15)) (suf := [(0, 14, 21, 17)]) hX hxt rfl (fun _ h => nomatch h) rfl (by decide) gw_195 nw_305 h1 h2 h3 ?_
      refine rw_astore (i := 6) hX hl (Nat.le_of_ble_eq_true rfl) rfl (Or.inr ⟨_, rfl⟩) dL_driver_17 (fun ls1 hl1 => ?_)
      refine lv_iconst (v := 1) hX.1.1 hX.1.2.1 dL_driver_19 rfl ?_
      refine W.widen (k := 30) (n := 6228) (by omega) (by omega) ?_
      exact rl_i hX hR1 hr rfl rfl dL_driver_20 hlocks
    · refine rw_catch (ex := 3) (pre := [(0, 14, 17, 15)]) (x := (0, 14, 21, 17)) (suf := []) hX hxt rfl (List.forall_mem_cons.mpr ⟨⟨by decide, _, gw_195, hX.2.2.2.2.1.2.2⟩, fun _ h => nomatch h⟩) rfl (by decide) gw_196 nw_322 h1 h2 h3 ?_
      refine rw_astore (i := 6) hX hl (Nat.le_of_ble_eq_true rfl) rfl (Or.inr ⟨_, rfl⟩) dL_driver_21 (fun ls1 hl1 => ?_)
      refine lv_iconst (v := 2) hX.1.1 hX.1.2.1 dL_driver_23 rfl ?_
      refine W.widen (k := 30) (n := 6228) (by omega) (by omega) ?_
      exact rl_i hX hR1 hr rfl rfl dL_driver_24 hlocks
  subst hx
  refine lv_i2l hX.1.1 hX.1.2.1 dL_driver_12 rfl ?_
  refine rw_outst hX hR1 dL_driver_13 (fun H1 locs1 hR1 => ?_)
  refine lv_goto (tgt := 25) hX.1.1 hX.1.2.1 dL_driver_14 (by decide) ?_
  refine lv_iconst (v := 0) hX.1.1 hX.1.2.1 dL_driver_25 rfl ?_
  refine W.widen (k := 30) (n := 6228) (by omega) (by omega) ?_
  exact rl_i hX hR1 hr rfl rfl dL_driver_26 hlocks
set_option maxHeartbeats 8000000 in
set_option maxRecDepth 100000 in
theorem L_load (l : Launch) (hfl : l.stackTraces = false) (γ : GT) (ad : Nat → Nat → Nat) {fu : Nat} (a1 : Int32) (a2 : Int32) (σ : St) (r : Except Nat Int32) (σ' : St) (hw : f7_load fu a1 a2 σ = some (r, σ')) (he : ∀ e, r = .error e → e = 1 ∨ e = 2) : Met l yL_load (Cond.codeWith yL_load cL_load 5 (some .int) [(0, 10, 13, 13), (0, 10, 17, 15)] :: GW) (rmo 85 28 5992) (va_Pc [.ref (gS γ 7 0), .int a1, .int a2, .ref (gS γ 3000 0)] (RU γ ad σ)) (QL γ (hoi σ' r) (hk (fun e => if e = 1 then 1 else if e = 2 then 2 else 0) r)) 28 5992 (gA γ) := by
  refine met_vx (vx_ofWH (cc := cL_load) (maxL := 5) (ret := some .int) (hh := [(0, 10, 13, 13), (0, 10, 17, 15)]) (by decide) rfl ?_)
  intro p e s m args below meth c s₁ B hml hv
  obtain ⟨rfl, hU⟩ := hv
  obtain ⟨hX, hR, hxt⟩ := cx_ofH (own := RL) B hml rfl hU
  have hr := B.returns
  have hlocks := B.notSynchronized
  show W p l e (rmo 85 28 5992) s m ([.ref (gS γ 7 0), .int a1, .int a2, .ref (gS γ 3000 0)] : List Value).toArray below meth c s.heap [] 0 0 (vx_MQ below (QL γ (hoi σ' r) (hk (fun e => if e = 1 then 1 else if e = 2 then 2 else 0) r)) (fun _ _ _ => False) ([.ref (gS γ 7 0), .int a1, .int a2, .ref (gS γ 3000 0)] : List Value).toArray s 28 5992 (gA γ)) (entryFrame m ([.ref (gS γ 7 0), .int a1, .int a2, .ref (gS γ 3000 0)] : List Value).toArray 5)
  refine rw_entry (ca1 rfl (ca1 rfl (ca1 rfl (ca1 rfl ca0)))) (Nat.le_of_ble_eq_true rfl) (fun ls hl => ?_)
  refine rw_aload_n hX hl 3 rfl (Or.inr ⟨_, rfl⟩) dL_load_0 rfl ?_
  refine lv_iconst (v := 0) hX.1.1 hX.1.2.1 dL_load_1 rfl ?_
  refine rw_aload_n hX hl 0 rfl (Or.inr ⟨_, rfl⟩) dL_load_2 rfl ?_
  refine rw_iload_n hX hl 1 rfl dL_load_3 rfl ?_
  refine rw_iload_n hX hl 2 rfl dL_load_4 rfl ?_
  refine rw_xVi hX hR pk_f7_load (mc := 28) (ms := 5992) ⟨rfl, rfl, (show 84 + 1 ≤ 85 by omega), (show 8 + (5 + 11) + 64 * 84 ≤ 64 * 85 by omega)⟩ (As := [.int a1, .int a2]) (rest := [.int 0, .ref (gS γ 3000 0)]) rfl (C_f7_load l hfl γ ad a1 a2 σ r σ' hw) gw_566 gw_567 gw_568 (rs_recv hX hR 7 0 (C := RX6) (T := TX6) (N := 11) rfl (by decide) (Nat.le_of_ble_eq_true rfl) rfl) rfl hl.1 (ca1 rfl (ca1 rfl ca0)) (Nat.le_of_ble_eq_true rfl) dL_load_5 ⟨(show 0 + 28 ≤ 28 by omega), (show 0 + 5992 ≤ 5992 by omega)⟩ (fun x ce q9 H1 locs1 hx hR1 h1 h2 h3 => ?_) (fun v1 H1 locs1 hx hR1 => ?_)
  · subst hx
    rcases he x rfl with rfl | rfl
    · refine rw_catch (ex := 1) (pre := []) (x := (0, 10, 13, 13)) (suf := [(0, 10, 17, 15)]) hX hxt rfl (fun _ h => nomatch h) rfl (by decide) gw_194 nw_215 h1 h2 h3 ?_
      refine rw_astore (i := 4) hX hl (Nat.le_of_ble_eq_true rfl) rfl (Or.inr ⟨_, rfl⟩) dL_load_13 (fun ls1 hl1 => ?_)
      refine lv_iconst (v := 1) hX.1.1 hX.1.2.1 dL_load_15 rfl ?_
      refine W.widen (k := 28) (n := 5992) (by omega) (by omega) ?_
      exact rl_i hX hR1 hr rfl rfl dL_load_16 hlocks
    · refine rw_catch (ex := 2) (pre := [(0, 10, 13, 13)]) (x := (0, 10, 17, 15)) (suf := []) hX hxt rfl (List.forall_mem_cons.mpr ⟨⟨by decide, _, gw_194, hX.2.2.2.2.1.1⟩, fun _ h => nomatch h⟩) rfl (by decide) gw_195 nw_305 h1 h2 h3 ?_
      refine rw_astore (i := 4) hX hl (Nat.le_of_ble_eq_true rfl) rfl (Or.inr ⟨_, rfl⟩) dL_load_17 (fun ls1 hl1 => ?_)
      refine lv_iconst (v := 2) hX.1.1 hX.1.2.1 dL_load_19 rfl ?_
      refine W.widen (k := 28) (n := 5992) (by omega) (by omega) ?_
      exact rl_i hX hR1 hr rfl rfl dL_load_20 hlocks
  subst hx
  refine lv_i2l hX.1.1 hX.1.2.1 dL_load_8 rfl ?_
  refine rw_outst hX hR1 dL_load_9 (fun H1 locs1 hR1 => ?_)
  refine lv_goto (tgt := 21) hX.1.1 hX.1.2.1 dL_load_10 (by decide) ?_
  refine lv_iconst (v := 0) hX.1.1 hX.1.2.1 dL_load_21 rfl ?_
  refine W.widen (k := 28) (n := 5992) (by omega) (by omega) ?_
  exact rl_i hX hR1 hr rfl rfl dL_load_22 hlocks
set_option maxHeartbeats 8000000 in
set_option maxRecDepth 100000 in
theorem L_unbind (l : Launch) (hfl : l.stackTraces = false) (γ : GT) (ad : Nat → Nat → Nat) {fu : Nat} (a1 : Int32) (σ : St) (r : Except Nat Int32) (σ' : St) (hw : f7_unbind fu a1 σ = some (r, σ')) (he : ∀ e, r = .error e → e = 1 ∨ e = 3) : Met l yL_unbind (Cond.codeWith yL_unbind cL_unbind 4 (some .int) [(0, 9, 12, 13), (0, 9, 15, 17)] :: GW) (rmo 85 28 5992) (va_Pc [.ref (gS γ 7 0), .int a1, .ref (gS γ 3000 0)] (RU γ ad σ)) (QL γ (hoi σ' r) (hk (fun e => if e = 1 then 1 else if e = 3 then 2 else 0) r)) 28 5992 (gA γ) := by
  refine met_vx (vx_ofWH (cc := cL_unbind) (maxL := 4) (ret := some .int) (hh := [(0, 9, 12, 13), (0, 9, 15, 17)]) (by decide) rfl ?_)
  intro p e s m args below meth c s₁ B hml hv
  obtain ⟨rfl, hU⟩ := hv
  obtain ⟨hX, hR, hxt⟩ := cx_ofH (own := RL) B hml rfl hU
  have hr := B.returns
  have hlocks := B.notSynchronized
  show W p l e (rmo 85 28 5992) s m ([.ref (gS γ 7 0), .int a1, .ref (gS γ 3000 0)] : List Value).toArray below meth c s.heap [] 0 0 (vx_MQ below (QL γ (hoi σ' r) (hk (fun e => if e = 1 then 1 else if e = 3 then 2 else 0) r)) (fun _ _ _ => False) ([.ref (gS γ 7 0), .int a1, .ref (gS γ 3000 0)] : List Value).toArray s 28 5992 (gA γ)) (entryFrame m ([.ref (gS γ 7 0), .int a1, .ref (gS γ 3000 0)] : List Value).toArray 4)
  refine rw_entry (ca1 rfl (ca1 rfl (ca1 rfl ca0))) (Nat.le_of_ble_eq_true rfl) (fun ls hl => ?_)
  refine rw_aload_n hX hl 2 rfl (Or.inr ⟨_, rfl⟩) dL_unbind_0 rfl ?_
  refine lv_iconst (v := 0) hX.1.1 hX.1.2.1 dL_unbind_1 rfl ?_
  refine rw_aload_n hX hl 0 rfl (Or.inr ⟨_, rfl⟩) dL_unbind_2 rfl ?_
  refine rw_iload_n hX hl 1 rfl dL_unbind_3 rfl ?_
  refine rw_xVi hX hR pk_f7_unbind (mc := 28) (ms := 5992) ⟨rfl, rfl, (show 84 + 1 ≤ 85 by omega), (show 8 + (4 + 11) + 64 * 84 ≤ 64 * 85 by omega)⟩ (As := [.int a1]) (rest := [.int 0, .ref (gS γ 3000 0)]) rfl (C_f7_unbind l hfl γ ad a1 σ r σ' hw) gw_575 gw_576 gw_577 (rs_recv hX hR 7 0 (C := RX6) (T := TX6) (N := 11) rfl (by decide) (Nat.le_of_ble_eq_true rfl) rfl) rfl hl.1 (ca1 rfl (ca1 rfl ca0)) (Nat.le_of_ble_eq_true rfl) dL_unbind_4 ⟨(show 0 + 28 ≤ 28 by omega), (show 0 + 5992 ≤ 5992 by omega)⟩ (fun x ce q9 H1 locs1 hx hR1 h1 h2 h3 => ?_) (fun v1 H1 locs1 hx hR1 => ?_)
  · subst hx
    rcases he x rfl with rfl | rfl
    · refine rw_catch (ex := 1) (pre := []) (x := (0, 9, 12, 13)) (suf := [(0, 9, 15, 17)]) hX hxt rfl (fun _ h => nomatch h) rfl (by decide) gw_194 nw_215 h1 h2 h3 ?_
      refine rw_astore_n (i := 3) hX hl (Nat.le_of_ble_eq_true rfl) rfl (Or.inr ⟨_, rfl⟩) dL_unbind_12 rfl (fun ls1 hl1 => ?_)
      refine lv_iconst (v := 1) hX.1.1 hX.1.2.1 dL_unbind_13 rfl ?_
      refine W.widen (k := 28) (n := 5992) (by omega) (by omega) ?_
      exact rl_i hX hR1 hr rfl rfl dL_unbind_14 hlocks
    · refine rw_catch (ex := 3) (pre := [(0, 9, 12, 13)]) (x := (0, 9, 15, 17)) (suf := []) hX hxt rfl (List.forall_mem_cons.mpr ⟨⟨by decide, _, gw_194, hX.2.2.2.2.1.2.1⟩, fun _ h => nomatch h⟩) rfl (by decide) gw_196 nw_322 h1 h2 h3 ?_
      refine rw_astore_n (i := 3) hX hl (Nat.le_of_ble_eq_true rfl) rfl (Or.inr ⟨_, rfl⟩) dL_unbind_15 rfl (fun ls1 hl1 => ?_)
      refine lv_iconst (v := 2) hX.1.1 hX.1.2.1 dL_unbind_16 rfl ?_
      refine W.widen (k := 28) (n := 5992) (by omega) (by omega) ?_
      exact rl_i hX hR1 hr rfl rfl dL_unbind_17 hlocks
  subst hx
  refine lv_i2l hX.1.1 hX.1.2.1 dL_unbind_7 rfl ?_
  refine rw_outst hX hR1 dL_unbind_8 (fun H1 locs1 hR1 => ?_)
  refine lv_goto (tgt := 18) hX.1.1 hX.1.2.1 dL_unbind_9 (by decide) ?_
  refine lv_iconst (v := 0) hX.1.1 hX.1.2.1 dL_unbind_18 rfl ?_
  refine W.widen (k := 28) (n := 5992) (by omega) (by omega) ?_
  exact rl_i hX hR1 hr rfl rfl dL_unbind_19 hlocks
set_option maxHeartbeats 8000000 in
set_option maxRecDepth 100000 in
theorem L_bind (l : Launch) (hfl : l.stackTraces = false) (γ : GT) (ad : Nat → Nat → Nat) {fu : Nat} (a1 : Int32) (σ : St) (r : Except Nat Int32) (σ' : St) (hw : f7_bind fu a1 σ = some (r, σ')) (he : ∀ e, r = .error e → e = 1 ∨ e = 3) : Met l yL_bind (Cond.codeWith yL_bind cL_bind 4 (some .int) [(0, 9, 12, 13), (0, 9, 15, 17)] :: GW) (rmo 85 28 5992) (va_Pc [.ref (gS γ 7 0), .int a1, .ref (gS γ 3000 0)] (RU γ ad σ)) (QL γ (hoi σ' r) (hk (fun e => if e = 1 then 1 else if e = 3 then 2 else 0) r)) 28 5992 (gA γ) := by
  refine met_vx (vx_ofWH (cc := cL_bind) (maxL := 4) (ret := some .int) (hh := [(0, 9, 12, 13), (0, 9, 15, 17)]) (by decide) rfl ?_)
  intro p e s m args below meth c s₁ B hml hv
  obtain ⟨rfl, hU⟩ := hv
  obtain ⟨hX, hR, hxt⟩ := cx_ofH (own := RL) B hml rfl hU
  have hr := B.returns
  have hlocks := B.notSynchronized
  show W p l e (rmo 85 28 5992) s m ([.ref (gS γ 7 0), .int a1, .ref (gS γ 3000 0)] : List Value).toArray below meth c s.heap [] 0 0 (vx_MQ below (QL γ (hoi σ' r) (hk (fun e => if e = 1 then 1 else if e = 3 then 2 else 0) r)) (fun _ _ _ => False) ([.ref (gS γ 7 0), .int a1, .ref (gS γ 3000 0)] : List Value).toArray s 28 5992 (gA γ)) (entryFrame m ([.ref (gS γ 7 0), .int a1, .ref (gS γ 3000 0)] : List Value).toArray 4)
  refine rw_entry (ca1 rfl (ca1 rfl (ca1 rfl ca0))) (Nat.le_of_ble_eq_true rfl) (fun ls hl => ?_)
  refine rw_aload_n hX hl 2 rfl (Or.inr ⟨_, rfl⟩) dL_bind_0 rfl ?_
  refine lv_iconst (v := 0) hX.1.1 hX.1.2.1 dL_bind_1 rfl ?_
  refine rw_aload_n hX hl 0 rfl (Or.inr ⟨_, rfl⟩) dL_bind_2 rfl ?_
  refine rw_iload_n hX hl 1 rfl dL_bind_3 rfl ?_
  refine rw_xVi hX hR pk_f7_bind (mc := 28) (ms := 5992) ⟨rfl, rfl, (show 84 + 1 ≤ 85 by omega), (show 8 + (3 + 11) + 64 * 84 ≤ 64 * 85 by omega)⟩ (As := [.int a1]) (rest := [.int 0, .ref (gS γ 3000 0)]) rfl (C_f7_bind l hfl γ ad a1 σ r σ' hw) gw_583 gw_584 gw_585 (rs_recv hX hR 7 0 (C := RX6) (T := TX6) (N := 11) rfl (by decide) (Nat.le_of_ble_eq_true rfl) rfl) rfl hl.1 (ca1 rfl (ca1 rfl ca0)) (Nat.le_of_ble_eq_true rfl) dL_bind_4 ⟨(show 0 + 28 ≤ 28 by omega), (show 0 + 5992 ≤ 5992 by omega)⟩ (fun x ce q9 H1 locs1 hx hR1 h1 h2 h3 => ?_) (fun v1 H1 locs1 hx hR1 => ?_)
  · subst hx
    rcases he x rfl with rfl | rfl
    · refine rw_catch (ex := 1) (pre := []) (x := (0, 9, 12, 13)) (suf := [(0, 9, 15, 17)]) hX hxt rfl (fun _ h => nomatch h) rfl (by decide) gw_194 nw_215 h1 h2 h3 ?_
      refine rw_astore_n (i := 3) hX hl (Nat.le_of_ble_eq_true rfl) rfl (Or.inr ⟨_, rfl⟩) dL_bind_12 rfl (fun ls1 hl1 => ?_)
      refine lv_iconst (v := 1) hX.1.1 hX.1.2.1 dL_bind_13 rfl ?_
      refine W.widen (k := 28) (n := 5992) (by omega) (by omega) ?_
      exact rl_i hX hR1 hr rfl rfl dL_bind_14 hlocks
    · refine rw_catch (ex := 3) (pre := [(0, 9, 12, 13)]) (x := (0, 9, 15, 17)) (suf := []) hX hxt rfl (List.forall_mem_cons.mpr ⟨⟨by decide, _, gw_194, hX.2.2.2.2.1.2.1⟩, fun _ h => nomatch h⟩) rfl (by decide) gw_196 nw_322 h1 h2 h3 ?_
      refine rw_astore_n (i := 3) hX hl (Nat.le_of_ble_eq_true rfl) rfl (Or.inr ⟨_, rfl⟩) dL_bind_15 rfl (fun ls1 hl1 => ?_)
      refine lv_iconst (v := 2) hX.1.1 hX.1.2.1 dL_bind_16 rfl ?_
      refine W.widen (k := 28) (n := 5992) (by omega) (by omega) ?_
      exact rl_i hX hR1 hr rfl rfl dL_bind_17 hlocks
  subst hx
  refine lv_i2l hX.1.1 hX.1.2.1 dL_bind_7 rfl ?_
  refine rw_outst hX hR1 dL_bind_8 (fun H1 locs1 hR1 => ?_)
  refine lv_goto (tgt := 18) hX.1.1 hX.1.2.1 dL_bind_9 (by decide) ?_
  refine lv_iconst (v := 0) hX.1.1 hX.1.2.1 dL_bind_18 rfl ?_
  refine W.widen (k := 28) (n := 5992) (by omega) (by omega) ?_
  exact rl_i hX hR1 hr rfl rfl dL_bind_19 hlocks
set_option maxHeartbeats 8000000 in
set_option maxRecDepth 100000 in
theorem L_reset (l : Launch) (hfl : l.stackTraces = false) (γ : GT) (ad : Nat → Nat → Nat) {fu : Nat} (a1 : Int32) (σ : St) (r : Except Nat Int32) (σ' : St) (hw : f7_reset fu a1 σ = some (r, σ')) (he : ∀ e, r = .error e → e = 1 ∨ e = 3) : Met l yL_reset (Cond.codeWith yL_reset cL_reset 4 (some .int) [(0, 9, 12, 13), (0, 9, 15, 17)] :: GW) (rmo 17 2 12) (va_Pc [.ref (gS γ 7 0), .int a1, .ref (gS γ 3000 0)] (RU γ ad σ)) (QL γ (hoi σ' r) (hk (fun e => if e = 1 then 1 else if e = 3 then 2 else 0) r)) 2 12 (gA γ) := by
  refine met_vx (vx_ofWH (cc := cL_reset) (maxL := 4) (ret := some .int) (hh := [(0, 9, 12, 13), (0, 9, 15, 17)]) (by decide) rfl ?_)
  intro p e s m args below meth c s₁ B hml hv
  obtain ⟨rfl, hU⟩ := hv
  obtain ⟨hX, hR, hxt⟩ := cx_ofH (own := RL) B hml rfl hU
  have hr := B.returns
  have hlocks := B.notSynchronized
  show W p l e (rmo 17 2 12) s m ([.ref (gS γ 7 0), .int a1, .ref (gS γ 3000 0)] : List Value).toArray below meth c s.heap [] 0 0 (vx_MQ below (QL γ (hoi σ' r) (hk (fun e => if e = 1 then 1 else if e = 3 then 2 else 0) r)) (fun _ _ _ => False) ([.ref (gS γ 7 0), .int a1, .ref (gS γ 3000 0)] : List Value).toArray s 2 12 (gA γ)) (entryFrame m ([.ref (gS γ 7 0), .int a1, .ref (gS γ 3000 0)] : List Value).toArray 4)
  refine rw_entry (ca1 rfl (ca1 rfl (ca1 rfl ca0))) (Nat.le_of_ble_eq_true rfl) (fun ls hl => ?_)
  refine rw_aload_n hX hl 2 rfl (Or.inr ⟨_, rfl⟩) dL_reset_0 rfl ?_
  refine lv_iconst (v := 0) hX.1.1 hX.1.2.1 dL_reset_1 rfl ?_
  refine rw_aload_n hX hl 0 rfl (Or.inr ⟨_, rfl⟩) dL_reset_2 rfl ?_
  refine rw_iload_n hX hl 1 rfl dL_reset_3 rfl ?_
  refine rw_xVi hX hR pk_f7_reset (mc := 2) (ms := 12) ⟨rfl, rfl, (show 16 + 1 ≤ 17 by omega), (show 8 + (4 + 11) + 64 * 16 ≤ 64 * 17 by omega)⟩ (As := [.int a1]) (rest := [.int 0, .ref (gS γ 3000 0)]) rfl (C_f7_reset l hfl γ ad a1 σ r σ' hw) gw_591 gw_592 gw_593 (rs_recv hX hR 7 0 (C := RX6) (T := TX6) (N := 11) rfl (by decide) (Nat.le_of_ble_eq_true rfl) rfl) rfl hl.1 (ca1 rfl (ca1 rfl ca0)) (Nat.le_of_ble_eq_true rfl) dL_reset_4 ⟨(show 0 + 2 ≤ 2 by omega), (show 0 + 12 ≤ 12 by omega)⟩ (fun x ce q9 H1 locs1 hx hR1 h1 h2 h3 => ?_) (fun v1 H1 locs1 hx hR1 => ?_)
  · subst hx
    rcases he x rfl with rfl | rfl
    · refine rw_catch (ex := 1) (pre := []) (x := (0, 9, 12, 13)) (suf := [(0, 9, 15, 17)]) hX hxt rfl (fun _ h => nomatch h) rfl (by decide) gw_194 nw_215 h1 h2 h3 ?_
      refine rw_astore_n (i := 3) hX hl (Nat.le_of_ble_eq_true rfl) rfl (Or.inr ⟨_, rfl⟩) dL_reset_12 rfl (fun ls1 hl1 => ?_)
      refine lv_iconst (v := 1) hX.1.1 hX.1.2.1 dL_reset_13 rfl ?_
      refine W.widen (k := 2) (n := 12) (by omega) (by omega) ?_
      exact rl_i hX hR1 hr rfl rfl dL_reset_14 hlocks
    · refine rw_catch (ex := 3) (pre := [(0, 9, 12, 13)]) (x := (0, 9, 15, 17)) (suf := []) hX hxt rfl (List.forall_mem_cons.mpr ⟨⟨by decide, _, gw_194, hX.2.2.2.2.1.2.1⟩, fun _ h => nomatch h⟩) rfl (by decide) gw_196 nw_322 h1 h2 h3 ?_
      refine rw_astore_n (i := 3) hX hl (Nat.le_of_ble_eq_true rfl) rfl (Or.inr ⟨_, rfl⟩) dL_reset_15 rfl (fun ls1 hl1 => ?_)
      refine lv_iconst (v := 2) hX.1.1 hX.1.2.1 dL_reset_16 rfl ?_
      refine W.widen (k := 2) (n := 12) (by omega) (by omega) ?_
      exact rl_i hX hR1 hr rfl rfl dL_reset_17 hlocks
  subst hx
  refine lv_i2l hX.1.1 hX.1.2.1 dL_reset_7 rfl ?_
  refine rw_outst hX hR1 dL_reset_8 (fun H1 locs1 hR1 => ?_)
  refine lv_goto (tgt := 18) hX.1.1 hX.1.2.1 dL_reset_9 (by decide) ?_
  refine lv_iconst (v := 0) hX.1.1 hX.1.2.1 dL_reset_18 rfl ?_
  refine W.widen (k := 2) (n := 12) (by omega) (by omega) ?_
  exact rl_i hX hR1 hr rfl rfl dL_reset_19 hlocks
set_option maxHeartbeats 8000000 in
set_option maxRecDepth 100000 in
theorem L_open (l : Launch) (hfl : l.stackTraces = false) (γ : GT) (ad : Nat → Nat → Nat) {fu : Nat} (a1 : Int32) (σ : St) (r : Except Nat Int32) (σ' : St) (hw : f7_open fu a1 σ = some (r, σ')) (he : ∀ e, r = .error e → e = 1 ∨ e = 3) : Met l yL_open (Cond.codeWith yL_open cL_open 4 (some .int) [(0, 9, 12, 13), (0, 9, 15, 17)] :: GW) (rmo 17 4 245) (va_Pc [.ref (gS γ 7 0), .int a1, .ref (gS γ 3000 0)] (RU γ ad σ)) (QL γ (hoi σ' r) (hk (fun e => if e = 1 then 1 else if e = 3 then 2 else 0) r)) 4 245 (gA γ) := by
  refine met_vx (vx_ofWH (cc := cL_open) (maxL := 4) (ret := some .int) (hh := [(0, 9, 12, 13), (0, 9, 15, 17)]) (by decide) rfl ?_)
  intro p e s m args below meth c s₁ B hml hv
  obtain ⟨rfl, hU⟩ := hv
  obtain ⟨hX, hR, hxt⟩ := cx_ofH (own := RL) B hml rfl hU
  have hr := B.returns
  have hlocks := B.notSynchronized
  show W p l e (rmo 17 4 245) s m ([.ref (gS γ 7 0), .int a1, .ref (gS γ 3000 0)] : List Value).toArray below meth c s.heap [] 0 0 (vx_MQ below (QL γ (hoi σ' r) (hk (fun e => if e = 1 then 1 else if e = 3 then 2 else 0) r)) (fun _ _ _ => False) ([.ref (gS γ 7 0), .int a1, .ref (gS γ 3000 0)] : List Value).toArray s 4 245 (gA γ)) (entryFrame m ([.ref (gS γ 7 0), .int a1, .ref (gS γ 3000 0)] : List Value).toArray 4)
  refine rw_entry (ca1 rfl (ca1 rfl (ca1 rfl ca0))) (Nat.le_of_ble_eq_true rfl) (fun ls hl => ?_)
  refine rw_aload_n hX hl 2 rfl (Or.inr ⟨_, rfl⟩) dL_open_0 rfl ?_
  refine lv_iconst (v := 0) hX.1.1 hX.1.2.1 dL_open_1 rfl ?_
  refine rw_aload_n hX hl 0 rfl (Or.inr ⟨_, rfl⟩) dL_open_2 rfl ?_
  refine rw_iload_n hX hl 1 rfl dL_open_3 rfl ?_
  refine rw_xVn hX hR pk_f7_open (mc := 4) (ms := 245) ⟨rfl, rfl, (show 16 + 1 ≤ 17 by omega), (show 8 + (4 + 11) + 64 * 16 ≤ 64 * 17 by omega)⟩ (As := [.int a1]) (rest := [.int 0, .ref (gS γ 3000 0)]) rfl (C_f7_open l hfl γ ad a1 σ r σ' hw) gw_599 gw_600 gw_601 (rs_recv hX hR 7 0 (C := RX6) (T := TX6) (N := 11) rfl (by decide) (Nat.le_of_ble_eq_true rfl) rfl) rfl hl.1 (ca1 rfl (ca1 rfl ca0)) (Nat.le_of_ble_eq_true rfl) dL_open_4 ⟨(show 0 + 4 ≤ 4 by omega), (show 0 + 245 ≤ 245 by omega)⟩ (fun x ce q9 H1 locs1 hx hR1 h1 h2 h3 => ?_) (fun v1 ad1 H1 locs1 hx hR1 => ?_)
  · subst hx
    rcases he x rfl with rfl | rfl
    · refine rw_catch (ex := 1) (pre := []) (x := (0, 9, 12, 13)) (suf := [(0, 9, 15, 17)]) hX hxt rfl (fun _ h => nomatch h) rfl (by decide) gw_194 nw_215 h1 h2 h3 ?_
      refine rw_astore_n (i := 3) hX hl (Nat.le_of_ble_eq_true rfl) rfl (Or.inr ⟨_, rfl⟩) dL_open_12 rfl (fun ls1 hl1 => ?_)
      refine lv_iconst (v := 1) hX.1.1 hX.1.2.1 dL_open_13 rfl ?_
      refine W.widen (k := 4) (n := 245) (by omega) (by omega) ?_
      exact rl_i hX hR1 hr rfl rfl dL_open_14 hlocks
    · refine rw_catch (ex := 3) (pre := [(0, 9, 12, 13)]) (x := (0, 9, 15, 17)) (suf := []) hX hxt rfl (List.forall_mem_cons.mpr ⟨⟨by decide, _, gw_194, hX.2.2.2.2.1.2.1⟩, fun _ h => nomatch h⟩) rfl (by decide) gw_196 nw_322 h1 h2 h3 ?_
      refine rw_astore_n (i := 3) hX hl (Nat.le_of_ble_eq_true rfl) rfl (Or.inr ⟨_, rfl⟩) dL_open_15 rfl (fun ls1 hl1 => ?_)
      refine lv_iconst (v := 2) hX.1.1 hX.1.2.1 dL_open_16 rfl ?_
      refine W.widen (k := 4) (n := 245) (by omega) (by omega) ?_
      exact rl_i hX hR1 hr rfl rfl dL_open_17 hlocks
  subst hx
  refine lv_i2l hX.1.1 hX.1.2.1 dL_open_7 rfl ?_
  refine rw_outst hX hR1 dL_open_8 (fun H1 locs1 hR1 => ?_)
  refine lv_goto (tgt := 18) hX.1.1 hX.1.2.1 dL_open_9 (by decide) ?_
  refine lv_iconst (v := 0) hX.1.1 hX.1.2.1 dL_open_18 rfl ?_
  refine W.widen (k := 4) (n := 245) (by omega) (by omega) ?_
  exact rl_i hX hR1 hr rfl rfl dL_open_19 hlocks
set_option maxHeartbeats 8000000 in
set_option maxRecDepth 100000 in
theorem L_close (l : Launch) (hfl : l.stackTraces = false) (γ : GT) (ad : Nat → Nat → Nat) {fu : Nat} (a1 : Int32) (σ : St) (r : Except Nat Bool) (σ' : St) (hw : f7_close fu a1 σ = some (r, σ')) (he : ∀ e, r = .error e → e = 1 ∨ e = 3) : Met l yL_close (Cond.codeWith yL_close cL_close 4 (some .int) [(0, 16, 19, 13), (0, 16, 22, 17)] :: GW) (rmo 17 2 12) (va_Pc [.ref (gS γ 7 0), .int a1, .ref (gS γ 3000 0)] (RU γ ad σ)) (QL γ (hoz σ' r) (hk (fun e => if e = 1 then 1 else if e = 3 then 2 else 0) r)) 2 12 (gA γ) := by
  refine met_vx (vx_ofWH (cc := cL_close) (maxL := 4) (ret := some .int) (hh := [(0, 16, 19, 13), (0, 16, 22, 17)]) (by decide) rfl ?_)
  intro p e s m args below meth c s₁ B hml hv
  obtain ⟨rfl, hU⟩ := hv
  obtain ⟨hX, hR, hxt⟩ := cx_ofH (own := RL) B hml rfl hU
  have hr := B.returns
  have hlocks := B.notSynchronized
  show W p l e (rmo 17 2 12) s m ([.ref (gS γ 7 0), .int a1, .ref (gS γ 3000 0)] : List Value).toArray below meth c s.heap [] 0 0 (vx_MQ below (QL γ (hoz σ' r) (hk (fun e => if e = 1 then 1 else if e = 3 then 2 else 0) r)) (fun _ _ _ => False) ([.ref (gS γ 7 0), .int a1, .ref (gS γ 3000 0)] : List Value).toArray s 2 12 (gA γ)) (entryFrame m ([.ref (gS γ 7 0), .int a1, .ref (gS γ 3000 0)] : List Value).toArray 4)
  refine rw_entry (ca1 rfl (ca1 rfl (ca1 rfl ca0))) (Nat.le_of_ble_eq_true rfl) (fun ls hl => ?_)
  refine rw_aload_n hX hl 2 rfl (Or.inr ⟨_, rfl⟩) dL_close_0 rfl ?_
  refine lv_iconst (v := 0) hX.1.1 hX.1.2.1 dL_close_1 rfl ?_
  refine rw_aload_n hX hl 0 rfl (Or.inr ⟨_, rfl⟩) dL_close_2 rfl ?_
  refine rw_iload_n hX hl 1 rfl dL_close_3 rfl ?_
  refine rw_xVz hX hR pk_f7_close (mc := 2) (ms := 12) ⟨rfl, rfl, (show 16 + 1 ≤ 17 by omega), (show 8 + (5 + 11) + 64 * 16 ≤ 64 * 17 by omega)⟩ (As := [.int a1]) (rest := [.int 0, .ref (gS γ 3000 0)]) rfl (C_f7_close l hfl γ ad a1 σ r σ' hw) gw_625 gw_626 gw_627 (rs_recv hX hR 7 0 (C := RX6) (T := TX6) (N := 11) rfl (by decide) (Nat.le_of_ble_eq_true rfl) rfl) rfl hl.1 (ca1 rfl (ca1 rfl ca0)) (Nat.le_of_ble_eq_true rfl) dL_close_4 ⟨(show 0 + 2 ≤ 2 by omega), (show 0 + 12 ≤ 12 by omega)⟩ (fun x ce q9 H1 locs1 hx hR1 h1 h2 h3 => ?_) (fun v1 H1 locs1 hx hR1 => ?_)
  · subst hx
    rcases he x rfl with rfl | rfl
    · refine rw_catch (ex := 1) (pre := []) (x := (0, 16, 19, 13)) (suf := [(0, 16, 22, 17)]) hX hxt rfl (fun _ h => nomatch h) rfl (by decide) gw_194 nw_215 h1 h2 h3 ?_
      refine rw_astore_n (i := 3) hX hl (Nat.le_of_ble_eq_true rfl) rfl (Or.inr ⟨_, rfl⟩) dL_close_19 rfl (fun ls1 hl1 => ?_)
      refine lv_iconst (v := 1) hX.1.1 hX.1.2.1 dL_close_20 rfl ?_
      refine W.widen (k := 2) (n := 12) (by omega) (by omega) ?_
      exact rl_i hX hR1 hr rfl rfl dL_close_21 hlocks
    · refine rw_catch (ex := 3) (pre := [(0, 16, 19, 13)]) (x := (0, 16, 22, 17)) (suf := []) hX hxt rfl (List.forall_mem_cons.mpr ⟨⟨by decide, _, gw_194, hX.2.2.2.2.1.2.1⟩, fun _ h => nomatch h⟩) rfl (by decide) gw_196 nw_322 h1 h2 h3 ?_
      refine rw_astore_n (i := 3) hX hl (Nat.le_of_ble_eq_true rfl) rfl (Or.inr ⟨_, rfl⟩) dL_close_22 rfl (fun ls1 hl1 => ?_)
      refine lv_iconst (v := 2) hX.1.1 hX.1.2.1 dL_close_23 rfl ?_
      refine W.widen (k := 2) (n := 12) (by omega) (by omega) ?_
      exact rl_i hX hR1 hr rfl rfl dL_close_24 hlocks
  subst hx
  refine rw_ifeqZ (b := v1) (tgt := 14) hX dL_close_7 (by decide) (fun c0 => ?_) (fun c0 => ?_)
  · skip
    refine lv_lconst (v := 0) hX.1.1 hX.1.2.1 dL_close_14 rfl ?_
    refine rw_outst hX hR1 dL_close_15 (fun H1 locs1 hR1 => ?_)
    refine lv_goto (tgt := 25) hX.1.1 hX.1.2.1 dL_close_16 (by decide) ?_
    refine lv_iconst (v := 0) hX.1.1 hX.1.2.1 dL_close_25 rfl ?_
    refine W.widen (k := 2) (n := 12) (by omega) (by omega) ?_
    exact rl_i hX hR1 hr rfl (by simp [hoz, c0]) dL_close_26 hlocks
  · skip
    refine lv_lconst (v := 1) hX.1.1 hX.1.2.1 dL_close_10 rfl ?_
    refine lv_goto (tgt := 15) hX.1.1 hX.1.2.1 dL_close_11 (by decide) ?_
    refine rw_outst hX hR1 dL_close_15 (fun H1 locs1 hR1 => ?_)
    refine lv_goto (tgt := 25) hX.1.1 hX.1.2.1 dL_close_16 (by decide) ?_
    refine lv_iconst (v := 0) hX.1.1 hX.1.2.1 dL_close_25 rfl ?_
    refine W.widen (k := 2) (n := 12) (by omega) (by omega) ?_
    exact rl_i hX hR1 hr rfl (by simp [hoz, c0]) dL_close_26 hlocks
set_option maxHeartbeats 8000000 in
set_option maxRecDepth 100000 in
theorem L_call (l : Launch) (hfl : l.stackTraces = false) (γ : GT) (ad : Nat → Nat → Nat) {fu : Nat} (a1 : Int32) (a2 : Int32) (σ : St) (r : Except Nat Int32) (σ' : St) (hw : f7_call fu a1 a2 σ = some (r, σ')) (he : ∀ e, r = .error e → e = 1 ∨ e = 2 ∨ e = 3) : Met l yL_call (Cond.codeWith yL_call cL_call 5 (some .int) [(0, 10, 13, 13), (0, 10, 17, 15), (0, 10, 21, 17)] :: GW) (rmo 83 5 251) (va_Pc [.ref (gS γ 7 0), .int a1, .int a2, .ref (gS γ 3000 0)] (RU γ ad σ)) (QL γ (hoi σ' r) (hk (fun e => if e = 1 then 1 else if e = 2 then 2 else if e = 3 then 3 else 0) r)) 5 251 (gA γ) := by
  refine met_vx (vx_ofWH (cc := cL_call) (maxL := 5) (ret := some .int) (hh := [(0, 10, 13, 13), (0, 10, 17, 15), (0, 10, 21, 17)]) (by decide) rfl ?_)
  intro p e s m args below meth c s₁ B hml hv
  obtain ⟨rfl, hU⟩ := hv
  obtain ⟨hX, hR, hxt⟩ := cx_ofH (own := RL) B hml rfl hU
  have hr := B.returns
  have hlocks := B.notSynchronized
  show W p l e (rmo 83 5 251) s m ([.ref (gS γ 7 0), .int a1, .int a2, .ref (gS γ 3000 0)] : List Value).toArray below meth c s.heap [] 0 0 (vx_MQ below (QL γ (hoi σ' r) (hk (fun e => if e = 1 then 1 else if e = 2 then 2 else if e = 3 then 3 else 0) r)) (fun _ _ _ => False) ([.ref (gS γ 7 0), .int a1, .int a2, .ref (gS γ 3000 0)] : List Value).toArray s 5 251 (gA γ)) (entryFrame m ([.ref (gS γ 7 0), .int a1, .int a2, .ref (gS γ 3000 0)] : List Value).toArray 5)
  refine rw_entry (ca1 rfl (ca1 rfl (ca1 rfl (ca1 rfl ca0)))) (Nat.le_of_ble_eq_true rfl) (fun ls hl => ?_)
  refine rw_aload_n hX hl 3 rfl (Or.inr ⟨_, rfl⟩) dL_call_0 rfl ?_
  refine lv_iconst (v := 0) hX.1.1 hX.1.2.1 dL_call_1 rfl ?_
  refine rw_aload_n hX hl 0 rfl (Or.inr ⟨_, rfl⟩) dL_call_2 rfl ?_
  refine rw_iload_n hX hl 1 rfl dL_call_3 rfl ?_
  refine rw_iload_n hX hl 2 rfl dL_call_4 rfl ?_
  refine rw_xVn hX hR pk_f7_call (mc := 5) (ms := 251) ⟨rfl, rfl, (show 82 + 1 ≤ 83 by omega), (show 8 + (5 + 11) + 64 * 82 ≤ 64 * 83 by omega)⟩ (As := [.int a1, .int a2]) (rest := [.int 0, .ref (gS γ 3000 0)]) rfl (C_f7_call l hfl γ ad a1 a2 σ r σ' hw) gw_638 gw_639 gw_640 (rs_recv hX hR 7 0 (C := RX6) (T := TX6) (N := 11) rfl (by decide) (Nat.le_of_ble_eq_true rfl) rfl) rfl hl.1 (ca1 rfl (ca1 rfl ca0)) (Nat.le_of_ble_eq_true rfl) dL_call_5 ⟨(show 0 + 5 ≤ 5 by omega), (show 0 + 251 ≤ 251 by omega)⟩ (fun x ce q9 H1 locs1 hx hR1 h1 h2 h3 => ?_) (fun v1 ad1 H1 locs1 hx hR1 => ?_)
  · subst hx
    rcases he x rfl with rfl | rfl | rfl
    · refine rw_catch (ex := 1) (pre := []) (x := (0, 10, 13, 13)) (suf := [(0, 10, 17, 15), (0, 10, 21, 17)]) hX hxt rfl (fun _ h => nomatch h) rfl (by decide) gw_194 nw_215 h1 h2 h3 ?_
      refine rw_astore (i := 4) hX hl (Nat.le_of_ble_eq_true rfl) rfl (Or.inr ⟨_, rfl⟩) dL_call_13 (fun ls1 hl1 => ?_)
      refine lv_iconst (v := 1) hX.1.1 hX.1.2.1 dL_call_15 rfl ?_
      refine W.widen (k := 5) (n := 251) (by omega) (by omega) ?_
      exact rl_i hX hR1 hr rfl rfl dL_call_16 hlocks
    · refine rw_catch (ex := 2) (pre := [(0, 10, 13, 13)]) (x := (0, 10, 17, 15)) (suf := [(0, 10, 21, 17)]) hX hxt rfl (List.forall_mem_cons.mpr ⟨⟨by decide, _, gw_194, hX.2.2.2.2.1.1⟩, fun _ h => nomatch h⟩) rfl (by decide) gw_195 nw_305 h1 h2 h3 ?_
      refine rw_astore (i := 4) hX hl (Nat.le_of_ble_eq_true rfl) rfl (Or.inr ⟨_, rfl⟩) dL_call_17 (fun ls1 hl1 => ?_)
      refine lv_iconst (v := 2) hX.1.1 hX.1.2.1 dL_call_19 rfl ?_
      refine W.widen (k := 5) (n := 251) (by omega) (by omega) ?_
      exact rl_i hX hR1 hr rfl rfl dL_call_20 hlocks
    · refine rw_catch (ex := 3) (pre := [(0, 10, 13, 13), (0, 10, 17, 15)]) (x := (0, 10, 21, 17)) (suf := []) hX hxt rfl (List.forall_mem_cons.mpr ⟨⟨by decide, _, gw_194, hX.2.2.2.2.1.2.1⟩, List.forall_mem_cons.mpr ⟨⟨by decide, _, gw_195, hX.2.2.2.2.1.2.2⟩, fun _ h => nomatch h⟩⟩) rfl (by decide) gw_196 nw_322 h1 h2 h3 ?_
      refine rw_astore (i := 4) hX hl (Nat.le_of_ble_eq_true rfl) rfl (Or.inr ⟨_, rfl⟩) dL_call_21 (fun ls1 hl1 => ?_)
      refine lv_iconst (v := 3) hX.1.1 hX.1.2.1 dL_call_23 rfl ?_
      refine W.widen (k := 5) (n := 251) (by omega) (by omega) ?_
      exact rl_i hX hR1 hr rfl rfl dL_call_24 hlocks
  subst hx
  refine lv_i2l hX.1.1 hX.1.2.1 dL_call_8 rfl ?_
  refine rw_outst hX hR1 dL_call_9 (fun H1 locs1 hR1 => ?_)
  refine lv_goto (tgt := 25) hX.1.1 hX.1.2.1 dL_call_10 (by decide) ?_
  refine lv_iconst (v := 0) hX.1.1 hX.1.2.1 dL_call_25 rfl ?_
  refine W.widen (k := 5) (n := 251) (by omega) (by omega) ?_
  exact rl_i hX hR1 hr rfl rfl dL_call_26 hlocks
set_option maxHeartbeats 8000000 in
set_option maxRecDepth 100000 in
theorem L_set (l : Launch) (hfl : l.stackTraces = false) (γ : GT) (ad : Nat → Nat → Nat) {fu : Nat} (a1 : Int32) (a2 : Int32) (σ : St) (r : Except Nat Int32) (σ' : St) (hw : f7_set fu a1 a2 σ = some (r, σ')) (he : ∀ e, r = .error e → e = 1 ∨ e = 2 ∨ e = 3) : Met l yL_set (Cond.codeWith yL_set cL_set 5 (some .int) [(0, 10, 13, 13), (0, 10, 17, 15), (0, 10, 21, 17)] :: GW) (rmo 83 3 18) (va_Pc [.ref (gS γ 7 0), .int a1, .int a2, .ref (gS γ 3000 0)] (RU γ ad σ)) (QL γ (hoi σ' r) (hk (fun e => if e = 1 then 1 else if e = 2 then 2 else if e = 3 then 3 else 0) r)) 3 18 (gA γ) := by
  refine met_vx (vx_ofWH (cc := cL_set) (maxL := 5) (ret := some .int) (hh := [(0, 10, 13, 13), (0, 10, 17, 15), (0, 10, 21, 17)]) (by decide) rfl ?_)
  intro p e s m args below meth c s₁ B hml hv
  obtain ⟨rfl, hU⟩ := hv
  obtain ⟨hX, hR, hxt⟩ := cx_ofH (own := RL) B hml rfl hU
  have hr := B.returns
  have hlocks := B.notSynchronized
  show W p l e (rmo 83 3 18) s m ([.ref (gS γ 7 0), .int a1, .int a2, .ref (gS γ 3000 0)] : List Value).toArray below meth c s.heap [] 0 0 (vx_MQ below (QL γ (hoi σ' r) (hk (fun e => if e = 1 then 1 else if e = 2 then 2 else if e = 3 then 3 else 0) r)) (fun _ _ _ => False) ([.ref (gS γ 7 0), .int a1, .int a2, .ref (gS γ 3000 0)] : List Value).toArray s 3 18 (gA γ)) (entryFrame m ([.ref (gS γ 7 0), .int a1, .int a2, .ref (gS γ 3000 0)] : List Value).toArray 5)
  refine rw_entry (ca1 rfl (ca1 rfl (ca1 rfl (ca1 rfl ca0)))) (Nat.le_of_ble_eq_true rfl) (fun ls hl => ?_)
  refine rw_aload_n hX hl 3 rfl (Or.inr ⟨_, rfl⟩) dL_set_0 rfl ?_
  refine lv_iconst (v := 0) hX.1.1 hX.1.2.1 dL_set_1 rfl ?_
  refine rw_aload_n hX hl 0 rfl (Or.inr ⟨_, rfl⟩) dL_set_2 rfl ?_
  refine rw_iload_n hX hl 1 rfl dL_set_3 rfl ?_
  refine rw_iload_n hX hl 2 rfl dL_set_4 rfl ?_
  refine rw_xVi hX hR pk_f7_set (mc := 3) (ms := 18) ⟨rfl, rfl, (show 82 + 1 ≤ 83 by omega), (show 8 + (5 + 11) + 64 * 82 ≤ 64 * 83 by omega)⟩ (As := [.int a1, .int a2]) (rest := [.int 0, .ref (gS γ 3000 0)]) rfl (C_f7_set l hfl γ ad a1 a2 σ r σ' hw) gw_676 gw_677 gw_678 (rs_recv hX hR 7 0 (C := RX6) (T := TX6) (N := 11) rfl (by decide) (Nat.le_of_ble_eq_true rfl) rfl) rfl hl.1 (ca1 rfl (ca1 rfl ca0)) (Nat.le_of_ble_eq_true rfl) dL_set_5 ⟨(show 0 + 3 ≤ 3 by omega), (show 0 + 18 ≤ 18 by omega)⟩ (fun x ce q9 H1 locs1 hx hR1 h1 h2 h3 => ?_) (fun v1 H1 locs1 hx hR1 => ?_)
  · subst hx
    rcases he x rfl with rfl | rfl | rfl
    · refine rw_catch (ex := 1) (pre := []) (x := (0, 10, 13, 13)) (suf := [(0, 10, 17, 15), (0, 10, 21, 17)]) hX hxt rfl (fun _ h => nomatch h) rfl (by decide) gw_194 nw_215 h1 h2 h3 ?_
      refine rw_astore (i := 4) hX hl (Nat.le_of_ble_eq_true rfl) rfl (Or.inr ⟨_, rfl⟩) dL_set_13 (fun ls1 hl1 => ?_)
      refine lv_iconst (v := 1) hX.1.1 hX.1.2.1 dL_set_15 rfl ?_
      refine W.widen (k := 3) (n := 18) (by omega) (by omega) ?_
      exact rl_i hX hR1 hr rfl rfl dL_set_16 hlocks
    · refine rw_catch (ex := 2) (pre := [(0, 10, 13, 13)]) (x := (0, 10, 17, 15)) (suf := [(0, 10, 21, 17)]) hX hxt rfl (List.forall_mem_cons.mpr ⟨⟨by decide, _, gw_194, hX.2.2.2.2.1.1⟩, fun _ h => nomatch h⟩) rfl (by decide) gw_195 nw_305 h1 h2 h3 ?_
      refine rw_astore (i := 4) hX hl (Nat.le_of_ble_eq_true rfl) rfl (Or.inr ⟨_, rfl⟩) dL_set_17 (fun ls1 hl1 => ?_)
      refine lv_iconst (v := 2) hX.1.1 hX.1.2.1 dL_set_19 rfl ?_
      refine W.widen (k := 3) (n := 18) (by omega) (by omega) ?_
      exact rl_i hX hR1 hr rfl rfl dL_set_20 hlocks
    · refine rw_catch (ex := 3) (pre := [(0, 10, 13, 13), (0, 10, 17, 15)]) (x := (0, 10, 21, 17)) (suf := []) hX hxt rfl (List.forall_mem_cons.mpr ⟨⟨by decide, _, gw_194, hX.2.2.2.2.1.2.1⟩, List.forall_mem_cons.mpr ⟨⟨by decide, _, gw_195, hX.2.2.2.2.1.2.2⟩, fun _ h => nomatch h⟩⟩) rfl (by decide) gw_196 nw_322 h1 h2 h3 ?_
      refine rw_astore (i := 4) hX hl (Nat.le_of_ble_eq_true rfl) rfl (Or.inr ⟨_, rfl⟩) dL_set_21 (fun ls1 hl1 => ?_)
      refine lv_iconst (v := 3) hX.1.1 hX.1.2.1 dL_set_23 rfl ?_
      refine W.widen (k := 3) (n := 18) (by omega) (by omega) ?_
      exact rl_i hX hR1 hr rfl rfl dL_set_24 hlocks
  subst hx
  refine lv_i2l hX.1.1 hX.1.2.1 dL_set_8 rfl ?_
  refine rw_outst hX hR1 dL_set_9 (fun H1 locs1 hR1 => ?_)
  refine lv_goto (tgt := 25) hX.1.1 hX.1.2.1 dL_set_10 (by decide) ?_
  refine lv_iconst (v := 0) hX.1.1 hX.1.2.1 dL_set_25 rfl ?_
  refine W.widen (k := 3) (n := 18) (by omega) (by omega) ?_
  exact rl_i hX hR1 hr rfl rfl dL_set_26 hlocks
set_option maxHeartbeats 8000000 in
set_option maxRecDepth 100000 in
theorem L_get (l : Launch) (hfl : l.stackTraces = false) (γ : GT) (ad : Nat → Nat → Nat) {fu : Nat} (a1 : Int32) (σ : St) (r : Except Nat Int32) (σ' : St) (hw : f7_get fu a1 σ = some (r, σ')) (he : ∀ e, r = .error e → e = 1 ∨ e = 3) : Met l yL_get (Cond.codeWith yL_get cL_get 4 (some .int) [(0, 9, 12, 13), (0, 9, 15, 17)] :: GW) (rmo 83 2 12) (va_Pc [.ref (gS γ 7 0), .int a1, .ref (gS γ 3000 0)] (RU γ ad σ)) (QL γ (hoi σ' r) (hk (fun e => if e = 1 then 1 else if e = 3 then 2 else 0) r)) 2 12 (gA γ) := by
  refine met_vx (vx_ofWH (cc := cL_get) (maxL := 4) (ret := some .int) (hh := [(0, 9, 12, 13), (0, 9, 15, 17)]) (by decide) rfl ?_)
  intro p e s m args below meth c s₁ B hml hv
  obtain ⟨rfl, hU⟩ := hv
  obtain ⟨hX, hR, hxt⟩ := cx_ofH (own := RL) B hml rfl hU
  have hr := B.returns
  have hlocks := B.notSynchronized
  show W p l e (rmo 83 2 12) s m ([.ref (gS γ 7 0), .int a1, .ref (gS γ 3000 0)] : List Value).toArray below meth c s.heap [] 0 0 (vx_MQ below (QL γ (hoi σ' r) (hk (fun e => if e = 1 then 1 else if e = 3 then 2 else 0) r)) (fun _ _ _ => False) ([.ref (gS γ 7 0), .int a1, .ref (gS γ 3000 0)] : List Value).toArray s 2 12 (gA γ)) (entryFrame m ([.ref (gS γ 7 0), .int a1, .ref (gS γ 3000 0)] : List Value).toArray 4)
  refine rw_entry (ca1 rfl (ca1 rfl (ca1 rfl ca0))) (Nat.le_of_ble_eq_true rfl) (fun ls hl => ?_)
  refine rw_aload_n hX hl 2 rfl (Or.inr ⟨_, rfl⟩) dL_get_0 rfl ?_
  refine lv_iconst (v := 0) hX.1.1 hX.1.2.1 dL_get_1 rfl ?_
  refine rw_aload_n hX hl 0 rfl (Or.inr ⟨_, rfl⟩) dL_get_2 rfl ?_
  refine rw_iload_n hX hl 1 rfl dL_get_3 rfl ?_
  refine rw_xVi hX hR pk_f7_get (mc := 2) (ms := 12) ⟨rfl, rfl, (show 82 + 1 ≤ 83 by omega), (show 8 + (3 + 11) + 64 * 82 ≤ 64 * 83 by omega)⟩ (As := [.int a1]) (rest := [.int 0, .ref (gS γ 3000 0)]) rfl (C_f7_get l hfl γ ad a1 σ r σ' hw) gw_685 gw_686 gw_687 (rs_recv hX hR 7 0 (C := RX6) (T := TX6) (N := 11) rfl (by decide) (Nat.le_of_ble_eq_true rfl) rfl) rfl hl.1 (ca1 rfl (ca1 rfl ca0)) (Nat.le_of_ble_eq_true rfl) dL_get_4 ⟨(show 0 + 2 ≤ 2 by omega), (show 0 + 12 ≤ 12 by omega)⟩ (fun x ce q9 H1 locs1 hx hR1 h1 h2 h3 => ?_) (fun v1 H1 locs1 hx hR1 => ?_)
  · subst hx
    rcases he x rfl with rfl | rfl
    · refine rw_catch (ex := 1) (pre := []) (x := (0, 9, 12, 13)) (suf := [(0, 9, 15, 17)]) hX hxt rfl (fun _ h => nomatch h) rfl (by decide) gw_194 nw_215 h1 h2 h3 ?_
      refine rw_astore_n (i := 3) hX hl (Nat.le_of_ble_eq_true rfl) rfl (Or.inr ⟨_, rfl⟩) dL_get_12 rfl (fun ls1 hl1 => ?_)
      refine lv_iconst (v := 1) hX.1.1 hX.1.2.1 dL_get_13 rfl ?_
      refine W.widen (k := 2) (n := 12) (by omega) (by omega) ?_
      exact rl_i hX hR1 hr rfl rfl dL_get_14 hlocks
    · refine rw_catch (ex := 3) (pre := [(0, 9, 12, 13)]) (x := (0, 9, 15, 17)) (suf := []) hX hxt rfl (List.forall_mem_cons.mpr ⟨⟨by decide, _, gw_194, hX.2.2.2.2.1.2.1⟩, fun _ h => nomatch h⟩) rfl (by decide) gw_196 nw_322 h1 h2 h3 ?_
      refine rw_astore_n (i := 3) hX hl (Nat.le_of_ble_eq_true rfl) rfl (Or.inr ⟨_, rfl⟩) dL_get_15 rfl (fun ls1 hl1 => ?_)
      refine lv_iconst (v := 2) hX.1.1 hX.1.2.1 dL_get_16 rfl ?_
      refine W.widen (k := 2) (n := 12) (by omega) (by omega) ?_
      exact rl_i hX hR1 hr rfl rfl dL_get_17 hlocks
  subst hx
  refine lv_i2l hX.1.1 hX.1.2.1 dL_get_7 rfl ?_
  refine rw_outst hX hR1 dL_get_8 (fun H1 locs1 hR1 => ?_)
  refine lv_goto (tgt := 18) hX.1.1 hX.1.2.1 dL_get_9 (by decide) ?_
  refine lv_iconst (v := 0) hX.1.1 hX.1.2.1 dL_get_18 rfl ?_
  refine W.widen (k := 2) (n := 12) (by omega) (by omega) ?_
  exact rl_i hX hR1 hr rfl rfl dL_get_19 hlocks
set_option maxHeartbeats 8000000 in
set_option maxRecDepth 100000 in
theorem L_map (l : Launch) (hfl : l.stackTraces = false) (γ : GT) (ad : Nat → Nat → Nat) {fu : Nat} (a1 : Int32) (a2 : Int32) (σ : St) (r : Except Nat Int32) (σ' : St) (hw : f7_map fu a1 a2 σ = some (r, σ')) (he : ∀ e, r = .error e → e = 1 ∨ e = 2 ∨ e = 3) : Met l yL_map (Cond.codeWith yL_map cL_map 5 (some .int) [(0, 10, 13, 13), (0, 10, 17, 15), (0, 10, 21, 17)] :: GW) (rmo 17 4 24) (va_Pc [.ref (gS γ 7 0), .int a1, .int a2, .ref (gS γ 3000 0)] (RU γ ad σ)) (QL γ (hoi σ' r) (hk (fun e => if e = 1 then 1 else if e = 2 then 2 else if e = 3 then 3 else 0) r)) 4 24 (gA γ) := by
  refine met_vx (vx_ofWH (cc := cL_map) (maxL := 5) (ret := some .int) (hh := [(0, 10, 13, 13), (0, 10, 17, 15), (0, 10, 21, 17)]) (by decide) rfl ?_)
  intro p e s m args below meth c s₁ B hml hv
  obtain ⟨rfl, hU⟩ := hv
  obtain ⟨hX, hR, hxt⟩ := cx_ofH (own := RL) B hml rfl hU
  have hr := B.returns
  have hlocks := B.notSynchronized
  show W p l e (rmo 17 4 24) s m ([.ref (gS γ 7 0), .int a1, .int a2, .ref (gS γ 3000 0)] : List Value).toArray below meth c s.heap [] 0 0 (vx_MQ below (QL γ (hoi σ' r) (hk (fun e => if e = 1 then 1 else if e = 2 then 2 else if e = 3 then 3 else 0) r)) (fun _ _ _ => False) ([.ref (gS γ 7 0), .int a1, .int a2, .ref (gS γ 3000 0)] : List Value).toArray s 4 24 (gA γ)) (entryFrame m ([.ref (gS γ 7 0), .int a1, .int a2, .ref (gS γ 3000 0)] : List Value).toArray 5)
  refine rw_entry (ca1 rfl (ca1 rfl (ca1 rfl (ca1 rfl ca0)))) (Nat.le_of_ble_eq_true rfl) (fun ls hl => ?_)
  refine rw_aload_n hX hl 3 rfl (Or.inr ⟨_, rfl⟩) dL_map_0 rfl ?_
  refine lv_iconst (v := 0) hX.1.1 hX.1.2.1 dL_map_1 rfl ?_
  refine rw_aload_n hX hl 0 rfl (Or.inr ⟨_, rfl⟩) dL_map_2 rfl ?_
  refine rw_iload_n hX hl 1 rfl dL_map_3 rfl ?_
  refine rw_iload_n hX hl 2 rfl dL_map_4 rfl ?_
  refine rw_xVi hX hR pk_f7_map (mc := 4) (ms := 24) ⟨rfl, rfl, (show 16 + 1 ≤ 17 by omega), (show 8 + (6 + 11) + 64 * 16 ≤ 64 * 17 by omega)⟩ (As := [.int a1, .int a2]) (rest := [.int 0, .ref (gS γ 3000 0)]) rfl (C_f7_map l hfl γ ad a1 a2 σ r σ' hw) gw_692 gw_693 gw_694 (rs_recv hX hR 7 0 (C := RX6) (T := TX6) (N := 11) rfl (by decide) (Nat.le_of_ble_eq_true rfl) rfl) rfl hl.1 (ca1 rfl (ca1 rfl ca0)) (Nat.le_of_ble_eq_true rfl) dL_map_5 ⟨(show 0 + 4 ≤ 4 by omega), (show 0 + 24 ≤ 24 by omega)⟩ (fun x ce q9 H1 locs1 hx hR1 h1 h2 h3 => ?_) (fun v1 H1 locs1 hx hR1 => ?_)
  · subst hx
    rcases he x rfl with rfl | rfl | rfl
    · refine rw_catch (ex := 1) (pre := []) (x := (0, 10, 13, 13)) (suf := [(0, 10, 17, 15), (0, 10, 21, 17)]) hX hxt rfl (fun _ h => nomatch h) rfl (by decide) gw_194 nw_215 h1 h2 h3 ?_
      refine rw_astore (i := 4) hX hl (Nat.le_of_ble_eq_true rfl) rfl (Or.inr ⟨_, rfl⟩) dL_map_13 (fun ls1 hl1 => ?_)
      refine lv_iconst (v := 1) hX.1.1 hX.1.2.1 dL_map_15 rfl ?_
      refine W.widen (k := 4) (n := 24) (by omega) (by omega) ?_
      exact rl_i hX hR1 hr rfl rfl dL_map_16 hlocks
    · refine rw_catch (ex := 2) (pre := [(0, 10, 13, 13)]) (x := (0, 10, 17, 15)) (suf := [(0, 10, 21, 17)]) hX hxt rfl (List.forall_mem_cons.mpr ⟨⟨by decide, _, gw_194, hX.2.2.2.2.1.1⟩, fun _ h => nomatch h⟩) rfl (by decide) gw_195 nw_305 h1 h2 h3 ?_
      refine rw_astore (i := 4) hX hl (Nat.le_of_ble_eq_true rfl) rfl (Or.inr ⟨_, rfl⟩) dL_map_17 (fun ls1 hl1 => ?_)
      refine lv_iconst (v := 2) hX.1.1 hX.1.2.1 dL_map_19 rfl ?_
      refine W.widen (k := 4) (n := 24) (by omega) (by omega) ?_
      exact rl_i hX hR1 hr rfl rfl dL_map_20 hlocks
    · refine rw_catch (ex := 3) (pre := [(0, 10, 13, 13), (0, 10, 17, 15)]) (x := (0, 10, 21, 17)) (suf := []) hX hxt rfl (List.forall_mem_cons.mpr ⟨⟨by decide, _, gw_194, hX.2.2.2.2.1.2.1⟩, List.forall_mem_cons.mpr ⟨⟨by decide, _, gw_195, hX.2.2.2.2.1.2.2⟩, fun _ h => nomatch h⟩⟩) rfl (by decide) gw_196 nw_322 h1 h2 h3 ?_
      refine rw_astore (i := 4) hX hl (Nat.le_of_ble_eq_true rfl) rfl (Or.inr ⟨_, rfl⟩) dL_map_21 (fun ls1 hl1 => ?_)
      refine lv_iconst (v := 3) hX.1.1 hX.1.2.1 dL_map_23 rfl ?_
      refine W.widen (k := 4) (n := 24) (by omega) (by omega) ?_
      exact rl_i hX hR1 hr rfl rfl dL_map_24 hlocks
  subst hx
  refine lv_i2l hX.1.1 hX.1.2.1 dL_map_8 rfl ?_
  refine rw_outst hX hR1 dL_map_9 (fun H1 locs1 hR1 => ?_)
  refine lv_goto (tgt := 25) hX.1.1 hX.1.2.1 dL_map_10 (by decide) ?_
  refine lv_iconst (v := 0) hX.1.1 hX.1.2.1 dL_map_25 rfl ?_
  refine W.widen (k := 4) (n := 24) (by omega) (by omega) ?_
  exact rl_i hX hR1 hr rfl rfl dL_map_26 hlocks
set_option maxHeartbeats 8000000 in
set_option maxRecDepth 100000 in
theorem L_unmap (l : Launch) (hfl : l.stackTraces = false) (γ : GT) (ad : Nat → Nat → Nat) {fu : Nat} (a1 : Int32) (a2 : Int32) (σ : St) (r : Except Nat Int32) (σ' : St) (hw : f7_unmap fu a1 a2 σ = some (r, σ')) (he : ∀ e, r = .error e → e = 1 ∨ e = 3) : Met l yL_unmap (Cond.codeWith yL_unmap cL_unmap 5 (some .int) [(0, 10, 13, 13), (0, 10, 17, 17)] :: GW) (rmo 17 3 18) (va_Pc [.ref (gS γ 7 0), .int a1, .int a2, .ref (gS γ 3000 0)] (RU γ ad σ)) (QL γ (hoi σ' r) (hk (fun e => if e = 1 then 1 else if e = 3 then 2 else 0) r)) 3 18 (gA γ) := by
  refine met_vx (vx_ofWH (cc := cL_unmap) (maxL := 5) (ret := some .int) (hh := [(0, 10, 13, 13), (0, 10, 17, 17)]) (by decide) rfl ?_)
  intro p e s m args below meth c s₁ B hml hv
  obtain ⟨rfl, hU⟩ := hv
  obtain ⟨hX, hR, hxt⟩ := cx_ofH (own := RL) B hml rfl hU
  have hr := B.returns
  have hlocks := B.notSynchronized
  show W p l e (rmo 17 3 18) s m ([.ref (gS γ 7 0), .int a1, .int a2, .ref (gS γ 3000 0)] : List Value).toArray below meth c s.heap [] 0 0 (vx_MQ below (QL γ (hoi σ' r) (hk (fun e => if e = 1 then 1 else if e = 3 then 2 else 0) r)) (fun _ _ _ => False) ([.ref (gS γ 7 0), .int a1, .int a2, .ref (gS γ 3000 0)] : List Value).toArray s 3 18 (gA γ)) (entryFrame m ([.ref (gS γ 7 0), .int a1, .int a2, .ref (gS γ 3000 0)] : List Value).toArray 5)
  refine rw_entry (ca1 rfl (ca1 rfl (ca1 rfl (ca1 rfl ca0)))) (Nat.le_of_ble_eq_true rfl) (fun ls hl => ?_)
  refine rw_aload_n hX hl 3 rfl (Or.inr ⟨_, rfl⟩) dL_unmap_0 rfl ?_
  refine lv_iconst (v := 0) hX.1.1 hX.1.2.1 dL_unmap_1 rfl ?_
  refine rw_aload_n hX hl 0 rfl (Or.inr ⟨_, rfl⟩) dL_unmap_2 rfl ?_
  refine rw_iload_n hX hl 1 rfl dL_unmap_3 rfl ?_
  refine rw_iload_n hX hl 2 rfl dL_unmap_4 rfl ?_
  refine rw_xVi hX hR pk_f7_unmap (mc := 3) (ms := 18) ⟨rfl, rfl, (show 16 + 1 ≤ 17 by omega), (show 8 + (5 + 11) + 64 * 16 ≤ 64 * 17 by omega)⟩ (As := [.int a1, .int a2]) (rest := [.int 0, .ref (gS γ 3000 0)]) rfl (C_f7_unmap l hfl γ ad a1 a2 σ r σ' hw) gw_710 gw_711 gw_712 (rs_recv hX hR 7 0 (C := RX6) (T := TX6) (N := 11) rfl (by decide) (Nat.le_of_ble_eq_true rfl) rfl) rfl hl.1 (ca1 rfl (ca1 rfl ca0)) (Nat.le_of_ble_eq_true rfl) dL_unmap_5 ⟨(show 0 + 3 ≤ 3 by omega), (show 0 + 18 ≤ 18 by omega)⟩ (fun x ce q9 H1 locs1 hx hR1 h1 h2 h3 => ?_) (fun v1 H1 locs1 hx hR1 => ?_)
  · subst hx
    rcases he x rfl with rfl | rfl
    · refine rw_catch (ex := 1) (pre := []) (x := (0, 10, 13, 13)) (suf := [(0, 10, 17, 17)]) hX hxt rfl (fun _ h => nomatch h) rfl (by decide) gw_194 nw_215 h1 h2 h3 ?_
      refine rw_astore (i := 4) hX hl (Nat.le_of_ble_eq_true rfl) rfl (Or.inr ⟨_, rfl⟩) dL_unmap_13 (fun ls1 hl1 => ?_)
      refine lv_iconst (v := 1) hX.1.1 hX.1.2.1 dL_unmap_15 rfl ?_
      refine W.widen (k := 3) (n := 18) (by omega) (by omega) ?_
      exact rl_i hX hR1 hr rfl rfl dL_unmap_16 hlocks
    · refine rw_catch (ex := 3) (pre := [(0, 10, 13, 13)]) (x := (0, 10, 17, 17)) (suf := []) hX hxt rfl (List.forall_mem_cons.mpr ⟨⟨by decide, _, gw_194, hX.2.2.2.2.1.2.1⟩, fun _ h => nomatch h⟩) rfl (by decide) gw_196 nw_322 h1 h2 h3 ?_
      refine rw_astore (i := 4) hX hl (Nat.le_of_ble_eq_true rfl) rfl (Or.inr ⟨_, rfl⟩) dL_unmap_17 (fun ls1 hl1 => ?_)
      refine lv_iconst (v := 2) hX.1.1 hX.1.2.1 dL_unmap_19 rfl ?_
      refine W.widen (k := 3) (n := 18) (by omega) (by omega) ?_
      exact rl_i hX hR1 hr rfl rfl dL_unmap_20 hlocks
  subst hx
  refine lv_i2l hX.1.1 hX.1.2.1 dL_unmap_8 rfl ?_
  refine rw_outst hX hR1 dL_unmap_9 (fun H1 locs1 hR1 => ?_)
  refine lv_goto (tgt := 21) hX.1.1 hX.1.2.1 dL_unmap_10 (by decide) ?_
  refine lv_iconst (v := 0) hX.1.1 hX.1.2.1 dL_unmap_21 rfl ?_
  refine W.widen (k := 3) (n := 18) (by omega) (by omega) ?_
  exact rl_i hX hR1 hr rfl rfl dL_unmap_22 hlocks
set_option maxHeartbeats 8000000 in
set_option maxRecDepth 100000 in
theorem L_access (l : Launch) (hfl : l.stackTraces = false) (γ : GT) (ad : Nat → Nat → Nat) {fu : Nat} (a1 : Int32) (a2 : Int32) (σ : St) (r : Except Nat Int32) (σ' : St) (hw : f7_access fu a1 a2 σ = some (r, σ')) (he : ∀ e, r = .error e → e = 1 ∨ e = 3) : Met l yL_access (Cond.codeWith yL_access cL_access 5 (some .int) [(0, 10, 13, 13), (0, 10, 17, 17)] :: GW) (rmo 17 3 18) (va_Pc [.ref (gS γ 7 0), .int a1, .int a2, .ref (gS γ 3000 0)] (RU γ ad σ)) (QL γ (hoi σ' r) (hk (fun e => if e = 1 then 1 else if e = 3 then 2 else 0) r)) 3 18 (gA γ) := by
  refine met_vx (vx_ofWH (cc := cL_access) (maxL := 5) (ret := some .int) (hh := [(0, 10, 13, 13), (0, 10, 17, 17)]) (by decide) rfl ?_)
  intro p e s m args below meth c s₁ B hml hv
  obtain ⟨rfl, hU⟩ := hv
  obtain ⟨hX, hR, hxt⟩ := cx_ofH (own := RL) B hml rfl hU
  have hr := B.returns
  have hlocks := B.notSynchronized
  show W p l e (rmo 17 3 18) s m ([.ref (gS γ 7 0), .int a1, .int a2, .ref (gS γ 3000 0)] : List Value).toArray below meth c s.heap [] 0 0 (vx_MQ below (QL γ (hoi σ' r) (hk (fun e => if e = 1 then 1 else if e = 3 then 2 else 0) r)) (fun _ _ _ => False) ([.ref (gS γ 7 0), .int a1, .int a2, .ref (gS γ 3000 0)] : List Value).toArray s 3 18 (gA γ)) (entryFrame m ([.ref (gS γ 7 0), .int a1, .int a2, .ref (gS γ 3000 0)] : List Value).toArray 5)
  refine rw_entry (ca1 rfl (ca1 rfl (ca1 rfl (ca1 rfl ca0)))) (Nat.le_of_ble_eq_true rfl) (fun ls hl => ?_)
  refine rw_aload_n hX hl 3 rfl (Or.inr ⟨_, rfl⟩) dL_access_0 rfl ?_
  refine lv_iconst (v := 0) hX.1.1 hX.1.2.1 dL_access_1 rfl ?_
  refine rw_aload_n hX hl 0 rfl (Or.inr ⟨_, rfl⟩) dL_access_2 rfl ?_
  refine rw_iload_n hX hl 1 rfl dL_access_3 rfl ?_
  refine rw_iload_n hX hl 2 rfl dL_access_4 rfl ?_
  refine rw_xVi hX hR pk_f7_access (mc := 3) (ms := 18) ⟨rfl, rfl, (show 16 + 1 ≤ 17 by omega), (show 8 + (5 + 11) + 64 * 16 ≤ 64 * 17 by omega)⟩ (As := [.int a1, .int a2]) (rest := [.int 0, .ref (gS γ 3000 0)]) rfl (C_f7_access l hfl γ ad a1 a2 σ r σ' hw) gw_718 gw_719 gw_720 (rs_recv hX hR 7 0 (C := RX6) (T := TX6) (N := 11) rfl (by decide) (Nat.le_of_ble_eq_true rfl) rfl) rfl hl.1 (ca1 rfl (ca1 rfl ca0)) (Nat.le_of_ble_eq_true rfl) dL_access_5 ⟨(show 0 + 3 ≤ 3 by omega), (show 0 + 18 ≤ 18 by omega)⟩ (fun x ce q9 H1 locs1 hx hR1 h1 h2 h3 => ?_) (fun v1 H1 locs1 hx hR1 => ?_)
  · subst hx
    rcases he x rfl with rfl | rfl
    · refine rw_catch (ex := 1) (pre := []) (x := (0, 10, 13, 13)) (suf := [(0, 10, 17, 17)]) hX hxt rfl (fun _ h => nomatch h) rfl (by decide) gw_194 nw_215 h1 h2 h3 ?_
      refine rw_astore (i := 4) hX hl (Nat.le_of_ble_eq_true rfl) rfl (Or.inr ⟨_, rfl⟩) dL_access_13 (fun ls1 hl1 => ?_)
      refine lv_iconst (v := 1) hX.1.1 hX.1.2.1 dL_access_15 rfl ?_
      refine W.widen (k := 3) (n := 18) (by omega) (by omega) ?_
      exact rl_i hX hR1 hr rfl rfl dL_access_16 hlocks
    · refine rw_catch (ex := 3) (pre := [(0, 10, 13, 13)]) (x := (0, 10, 17, 17)) (suf := []) hX hxt rfl (List.forall_mem_cons.mpr ⟨⟨by decide, _, gw_194, hX.2.2.2.2.1.2.1⟩, fun _ h => nomatch h⟩) rfl (by decide) gw_196 nw_322 h1 h2 h3 ?_
      refine rw_astore (i := 4) hX hl (Nat.le_of_ble_eq_true rfl) rfl (Or.inr ⟨_, rfl⟩) dL_access_17 (fun ls1 hl1 => ?_)
      refine lv_iconst (v := 2) hX.1.1 hX.1.2.1 dL_access_19 rfl ?_
      refine W.widen (k := 3) (n := 18) (by omega) (by omega) ?_
      exact rl_i hX hR1 hr rfl rfl dL_access_20 hlocks
  subst hx
  refine lv_i2l hX.1.1 hX.1.2.1 dL_access_8 rfl ?_
  refine rw_outst hX hR1 dL_access_9 (fun H1 locs1 hR1 => ?_)
  refine lv_goto (tgt := 21) hX.1.1 hX.1.2.1 dL_access_10 (by decide) ?_
  refine lv_iconst (v := 0) hX.1.1 hX.1.2.1 dL_access_21 rfl ?_
  refine W.widen (k := 3) (n := 18) (by omega) (by omega) ?_
  exact rl_i hX hR1 hr rfl rfl dL_access_22 hlocks
set_option maxHeartbeats 8000000 in
set_option maxRecDepth 100000 in
theorem L_pass (l : Launch) (hfl : l.stackTraces = false) (γ : GT) (ad : Nat → Nat → Nat) {fu : Nat} (a1 : Int32) (σ : St) (r : Except Nat Int32) (σ' : St) (hw : f7_pass fu a1 σ = some (r, σ')) (he : ∀ e, r = .error e → e = 2 ∨ e = 3) : Met l yL_pass (Cond.codeWith yL_pass cL_pass 4 (some .int) [(0, 9, 12, 15), (0, 9, 15, 17)] :: GW) (rmo 17 2 12) (va_Pc [.ref (gS γ 7 0), .int a1, .ref (gS γ 3000 0)] (RU γ ad σ)) (QL γ (hoi σ' r) (hk (fun e => if e = 2 then 1 else if e = 3 then 2 else 0) r)) 2 12 (gA γ) := by
  refine met_vx (vx_ofWH (cc := cL_pass) (maxL := 4) (ret := some .int) (hh := [(0, 9, 12, 15), (0, 9, 15, 17)]) (by decide) rfl ?_)
  intro p e s m args below meth c s₁ B hml hv
  obtain ⟨rfl, hU⟩ := hv
  obtain ⟨hX, hR, hxt⟩ := cx_ofH (own := RL) B hml rfl hU
  have hr := B.returns
  have hlocks := B.notSynchronized
  show W p l e (rmo 17 2 12) s m ([.ref (gS γ 7 0), .int a1, .ref (gS γ 3000 0)] : List Value).toArray below meth c s.heap [] 0 0 (vx_MQ below (QL γ (hoi σ' r) (hk (fun e => if e = 2 then 1 else if e = 3 then 2 else 0) r)) (fun _ _ _ => False) ([.ref (gS γ 7 0), .int a1, .ref (gS γ 3000 0)] : List Value).toArray s 2 12 (gA γ)) (entryFrame m ([.ref (gS γ 7 0), .int a1, .ref (gS γ 3000 0)] : List Value).toArray 4)
  refine rw_entry (ca1 rfl (ca1 rfl (ca1 rfl ca0))) (Nat.le_of_ble_eq_true rfl) (fun ls hl => ?_)
  refine rw_aload_n hX hl 2 rfl (Or.inr ⟨_, rfl⟩) dL_pass_0 rfl ?_
  refine lv_iconst (v := 0) hX.1.1 hX.1.2.1 dL_pass_1 rfl ?_
  refine rw_aload_n hX hl 0 rfl (Or.inr ⟨_, rfl⟩) dL_pass_2 rfl ?_
  refine rw_iload_n hX hl 1 rfl dL_pass_3 rfl ?_
  refine rw_xVi hX hR pk_f7_pass (mc := 2) (ms := 12) ⟨rfl, rfl, (show 16 + 1 ≤ 17 by omega), (show 8 + (3 + 11) + 64 * 16 ≤ 64 * 17 by omega)⟩ (As := [.int a1]) (rest := [.int 0, .ref (gS γ 3000 0)]) rfl (C_f7_pass l hfl γ ad a1 σ r σ' hw) gw_725 gw_726 gw_727 (rs_recv hX hR 7 0 (C := RX6) (T := TX6) (N := 11) rfl (by decide) (Nat.le_of_ble_eq_true rfl) rfl) rfl hl.1 (ca1 rfl (ca1 rfl ca0)) (Nat.le_of_ble_eq_true rfl) dL_pass_4 ⟨(show 0 + 2 ≤ 2 by omega), (show 0 + 12 ≤ 12 by omega)⟩ (fun x ce q9 H1 locs1 hx hR1 h1 h2 h3 => ?_) (fun v1 H1 locs1 hx hR1 => ?_)
  · subst hx
    rcases he x rfl with rfl | rfl
    · refine rw_catch (ex := 2) (pre := []) (x := (0, 9, 12, 15)) (suf := [(0, 9, 15, 17)]) hX hxt rfl (fun _ h => nomatch h) rfl (by decide) gw_195 nw_305 h1 h2 h3 ?_
      refine rw_astore_n (i := 3) hX hl (Nat.le_of_ble_eq_true rfl) rfl (Or.inr ⟨_, rfl⟩) dL_pass_12 rfl (fun ls1 hl1 => ?_)
      refine lv_iconst (v := 1) hX.1.1 hX.1.2.1 dL_pass_13 rfl ?_
      refine W.widen (k := 2) (n := 12) (by omega) (by omega) ?_
      exact rl_i hX hR1 hr rfl rfl dL_pass_14 hlocks
    · refine rw_catch (ex := 3) (pre := [(0, 9, 12, 15)]) (x := (0, 9, 15, 17)) (suf := []) hX hxt rfl (List.forall_mem_cons.mpr ⟨⟨by decide, _, gw_195, hX.2.2.2.2.1.2.2⟩, fun _ h => nomatch h⟩) rfl (by decide) gw_196 nw_322 h1 h2 h3 ?_
      refine rw_astore_n (i := 3) hX hl (Nat.le_of_ble_eq_true rfl) rfl (Or.inr ⟨_, rfl⟩) dL_pass_15 rfl (fun ls1 hl1 => ?_)
      refine lv_iconst (v := 2) hX.1.1 hX.1.2.1 dL_pass_16 rfl ?_
      refine W.widen (k := 2) (n := 12) (by omega) (by omega) ?_
      exact rl_i hX hR1 hr rfl rfl dL_pass_17 hlocks
  subst hx
  refine lv_i2l hX.1.1 hX.1.2.1 dL_pass_7 rfl ?_
  refine rw_outst hX hR1 dL_pass_8 (fun H1 locs1 hR1 => ?_)
  refine lv_goto (tgt := 18) hX.1.1 hX.1.2.1 dL_pass_9 (by decide) ?_
  refine lv_iconst (v := 0) hX.1.1 hX.1.2.1 dL_pass_18 rfl ?_
  refine W.widen (k := 2) (n := 12) (by omega) (by omega) ?_
  exact rl_i hX hR1 hr rfl rfl dL_pass_19 hlocks
set_option maxHeartbeats 8000000 in
set_option maxRecDepth 100000 in
theorem L_suspend (l : Launch) (hfl : l.stackTraces = false) (γ : GT) (ad : Nat → Nat → Nat) {fu : Nat} (σ : St) (r : Except Nat Int32) (σ' : St) (hw : f7_suspend fu σ = some (r, σ')) (he : ∀ e, r = .error e → e = 3) : Met l yL_suspend (Cond.codeWith yL_suspend cL_suspend 3 (some .int) [(0, 8, 11, 17)] :: GW) (rmo 83 1 6) (va_Pc [.ref (gS γ 7 0), .ref (gS γ 3000 0)] (RU γ ad σ)) (QL γ (hoi σ' r) (hk (fun e => if e = 3 then 1 else 0) r)) 1 6 (gA γ) := by
  refine met_vx (vx_ofWH (cc := cL_suspend) (maxL := 3) (ret := some .int) (hh := [(0, 8, 11, 17)]) (by decide) rfl ?_)
  intro p e s m args below meth c s₁ B hml hv
  obtain ⟨rfl, hU⟩ := hv
  obtain ⟨hX, hR, hxt⟩ := cx_ofH (own := RL) B hml rfl hU
  have hr := B.returns
  have hlocks := B.notSynchronized
  show W p l e (rmo 83 1 6) s m ([.ref (gS γ 7 0), .ref (gS γ 3000 0)] : List Value).toArray below meth c s.heap [] 0 0 (vx_MQ below (QL γ (hoi σ' r) (hk (fun e => if e = 3 then 1 else 0) r)) (fun _ _ _ => False) ([.ref (gS γ 7 0), .ref (gS γ 3000 0)] : List Value).toArray s 1 6 (gA γ)) (entryFrame m ([.ref (gS γ 7 0), .ref (gS γ 3000 0)] : List Value).toArray 3)
  refine rw_entry (ca1 rfl (ca1 rfl ca0)) (Nat.le_of_ble_eq_true rfl) (fun ls hl => ?_)
  refine rw_aload_n hX hl 1 rfl (Or.inr ⟨_, rfl⟩) dL_suspend_0 rfl ?_
  refine lv_iconst (v := 0) hX.1.1 hX.1.2.1 dL_suspend_1 rfl ?_
  refine rw_aload_n hX hl 0 rfl (Or.inr ⟨_, rfl⟩) dL_suspend_2 rfl ?_
  refine rw_xVi hX hR pk_f7_suspend (mc := 1) (ms := 6) ⟨rfl, rfl, (show 82 + 1 ≤ 83 by omega), (show 8 + (3 + 11) + 64 * 82 ≤ 64 * 83 by omega)⟩ (As := []) (rest := [.int 0, .ref (gS γ 3000 0)]) rfl (C_f7_suspend l hfl γ ad σ r σ' hw) gw_753 gw_754 gw_755 (rs_recv hX hR 7 0 (C := RX6) (T := TX6) (N := 11) rfl (by decide) (Nat.le_of_ble_eq_true rfl) rfl) rfl hl.1 (ca1 rfl (ca1 rfl ca0)) (Nat.le_of_ble_eq_true rfl) dL_suspend_3 ⟨(show 0 + 1 ≤ 1 by omega), (show 0 + 6 ≤ 6 by omega)⟩ (fun x ce q9 H1 locs1 hx hR1 h1 h2 h3 => ?_) (fun v1 H1 locs1 hx hR1 => ?_)
  · subst hx
    rcases he x rfl with rfl
    · refine rw_catch (ex := 3) (pre := []) (x := (0, 8, 11, 17)) (suf := []) hX hxt rfl (fun _ h => nomatch h) rfl (by decide) gw_196 nw_322 h1 h2 h3 ?_
      refine rw_astore_n (i := 2) hX hl (Nat.le_of_ble_eq_true rfl) rfl (Or.inr ⟨_, rfl⟩) dL_suspend_11 rfl (fun ls1 hl1 => ?_)
      refine lv_iconst (v := 1) hX.1.1 hX.1.2.1 dL_suspend_12 rfl ?_
      refine W.widen (k := 1) (n := 6) (by omega) (by omega) ?_
      exact rl_i hX hR1 hr rfl rfl dL_suspend_13 hlocks
  subst hx
  refine lv_i2l hX.1.1 hX.1.2.1 dL_suspend_6 rfl ?_
  refine rw_outst hX hR1 dL_suspend_7 (fun H1 locs1 hR1 => ?_)
  refine lv_goto (tgt := 14) hX.1.1 hX.1.2.1 dL_suspend_8 (by decide) ?_
  refine lv_iconst (v := 0) hX.1.1 hX.1.2.1 dL_suspend_14 rfl ?_
  refine W.widen (k := 1) (n := 6) (by omega) (by omega) ?_
  exact rl_i hX hR1 hr rfl rfl dL_suspend_15 hlocks
set_option maxHeartbeats 8000000 in
set_option maxRecDepth 100000 in
theorem L_resume (l : Launch) (hfl : l.stackTraces = false) (γ : GT) (ad : Nat → Nat → Nat) {fu : Nat} (σ : St) (r : Except Nat Int32) (σ' : St) (hw : f7_resume fu σ = some (r, σ')) (he : ∀ e, r = .error e → e = 3) : Met l yL_resume (Cond.codeWith yL_resume cL_resume 3 (some .int) [(0, 8, 11, 17)] :: GW) (rmo 85 36 6040) (va_Pc [.ref (gS γ 7 0), .ref (gS γ 3000 0)] (RU γ ad σ)) (QL γ (hoi σ' r) (hk (fun e => if e = 3 then 1 else 0) r)) 36 6040 (gA γ) := by
  refine met_vx (vx_ofWH (cc := cL_resume) (maxL := 3) (ret := some .int) (hh := [(0, 8, 11, 17)]) (by decide) rfl ?_)
  intro p e s m args below meth c s₁ B hml hv
  obtain ⟨rfl, hU⟩ := hv
  obtain ⟨hX, hR, hxt⟩ := cx_ofH (own := RL) B hml rfl hU
  have hr := B.returns
  have hlocks := B.notSynchronized
  show W p l e (rmo 85 36 6040) s m ([.ref (gS γ 7 0), .ref (gS γ 3000 0)] : List Value).toArray below meth c s.heap [] 0 0 (vx_MQ below (QL γ (hoi σ' r) (hk (fun e => if e = 3 then 1 else 0) r)) (fun _ _ _ => False) ([.ref (gS γ 7 0), .ref (gS γ 3000 0)] : List Value).toArray s 36 6040 (gA γ)) (entryFrame m ([.ref (gS γ 7 0), .ref (gS γ 3000 0)] : List Value).toArray 3)
  refine rw_entry (ca1 rfl (ca1 rfl ca0)) (Nat.le_of_ble_eq_true rfl) (fun ls hl => ?_)
  refine rw_aload_n hX hl 1 rfl (Or.inr ⟨_, rfl⟩) dL_resume_0 rfl ?_
  refine lv_iconst (v := 0) hX.1.1 hX.1.2.1 dL_resume_1 rfl ?_
  refine rw_aload_n hX hl 0 rfl (Or.inr ⟨_, rfl⟩) dL_resume_2 rfl ?_
  refine rw_xVi hX hR pk_f7_resume (mc := 36) (ms := 6040) ⟨rfl, rfl, (show 84 + 1 ≤ 85 by omega), (show 8 + (3 + 11) + 64 * 84 ≤ 64 * 85 by omega)⟩ (As := []) (rest := [.int 0, .ref (gS γ 3000 0)]) rfl (C_f7_resume l hfl γ ad σ r σ' hw) gw_768 gw_769 gw_770 (rs_recv hX hR 7 0 (C := RX6) (T := TX6) (N := 11) rfl (by decide) (Nat.le_of_ble_eq_true rfl) rfl) rfl hl.1 (ca1 rfl (ca1 rfl ca0)) (Nat.le_of_ble_eq_true rfl) dL_resume_3 ⟨(show 0 + 36 ≤ 36 by omega), (show 0 + 6040 ≤ 6040 by omega)⟩ (fun x ce q9 H1 locs1 hx hR1 h1 h2 h3 => ?_) (fun v1 H1 locs1 hx hR1 => ?_)
  · subst hx
    rcases he x rfl with rfl
    · refine rw_catch (ex := 3) (pre := []) (x := (0, 8, 11, 17)) (suf := []) hX hxt rfl (fun _ h => nomatch h) rfl (by decide) gw_196 nw_322 h1 h2 h3 ?_
      refine rw_astore_n (i := 2) hX hl (Nat.le_of_ble_eq_true rfl) rfl (Or.inr ⟨_, rfl⟩) dL_resume_11 rfl (fun ls1 hl1 => ?_)
      refine lv_iconst (v := 1) hX.1.1 hX.1.2.1 dL_resume_12 rfl ?_
      refine W.widen (k := 36) (n := 6040) (by omega) (by omega) ?_
      exact rl_i hX hR1 hr rfl rfl dL_resume_13 hlocks
  subst hx
  refine lv_i2l hX.1.1 hX.1.2.1 dL_resume_6 rfl ?_
  refine rw_outst hX hR1 dL_resume_7 (fun H1 locs1 hR1 => ?_)
  refine lv_goto (tgt := 14) hX.1.1 hX.1.2.1 dL_resume_8 (by decide) ?_
  refine lv_iconst (v := 0) hX.1.1 hX.1.2.1 dL_resume_14 rfl ?_
  refine W.widen (k := 36) (n := 6040) (by omega) (by omega) ?_
  exact rl_i hX hR1 hr rfl rfl dL_resume_15 hlocks
set_option maxHeartbeats 8000000 in
set_option maxRecDepth 100000 in
theorem L_raise (l : Launch) (hfl : l.stackTraces = false) (γ : GT) (ad : Nat → Nat → Nat) {fu : Nat} (a1 : Int32) (σ : St) (r : Except Nat Int32) (σ' : St) (hw : f7_raise fu a1 σ = some (r, σ')) (he : ∀ e, r = .error e → e = 1 ∨ e = 3) : Met l yL_raise (Cond.codeWith yL_raise cL_raise 4 (some .int) [(0, 9, 12, 13), (0, 9, 15, 17)] :: GW) (rmo 83 5 30) (va_Pc [.ref (gS γ 7 0), .int a1, .ref (gS γ 3000 0)] (RU γ ad σ)) (QL γ (hoi σ' r) (hk (fun e => if e = 1 then 1 else if e = 3 then 2 else 0) r)) 5 30 (gA γ) := by
  refine met_vx (vx_ofWH (cc := cL_raise) (maxL := 4) (ret := some .int) (hh := [(0, 9, 12, 13), (0, 9, 15, 17)]) (by decide) rfl ?_)
  intro p e s m args below meth c s₁ B hml hv
  obtain ⟨rfl, hU⟩ := hv
  obtain ⟨hX, hR, hxt⟩ := cx_ofH (own := RL) B hml rfl hU
  have hr := B.returns
  have hlocks := B.notSynchronized
  show W p l e (rmo 83 5 30) s m ([.ref (gS γ 7 0), .int a1, .ref (gS γ 3000 0)] : List Value).toArray below meth c s.heap [] 0 0 (vx_MQ below (QL γ (hoi σ' r) (hk (fun e => if e = 1 then 1 else if e = 3 then 2 else 0) r)) (fun _ _ _ => False) ([.ref (gS γ 7 0), .int a1, .ref (gS γ 3000 0)] : List Value).toArray s 5 30 (gA γ)) (entryFrame m ([.ref (gS γ 7 0), .int a1, .ref (gS γ 3000 0)] : List Value).toArray 4)
  refine rw_entry (ca1 rfl (ca1 rfl (ca1 rfl ca0))) (Nat.le_of_ble_eq_true rfl) (fun ls hl => ?_)
  refine rw_aload_n hX hl 2 rfl (Or.inr ⟨_, rfl⟩) dL_raise_0 rfl ?_
  refine lv_iconst (v := 0) hX.1.1 hX.1.2.1 dL_raise_1 rfl ?_
  refine rw_aload_n hX hl 0 rfl (Or.inr ⟨_, rfl⟩) dL_raise_2 rfl ?_
  refine rw_iload_n hX hl 1 rfl dL_raise_3 rfl ?_
  refine rw_xVi hX hR pk_f7_raise (mc := 5) (ms := 30) ⟨rfl, rfl, (show 82 + 1 ≤ 83 by omega), (show 8 + (4 + 11) + 64 * 82 ≤ 64 * 83 by omega)⟩ (As := [.int a1]) (rest := [.int 0, .ref (gS γ 3000 0)]) rfl (C_f7_raise l hfl γ ad a1 σ r σ' hw) gw_792 gw_793 gw_794 (rs_recv hX hR 7 0 (C := RX6) (T := TX6) (N := 11) rfl (by decide) (Nat.le_of_ble_eq_true rfl) rfl) rfl hl.1 (ca1 rfl (ca1 rfl ca0)) (Nat.le_of_ble_eq_true rfl) dL_raise_4 ⟨(show 0 + 5 ≤ 5 by omega), (show 0 + 30 ≤ 30 by omega)⟩ (fun x ce q9 H1 locs1 hx hR1 h1 h2 h3 => ?_) (fun v1 H1 locs1 hx hR1 => ?_)
  · subst hx
    rcases he x rfl with rfl | rfl
    · refine rw_catch (ex := 1) (pre := []) (x := (0, 9, 12, 13)) (suf := [(0, 9, 15, 17)]) hX hxt rfl (fun _ h => nomatch h) rfl (by decide) gw_194 nw_215 h1 h2 h3 ?_
      refine rw_astore_n (i := 3) hX hl (Nat.le_of_ble_eq_true rfl) rfl (Or.inr ⟨_, rfl⟩) dL_raise_12 rfl (fun ls1 hl1 => ?_)
      refine lv_iconst (v := 1) hX.1.1 hX.1.2.1 dL_raise_13 rfl ?_
      refine W.widen (k := 5) (n := 30) (by omega) (by omega) ?_
      exact rl_i hX hR1 hr rfl rfl dL_raise_14 hlocks
    · refine rw_catch (ex := 3) (pre := [(0, 9, 12, 13)]) (x := (0, 9, 15, 17)) (suf := []) hX hxt rfl (List.forall_mem_cons.mpr ⟨⟨by decide, _, gw_194, hX.2.2.2.2.1.2.1⟩, fun _ h => nomatch h⟩) rfl (by decide) gw_196 nw_322 h1 h2 h3 ?_
      refine rw_astore_n (i := 3) hX hl (Nat.le_of_ble_eq_true rfl) rfl (Or.inr ⟨_, rfl⟩) dL_raise_15 rfl (fun ls1 hl1 => ?_)
      refine lv_iconst (v := 2) hX.1.1 hX.1.2.1 dL_raise_16 rfl ?_
      refine W.widen (k := 5) (n := 30) (by omega) (by omega) ?_
      exact rl_i hX hR1 hr rfl rfl dL_raise_17 hlocks
  subst hx
  refine lv_i2l hX.1.1 hX.1.2.1 dL_raise_7 rfl ?_
  refine rw_outst hX hR1 dL_raise_8 (fun H1 locs1 hR1 => ?_)
  refine lv_goto (tgt := 18) hX.1.1 hX.1.2.1 dL_raise_9 (by decide) ?_
  refine lv_iconst (v := 0) hX.1.1 hX.1.2.1 dL_raise_18 rfl ?_
  refine W.widen (k := 5) (n := 30) (by omega) (by omega) ?_
  exact rl_i hX hR1 hr rfl rfl dL_raise_19 hlocks
set_option maxHeartbeats 8000000 in
set_option maxRecDepth 100000 in
theorem L_openLine (l : Launch) (hfl : l.stackTraces = false) (γ : GT) (ad : Nat → Nat → Nat) {fu : Nat} (a1 : Int32) (σ : St) (r : Except Nat Int32) (σ' : St) (hw : f7_openLine fu a1 σ = some (r, σ')) (he : ∀ e, r = .error e → e = 1) : Met l yL_openLine (Cond.codeWith yL_openLine cL_openLine 4 (some .int) [(0, 9, 12, 13)] :: GW) (rmo 83 1 6) (va_Pc [.ref (gS γ 7 0), .int a1, .ref (gS γ 3000 0)] (RU γ ad σ)) (QL γ (hoi σ' r) (hk (fun e => if e = 1 then 1 else 0) r)) 1 6 (gA γ) := by
  refine met_vx (vx_ofWH (cc := cL_openLine) (maxL := 4) (ret := some .int) (hh := [(0, 9, 12, 13)]) (by decide) rfl ?_)
  intro p e s m args below meth c s₁ B hml hv
  obtain ⟨rfl, hU⟩ := hv
  obtain ⟨hX, hR, hxt⟩ := cx_ofH (own := RL) B hml rfl hU
  have hr := B.returns
  have hlocks := B.notSynchronized
  show W p l e (rmo 83 1 6) s m ([.ref (gS γ 7 0), .int a1, .ref (gS γ 3000 0)] : List Value).toArray below meth c s.heap [] 0 0 (vx_MQ below (QL γ (hoi σ' r) (hk (fun e => if e = 1 then 1 else 0) r)) (fun _ _ _ => False) ([.ref (gS γ 7 0), .int a1, .ref (gS γ 3000 0)] : List Value).toArray s 1 6 (gA γ)) (entryFrame m ([.ref (gS γ 7 0), .int a1, .ref (gS γ 3000 0)] : List Value).toArray 4)
  refine rw_entry (ca1 rfl (ca1 rfl (ca1 rfl ca0))) (Nat.le_of_ble_eq_true rfl) (fun ls hl => ?_)
  refine rw_aload_n hX hl 2 rfl (Or.inr ⟨_, rfl⟩) dL_openLine_0 rfl ?_
  refine lv_iconst (v := 0) hX.1.1 hX.1.2.1 dL_openLine_1 rfl ?_
  refine rw_aload_n hX hl 0 rfl (Or.inr ⟨_, rfl⟩) dL_openLine_2 rfl ?_
  refine rw_iload_n hX hl 1 rfl dL_openLine_3 rfl ?_
  refine rw_xVi hX hR pk_f7_openLine (mc := 1) (ms := 6) ⟨rfl, rfl, (show 82 + 1 ≤ 83 by omega), (show 8 + (2 + 11) + 64 * 82 ≤ 64 * 83 by omega)⟩ (As := [.int a1]) (rest := [.int 0, .ref (gS γ 3000 0)]) rfl (C_f7_openLine l hfl γ ad a1 σ r σ' hw) gw_804 gw_805 gw_806 (rs_recv hX hR 7 0 (C := RX6) (T := TX6) (N := 11) rfl (by decide) (Nat.le_of_ble_eq_true rfl) rfl) rfl hl.1 (ca1 rfl (ca1 rfl ca0)) (Nat.le_of_ble_eq_true rfl) dL_openLine_4 ⟨(show 0 + 1 ≤ 1 by omega), (show 0 + 6 ≤ 6 by omega)⟩ (fun x ce q9 H1 locs1 hx hR1 h1 h2 h3 => ?_) (fun v1 H1 locs1 hx hR1 => ?_)
  · subst hx
    rcases he x rfl with rfl
    · refine rw_catch (ex := 1) (pre := []) (x := (0, 9, 12, 13)) (suf := []) hX hxt rfl (fun _ h => nomatch h) rfl (by decide) gw_194 nw_215 h1 h2 h3 ?_
      refine rw_astore_n (i := 3) hX hl (Nat.le_of_ble_eq_true rfl) rfl (Or.inr ⟨_, rfl⟩) dL_openLine_12 rfl (fun ls1 hl1 => ?_)
      refine lv_iconst (v := 1) hX.1.1 hX.1.2.1 dL_openLine_13 rfl ?_
      refine W.widen (k := 1) (n := 6) (by omega) (by omega) ?_
      exact rl_i hX hR1 hr rfl rfl dL_openLine_14 hlocks
  subst hx
  refine lv_i2l hX.1.1 hX.1.2.1 dL_openLine_7 rfl ?_
  refine rw_outst hX hR1 dL_openLine_8 (fun H1 locs1 hR1 => ?_)
  refine lv_goto (tgt := 15) hX.1.1 hX.1.2.1 dL_openLine_9 (by decide) ?_
  refine lv_iconst (v := 0) hX.1.1 hX.1.2.1 dL_openLine_15 rfl ?_
  refine W.widen (k := 1) (n := 6) (by omega) (by omega) ?_
  exact rl_i hX hR1 hr rfl rfl dL_openLine_16 hlocks
set_option maxHeartbeats 8000000 in
set_option maxRecDepth 100000 in
theorem L_isThere (l : Launch) (hfl : l.stackTraces = false) (γ : GT) (ad : Nat → Nat → Nat) {fu : Nat} (a1 : Int32) (σ : St) (r : Except Nat Bool) (hw : f7_isThere fu a1 σ = some r) (he : ∀ e, r = .error e → e = 1) : Met l yL_isThere (Cond.codeWith yL_isThere cL_isThere 4 (some .int) [(0, 16, 19, 13)] :: GW) (rmo 17 1 6) (va_Pc [.ref (gS γ 7 0), .int a1, .ref (gS γ 3000 0)] (RU γ ad σ)) (QL γ (hoz σ r) (hk (fun e => if e = 1 then 1 else 0) r)) 1 6 (gA γ) := by
  refine met_vx (vx_ofWH (cc := cL_isThere) (maxL := 4) (ret := some .int) (hh := [(0, 16, 19, 13)]) (by decide) rfl ?_)
  intro p e s m args below meth c s₁ B hml hv
  obtain ⟨rfl, hU⟩ := hv
  obtain ⟨hX, hR, hxt⟩ := cx_ofH (own := RL) B hml rfl hU
  have hr := B.returns
  have hlocks := B.notSynchronized
  show W p l e (rmo 17 1 6) s m ([.ref (gS γ 7 0), .int a1, .ref (gS γ 3000 0)] : List Value).toArray below meth c s.heap [] 0 0 (vx_MQ below (QL γ (hoz σ r) (hk (fun e => if e = 1 then 1 else 0) r)) (fun _ _ _ => False) ([.ref (gS γ 7 0), .int a1, .ref (gS γ 3000 0)] : List Value).toArray s 1 6 (gA γ)) (entryFrame m ([.ref (gS γ 7 0), .int a1, .ref (gS γ 3000 0)] : List Value).toArray 4)
  refine rw_entry (ca1 rfl (ca1 rfl (ca1 rfl ca0))) (Nat.le_of_ble_eq_true rfl) (fun ls hl => ?_)
  refine rw_aload_n hX hl 2 rfl (Or.inr ⟨_, rfl⟩) dL_isThere_0 rfl ?_
  refine lv_iconst (v := 0) hX.1.1 hX.1.2.1 dL_isThere_1 rfl ?_
  refine rw_aload_n hX hl 0 rfl (Or.inr ⟨_, rfl⟩) dL_isThere_2 rfl ?_
  refine rw_iload_n hX hl 1 rfl dL_isThere_3 rfl ?_
  refine rw_xVz hX hR pk_f7_isThere (mc := 1) (ms := 6) ⟨rfl, rfl, (show 16 + 1 ≤ 17 by omega), (show 8 + (2 + 11) + 64 * 16 ≤ 64 * 17 by omega)⟩ (As := [.int a1]) (rest := [.int 0, .ref (gS γ 3000 0)]) rfl (C_f7_isThere l hfl γ ad a1 σ r hw) gw_811 gw_812 gw_813 (rs_recv hX hR 7 0 (C := RX6) (T := TX6) (N := 11) rfl (by decide) (Nat.le_of_ble_eq_true rfl) rfl) rfl hl.1 (ca1 rfl (ca1 rfl ca0)) (Nat.le_of_ble_eq_true rfl) dL_isThere_4 ⟨(show 0 + 1 ≤ 1 by omega), (show 0 + 6 ≤ 6 by omega)⟩ (fun x ce q9 H1 locs1 hx hR1 h1 h2 h3 => ?_) (fun v1 H1 locs1 hx hR1 => ?_)
  · subst hx
    rcases he x rfl with rfl
    · refine rw_catch (ex := 1) (pre := []) (x := (0, 16, 19, 13)) (suf := []) hX hxt rfl (fun _ h => nomatch h) rfl (by decide) gw_194 nw_215 h1 h2 h3 ?_
      refine rw_astore_n (i := 3) hX hl (Nat.le_of_ble_eq_true rfl) rfl (Or.inr ⟨_, rfl⟩) dL_isThere_19 rfl (fun ls1 hl1 => ?_)
      refine lv_iconst (v := 1) hX.1.1 hX.1.2.1 dL_isThere_20 rfl ?_
      refine W.widen (k := 1) (n := 6) (by omega) (by omega) ?_
      exact rl_i hX hR1 hr rfl rfl dL_isThere_21 hlocks
  subst hx
  refine rw_ifeqZ (b := v1) (tgt := 14) hX dL_isThere_7 (by decide) (fun c0 => ?_) (fun c0 => ?_)
  · skip
    refine lv_lconst (v := 0) hX.1.1 hX.1.2.1 dL_isThere_14 rfl ?_
    refine rw_outst hX hR1 dL_isThere_15 (fun H1 locs1 hR1 => ?_)
    refine lv_goto (tgt := 22) hX.1.1 hX.1.2.1 dL_isThere_16 (by decide) ?_
    refine lv_iconst (v := 0) hX.1.1 hX.1.2.1 dL_isThere_22 rfl ?_
    refine W.widen (k := 1) (n := 6) (by omega) (by omega) ?_
    exact rl_i hX hR1 hr rfl (by simp [hoz, c0]) dL_isThere_23 hlocks
  · skip
    refine lv_lconst (v := 1) hX.1.1 hX.1.2.1 dL_isThere_10 rfl ?_
    refine lv_goto (tgt := 15) hX.1.1 hX.1.2.1 dL_isThere_11 (by decide) ?_
    refine rw_outst hX hR1 dL_isThere_15 (fun H1 locs1 hR1 => ?_)
    refine lv_goto (tgt := 22) hX.1.1 hX.1.2.1 dL_isThere_16 (by decide) ?_
    refine lv_iconst (v := 0) hX.1.1 hX.1.2.1 dL_isThere_22 rfl ?_
    refine W.widen (k := 1) (n := 6) (by omega) (by omega) ?_
    exact rl_i hX hR1 hr rfl (by simp [hoz, c0]) dL_isThere_23 hlocks
set_option maxHeartbeats 8000000 in
set_option maxRecDepth 100000 in
theorem L_reason (l : Launch) (hfl : l.stackTraces = false) (γ : GT) (ad : Nat → Nat → Nat) {fu : Nat} (a1 : Int32) (σ : St) (r : Except Nat Int32) (hw : f7_reason fu a1 σ = some r) (he : ∀ e, r = .error e → e = 1) : Met l yL_reason (Cond.codeWith yL_reason cL_reason 4 (some .int) [(0, 9, 12, 13)] :: GW) (rmo 19 1 6) (va_Pc [.ref (gS γ 7 0), .int a1, .ref (gS γ 3000 0)] (RU γ ad σ)) (QL γ (hoi σ r) (hk (fun e => if e = 1 then 1 else 0) r)) 1 6 (gA γ) := by
  refine met_vx (vx_ofWH (cc := cL_reason) (maxL := 4) (ret := some .int) (hh := [(0, 9, 12, 13)]) (by decide) rfl ?_)
  intro p e s m args below meth c s₁ B hml hv
  obtain ⟨rfl, hU⟩ := hv
  obtain ⟨hX, hR, hxt⟩ := cx_ofH (own := RL) B hml rfl hU
  have hr := B.returns
  have hlocks := B.notSynchronized
  show W p l e (rmo 19 1 6) s m ([.ref (gS γ 7 0), .int a1, .ref (gS γ 3000 0)] : List Value).toArray below meth c s.heap [] 0 0 (vx_MQ below (QL γ (hoi σ r) (hk (fun e => if e = 1 then 1 else 0) r)) (fun _ _ _ => False) ([.ref (gS γ 7 0), .int a1, .ref (gS γ 3000 0)] : List Value).toArray s 1 6 (gA γ)) (entryFrame m ([.ref (gS γ 7 0), .int a1, .ref (gS γ 3000 0)] : List Value).toArray 4)
  refine rw_entry (ca1 rfl (ca1 rfl (ca1 rfl ca0))) (Nat.le_of_ble_eq_true rfl) (fun ls hl => ?_)
  refine rw_aload_n hX hl 2 rfl (Or.inr ⟨_, rfl⟩) dL_reason_0 rfl ?_
  refine lv_iconst (v := 0) hX.1.1 hX.1.2.1 dL_reason_1 rfl ?_
  refine rw_aload_n hX hl 0 rfl (Or.inr ⟨_, rfl⟩) dL_reason_2 rfl ?_
  refine rw_iload_n hX hl 1 rfl dL_reason_3 rfl ?_
  refine rw_xVi hX hR pk_f7_reason (mc := 1) (ms := 6) ⟨rfl, rfl, (show 18 + 1 ≤ 19 by omega), (show 8 + (4 + 11) + 64 * 18 ≤ 64 * 19 by omega)⟩ (As := [.int a1]) (rest := [.int 0, .ref (gS γ 3000 0)]) rfl (C_f7_reason l hfl γ ad a1 σ r hw) gw_818 gw_819 gw_820 (rs_recv hX hR 7 0 (C := RX6) (T := TX6) (N := 11) rfl (by decide) (Nat.le_of_ble_eq_true rfl) rfl) rfl hl.1 (ca1 rfl (ca1 rfl ca0)) (Nat.le_of_ble_eq_true rfl) dL_reason_4 ⟨(show 0 + 1 ≤ 1 by omega), (show 0 + 6 ≤ 6 by omega)⟩ (fun x ce q9 H1 locs1 hx hR1 h1 h2 h3 => ?_) (fun v1 H1 locs1 hx hR1 => ?_)
  · subst hx
    rcases he x rfl with rfl
    · refine rw_catch (ex := 1) (pre := []) (x := (0, 9, 12, 13)) (suf := []) hX hxt rfl (fun _ h => nomatch h) rfl (by decide) gw_194 nw_215 h1 h2 h3 ?_
      refine rw_astore_n (i := 3) hX hl (Nat.le_of_ble_eq_true rfl) rfl (Or.inr ⟨_, rfl⟩) dL_reason_12 rfl (fun ls1 hl1 => ?_)
      refine lv_iconst (v := 1) hX.1.1 hX.1.2.1 dL_reason_13 rfl ?_
      refine W.widen (k := 1) (n := 6) (by omega) (by omega) ?_
      exact rl_i hX hR1 hr rfl rfl dL_reason_14 hlocks
  subst hx
  refine lv_i2l hX.1.1 hX.1.2.1 dL_reason_7 rfl ?_
  refine rw_outst hX hR1 dL_reason_8 (fun H1 locs1 hR1 => ?_)
  refine lv_goto (tgt := 15) hX.1.1 hX.1.2.1 dL_reason_9 (by decide) ?_
  refine lv_iconst (v := 0) hX.1.1 hX.1.2.1 dL_reason_15 rfl ?_
  refine W.widen (k := 1) (n := 6) (by omega) (by omega) ?_
  exact rl_i hX hR1 hr rfl rfl dL_reason_16 hlocks
set_option maxHeartbeats 8000000 in
set_option maxRecDepth 100000 in
theorem L_driverOf (l : Launch) (hfl : l.stackTraces = false) (γ : GT) (ad : Nat → Nat → Nat) {fu : Nat} (a1 : Int32) (σ : St) (r : Except Nat Int32) (hw : f7_driverOf fu a1 σ = some r) (he : ∀ e, r = .error e → e = 1) : Met l yL_driverOf (Cond.codeWith yL_driverOf cL_driverOf 4 (some .int) [(0, 9, 12, 13)] :: GW) (rmo 17 1 6) (va_Pc [.ref (gS γ 7 0), .int a1, .ref (gS γ 3000 0)] (RU γ ad σ)) (QL γ (hoi σ r) (hk (fun e => if e = 1 then 1 else 0) r)) 1 6 (gA γ) := by
  refine met_vx (vx_ofWH (cc := cL_driverOf) (maxL := 4) (ret := some .int) (hh := [(0, 9, 12, 13)]) (by decide) rfl ?_)
  intro p e s m args below meth c s₁ B hml hv
  obtain ⟨rfl, hU⟩ := hv
  obtain ⟨hX, hR, hxt⟩ := cx_ofH (own := RL) B hml rfl hU
  have hr := B.returns
  have hlocks := B.notSynchronized
  show W p l e (rmo 17 1 6) s m ([.ref (gS γ 7 0), .int a1, .ref (gS γ 3000 0)] : List Value).toArray below meth c s.heap [] 0 0 (vx_MQ below (QL γ (hoi σ r) (hk (fun e => if e = 1 then 1 else 0) r)) (fun _ _ _ => False) ([.ref (gS γ 7 0), .int a1, .ref (gS γ 3000 0)] : List Value).toArray s 1 6 (gA γ)) (entryFrame m ([.ref (gS γ 7 0), .int a1, .ref (gS γ 3000 0)] : List Value).toArray 4)
  refine rw_entry (ca1 rfl (ca1 rfl (ca1 rfl ca0))) (Nat.le_of_ble_eq_true rfl) (fun ls hl => ?_)
  refine rw_aload_n hX hl 2 rfl (Or.inr ⟨_, rfl⟩) dL_driverOf_0 rfl ?_
  refine lv_iconst (v := 0) hX.1.1 hX.1.2.1 dL_driverOf_1 rfl ?_
  refine rw_aload_n hX hl 0 rfl (Or.inr ⟨_, rfl⟩) dL_driverOf_2 rfl ?_
  refine rw_iload_n hX hl 1 rfl dL_driverOf_3 rfl ?_
  refine rw_xVi hX hR pk_f7_driverOf (mc := 1) (ms := 6) ⟨rfl, rfl, (show 16 + 1 ≤ 17 by omega), (show 8 + (4 + 11) + 64 * 16 ≤ 64 * 17 by omega)⟩ (As := [.int a1]) (rest := [.int 0, .ref (gS γ 3000 0)]) rfl (C_f7_driverOf l hfl γ ad a1 σ r hw) gw_825 gw_826 gw_827 (rs_recv hX hR 7 0 (C := RX6) (T := TX6) (N := 11) rfl (by decide) (Nat.le_of_ble_eq_true rfl) rfl) rfl hl.1 (ca1 rfl (ca1 rfl ca0)) (Nat.le_of_ble_eq_true rfl) dL_driverOf_4 ⟨(show 0 + 1 ≤ 1 by omega), (show 0 + 6 ≤ 6 by omega)⟩ (fun x ce q9 H1 locs1 hx hR1 h1 h2 h3 => ?_) (fun v1 H1 locs1 hx hR1 => ?_)
  · subst hx
    rcases he x rfl with rfl
    · refine rw_catch (ex := 1) (pre := []) (x := (0, 9, 12, 13)) (suf := []) hX hxt rfl (fun _ h => nomatch h) rfl (by decide) gw_194 nw_215 h1 h2 h3 ?_
      refine rw_astore_n (i := 3) hX hl (Nat.le_of_ble_eq_true rfl) rfl (Or.inr ⟨_, rfl⟩) dL_driverOf_12 rfl (fun ls1 hl1 => ?_)
      refine lv_iconst (v := 1) hX.1.1 hX.1.2.1 dL_driverOf_13 rfl ?_
      refine W.widen (k := 1) (n := 6) (by omega) (by omega) ?_
      exact rl_i hX hR1 hr rfl rfl dL_driverOf_14 hlocks
  subst hx
  refine lv_i2l hX.1.1 hX.1.2.1 dL_driverOf_7 rfl ?_
  refine rw_outst hX hR1 dL_driverOf_8 (fun H1 locs1 hR1 => ?_)
  refine lv_goto (tgt := 15) hX.1.1 hX.1.2.1 dL_driverOf_9 (by decide) ?_
  refine lv_iconst (v := 0) hX.1.1 hX.1.2.1 dL_driverOf_15 rfl ?_
  refine W.widen (k := 1) (n := 6) (by omega) (by omega) ?_
  exact rl_i hX hR1 hr rfl rfl dL_driverOf_16 hlocks
set_option maxHeartbeats 8000000 in
set_option maxRecDepth 100000 in
theorem L_window (l : Launch) (hfl : l.stackTraces = false) (γ : GT) (ad : Nat → Nat → Nat) {fu : Nat} (a1 : Int32) (σ : St) (r : Except Nat Int32) (hw : f7_window fu a1 σ = some r) (he : ∀ e, r = .error e → e = 1) : Met l yL_window (Cond.codeWith yL_window cL_window 4 (some .int) [(0, 9, 12, 13)] :: GW) (rmo 17 1 6) (va_Pc [.ref (gS γ 7 0), .int a1, .ref (gS γ 3000 0)] (RU γ ad σ)) (QL γ (hoi σ r) (hk (fun e => if e = 1 then 1 else 0) r)) 1 6 (gA γ) := by
  refine met_vx (vx_ofWH (cc := cL_window) (maxL := 4) (ret := some .int) (hh := [(0, 9, 12, 13)]) (by decide) rfl ?_)
  intro p e s m args below meth c s₁ B hml hv
  obtain ⟨rfl, hU⟩ := hv
  obtain ⟨hX, hR, hxt⟩ := cx_ofH (own := RL) B hml rfl hU
  have hr := B.returns
  have hlocks := B.notSynchronized
  show W p l e (rmo 17 1 6) s m ([.ref (gS γ 7 0), .int a1, .ref (gS γ 3000 0)] : List Value).toArray below meth c s.heap [] 0 0 (vx_MQ below (QL γ (hoi σ r) (hk (fun e => if e = 1 then 1 else 0) r)) (fun _ _ _ => False) ([.ref (gS γ 7 0), .int a1, .ref (gS γ 3000 0)] : List Value).toArray s 1 6 (gA γ)) (entryFrame m ([.ref (gS γ 7 0), .int a1, .ref (gS γ 3000 0)] : List Value).toArray 4)
  refine rw_entry (ca1 rfl (ca1 rfl (ca1 rfl ca0))) (Nat.le_of_ble_eq_true rfl) (fun ls hl => ?_)
  refine rw_aload_n hX hl 2 rfl (Or.inr ⟨_, rfl⟩) dL_window_0 rfl ?_
  refine lv_iconst (v := 0) hX.1.1 hX.1.2.1 dL_window_1 rfl ?_
  refine rw_aload_n hX hl 0 rfl (Or.inr ⟨_, rfl⟩) dL_window_2 rfl ?_
  refine rw_iload_n hX hl 1 rfl dL_window_3 rfl ?_
  refine rw_xVi hX hR pk_f7_window (mc := 1) (ms := 6) ⟨rfl, rfl, (show 16 + 1 ≤ 17 by omega), (show 8 + (2 + 11) + 64 * 16 ≤ 64 * 17 by omega)⟩ (As := [.int a1]) (rest := [.int 0, .ref (gS γ 3000 0)]) rfl (C_f7_window l hfl γ ad a1 σ r hw) gw_832 gw_833 gw_834 (rs_recv hX hR 7 0 (C := RX6) (T := TX6) (N := 11) rfl (by decide) (Nat.le_of_ble_eq_true rfl) rfl) rfl hl.1 (ca1 rfl (ca1 rfl ca0)) (Nat.le_of_ble_eq_true rfl) dL_window_4 ⟨(show 0 + 1 ≤ 1 by omega), (show 0 + 6 ≤ 6 by omega)⟩ (fun x ce q9 H1 locs1 hx hR1 h1 h2 h3 => ?_) (fun v1 H1 locs1 hx hR1 => ?_)
  · subst hx
    rcases he x rfl with rfl
    · refine rw_catch (ex := 1) (pre := []) (x := (0, 9, 12, 13)) (suf := []) hX hxt rfl (fun _ h => nomatch h) rfl (by decide) gw_194 nw_215 h1 h2 h3 ?_
      refine rw_astore_n (i := 3) hX hl (Nat.le_of_ble_eq_true rfl) rfl (Or.inr ⟨_, rfl⟩) dL_window_12 rfl (fun ls1 hl1 => ?_)
      refine lv_iconst (v := 1) hX.1.1 hX.1.2.1 dL_window_13 rfl ?_
      refine W.widen (k := 1) (n := 6) (by omega) (by omega) ?_
      exact rl_i hX hR1 hr rfl rfl dL_window_14 hlocks
  subst hx
  refine lv_i2l hX.1.1 hX.1.2.1 dL_window_7 rfl ?_
  refine rw_outst hX hR1 dL_window_8 (fun H1 locs1 hR1 => ?_)
  refine lv_goto (tgt := 15) hX.1.1 hX.1.2.1 dL_window_9 (by decide) ?_
  refine lv_iconst (v := 0) hX.1.1 hX.1.2.1 dL_window_15 rfl ?_
  refine W.widen (k := 1) (n := 6) (by omega) (by omega) ?_
  exact rl_i hX hR1 hr rfl rfl dL_window_16 hlocks
set_option maxHeartbeats 8000000 in
set_option maxRecDepth 100000 in
theorem L_isOn (l : Launch) (hfl : l.stackTraces = false) (γ : GT) (ad : Nat → Nat → Nat) {fu : Nat} (a1 : Int32) (σ : St) (r : Except Nat Bool) (hw : f7_isOn fu a1 σ = some r) (he : ∀ e, r = .error e → e = 1) : Met l yL_isOn (Cond.codeWith yL_isOn cL_isOn 4 (some .int) [(0, 16, 19, 13)] :: GW) (rmo 17 1 6) (va_Pc [.ref (gS γ 7 0), .int a1, .ref (gS γ 3000 0)] (RU γ ad σ)) (QL γ (hoz σ r) (hk (fun e => if e = 1 then 1 else 0) r)) 1 6 (gA γ) := by
  refine met_vx (vx_ofWH (cc := cL_isOn) (maxL := 4) (ret := some .int) (hh := [(0, 16, 19, 13)]) (by decide) rfl ?_)
  intro p e s m args below meth c s₁ B hml hv
  obtain ⟨rfl, hU⟩ := hv
  obtain ⟨hX, hR, hxt⟩ := cx_ofH (own := RL) B hml rfl hU
  have hr := B.returns
  have hlocks := B.notSynchronized
  show W p l e (rmo 17 1 6) s m ([.ref (gS γ 7 0), .int a1, .ref (gS γ 3000 0)] : List Value).toArray below meth c s.heap [] 0 0 (vx_MQ below (QL γ (hoz σ r) (hk (fun e => if e = 1 then 1 else 0) r)) (fun _ _ _ => False) ([.ref (gS γ 7 0), .int a1, .ref (gS γ 3000 0)] : List Value).toArray s 1 6 (gA γ)) (entryFrame m ([.ref (gS γ 7 0), .int a1, .ref (gS γ 3000 0)] : List Value).toArray 4)
  refine rw_entry (ca1 rfl (ca1 rfl (ca1 rfl ca0))) (Nat.le_of_ble_eq_true rfl) (fun ls hl => ?_)
  refine rw_aload_n hX hl 2 rfl (Or.inr ⟨_, rfl⟩) dL_isOn_0 rfl ?_
  refine lv_iconst (v := 0) hX.1.1 hX.1.2.1 dL_isOn_1 rfl ?_
  refine rw_aload_n hX hl 0 rfl (Or.inr ⟨_, rfl⟩) dL_isOn_2 rfl ?_
  refine rw_iload_n hX hl 1 rfl dL_isOn_3 rfl ?_
  refine rw_xVz hX hR pk_f7_isOn (mc := 1) (ms := 6) ⟨rfl, rfl, (show 16 + 1 ≤ 17 by omega), (show 8 + (2 + 11) + 64 * 16 ≤ 64 * 17 by omega)⟩ (As := [.int a1]) (rest := [.int 0, .ref (gS γ 3000 0)]) rfl (C_f7_isOn l hfl γ ad a1 σ r hw) gw_839 gw_840 gw_841 (rs_recv hX hR 7 0 (C := RX6) (T := TX6) (N := 11) rfl (by decide) (Nat.le_of_ble_eq_true rfl) rfl) rfl hl.1 (ca1 rfl (ca1 rfl ca0)) (Nat.le_of_ble_eq_true rfl) dL_isOn_4 ⟨(show 0 + 1 ≤ 1 by omega), (show 0 + 6 ≤ 6 by omega)⟩ (fun x ce q9 H1 locs1 hx hR1 h1 h2 h3 => ?_) (fun v1 H1 locs1 hx hR1 => ?_)
  · subst hx
    rcases he x rfl with rfl
    · refine rw_catch (ex := 1) (pre := []) (x := (0, 16, 19, 13)) (suf := []) hX hxt rfl (fun _ h => nomatch h) rfl (by decide) gw_194 nw_215 h1 h2 h3 ?_
      refine rw_astore_n (i := 3) hX hl (Nat.le_of_ble_eq_true rfl) rfl (Or.inr ⟨_, rfl⟩) dL_isOn_19 rfl (fun ls1 hl1 => ?_)
      refine lv_iconst (v := 1) hX.1.1 hX.1.2.1 dL_isOn_20 rfl ?_
      refine W.widen (k := 1) (n := 6) (by omega) (by omega) ?_
      exact rl_i hX hR1 hr rfl rfl dL_isOn_21 hlocks
  subst hx
  refine rw_ifeqZ (b := v1) (tgt := 14) hX dL_isOn_7 (by decide) (fun c0 => ?_) (fun c0 => ?_)
  · skip
    refine lv_lconst (v := 0) hX.1.1 hX.1.2.1 dL_isOn_14 rfl ?_
    refine rw_outst hX hR1 dL_isOn_15 (fun H1 locs1 hR1 => ?_)
    refine lv_goto (tgt := 22) hX.1.1 hX.1.2.1 dL_isOn_16 (by decide) ?_
    refine lv_iconst (v := 0) hX.1.1 hX.1.2.1 dL_isOn_22 rfl ?_
    refine W.widen (k := 1) (n := 6) (by omega) (by omega) ?_
    exact rl_i hX hR1 hr rfl (by simp [hoz, c0]) dL_isOn_23 hlocks
  · skip
    refine lv_lconst (v := 1) hX.1.1 hX.1.2.1 dL_isOn_10 rfl ?_
    refine lv_goto (tgt := 15) hX.1.1 hX.1.2.1 dL_isOn_11 (by decide) ?_
    refine rw_outst hX hR1 dL_isOn_15 (fun H1 locs1 hR1 => ?_)
    refine lv_goto (tgt := 22) hX.1.1 hX.1.2.1 dL_isOn_16 (by decide) ?_
    refine lv_iconst (v := 0) hX.1.1 hX.1.2.1 dL_isOn_22 rfl ?_
    refine W.widen (k := 1) (n := 6) (by omega) (by omega) ?_
    exact rl_i hX hR1 hr rfl (by simp [hoz, c0]) dL_isOn_23 hlocks
set_option maxHeartbeats 8000000 in
set_option maxRecDepth 100000 in
theorem L_isPending (l : Launch) (hfl : l.stackTraces = false) (γ : GT) (ad : Nat → Nat → Nat) {fu : Nat} (a1 : Int32) (σ : St) (r : Except Nat Bool) (hw : f7_isPending fu a1 σ = some r) (he : ∀ e, r = .error e → e = 1) : Met l yL_isPending (Cond.codeWith yL_isPending cL_isPending 4 (some .int) [(0, 16, 19, 13)] :: GW) (rmo 17 1 6) (va_Pc [.ref (gS γ 7 0), .int a1, .ref (gS γ 3000 0)] (RU γ ad σ)) (QL γ (hoz σ r) (hk (fun e => if e = 1 then 1 else 0) r)) 1 6 (gA γ) := by
  refine met_vx (vx_ofWH (cc := cL_isPending) (maxL := 4) (ret := some .int) (hh := [(0, 16, 19, 13)]) (by decide) rfl ?_)
  intro p e s m args below meth c s₁ B hml hv
  obtain ⟨rfl, hU⟩ := hv
  obtain ⟨hX, hR, hxt⟩ := cx_ofH (own := RL) B hml rfl hU
  have hr := B.returns
  have hlocks := B.notSynchronized
  show W p l e (rmo 17 1 6) s m ([.ref (gS γ 7 0), .int a1, .ref (gS γ 3000 0)] : List Value).toArray below meth c s.heap [] 0 0 (vx_MQ below (QL γ (hoz σ r) (hk (fun e => if e = 1 then 1 else 0) r)) (fun _ _ _ => False) ([.ref (gS γ 7 0), .int a1, .ref (gS γ 3000 0)] : List Value).toArray s 1 6 (gA γ)) (entryFrame m ([.ref (gS γ 7 0), .int a1, .ref (gS γ 3000 0)] : List Value).toArray 4)
  refine rw_entry (ca1 rfl (ca1 rfl (ca1 rfl ca0))) (Nat.le_of_ble_eq_true rfl) (fun ls hl => ?_)
  refine rw_aload_n hX hl 2 rfl (Or.inr ⟨_, rfl⟩) dL_isPending_0 rfl ?_
  refine lv_iconst (v := 0) hX.1.1 hX.1.2.1 dL_isPending_1 rfl ?_
  refine rw_aload_n hX hl 0 rfl (Or.inr ⟨_, rfl⟩) dL_isPending_2 rfl ?_
  refine rw_iload_n hX hl 1 rfl dL_isPending_3 rfl ?_
  refine rw_xVz hX hR pk_f7_isPending (mc := 1) (ms := 6) ⟨rfl, rfl, (show 16 + 1 ≤ 17 by omega), (show 8 + (2 + 11) + 64 * 16 ≤ 64 * 17 by omega)⟩ (As := [.int a1]) (rest := [.int 0, .ref (gS γ 3000 0)]) rfl (C_f7_isPending l hfl γ ad a1 σ r hw) gw_846 gw_847 gw_848 (rs_recv hX hR 7 0 (C := RX6) (T := TX6) (N := 11) rfl (by decide) (Nat.le_of_ble_eq_true rfl) rfl) rfl hl.1 (ca1 rfl (ca1 rfl ca0)) (Nat.le_of_ble_eq_true rfl) dL_isPending_4 ⟨(show 0 + 1 ≤ 1 by omega), (show 0 + 6 ≤ 6 by omega)⟩ (fun x ce q9 H1 locs1 hx hR1 h1 h2 h3 => ?_) (fun v1 H1 locs1 hx hR1 => ?_)
  · subst hx
    rcases he x rfl with rfl
    · refine rw_catch (ex := 1) (pre := []) (x := (0, 16, 19, 13)) (suf := []) hX hxt rfl (fun _ h => nomatch h) rfl (by decide) gw_194 nw_215 h1 h2 h3 ?_
      refine rw_astore_n (i := 3) hX hl (Nat.le_of_ble_eq_true rfl) rfl (Or.inr ⟨_, rfl⟩) dL_isPending_19 rfl (fun ls1 hl1 => ?_)
      refine lv_iconst (v := 1) hX.1.1 hX.1.2.1 dL_isPending_20 rfl ?_
      refine W.widen (k := 1) (n := 6) (by omega) (by omega) ?_
      exact rl_i hX hR1 hr rfl rfl dL_isPending_21 hlocks
  subst hx
  refine rw_ifeqZ (b := v1) (tgt := 14) hX dL_isPending_7 (by decide) (fun c0 => ?_) (fun c0 => ?_)
  · skip
    refine lv_lconst (v := 0) hX.1.1 hX.1.2.1 dL_isPending_14 rfl ?_
    refine rw_outst hX hR1 dL_isPending_15 (fun H1 locs1 hR1 => ?_)
    refine lv_goto (tgt := 22) hX.1.1 hX.1.2.1 dL_isPending_16 (by decide) ?_
    refine lv_iconst (v := 0) hX.1.1 hX.1.2.1 dL_isPending_22 rfl ?_
    refine W.widen (k := 1) (n := 6) (by omega) (by omega) ?_
    exact rl_i hX hR1 hr rfl (by simp [hoz, c0]) dL_isPending_23 hlocks
  · skip
    refine lv_lconst (v := 1) hX.1.1 hX.1.2.1 dL_isPending_10 rfl ?_
    refine lv_goto (tgt := 15) hX.1.1 hX.1.2.1 dL_isPending_11 (by decide) ?_
    refine rw_outst hX hR1 dL_isPending_15 (fun H1 locs1 hR1 => ?_)
    refine lv_goto (tgt := 22) hX.1.1 hX.1.2.1 dL_isPending_16 (by decide) ?_
    refine lv_iconst (v := 0) hX.1.1 hX.1.2.1 dL_isPending_22 rfl ?_
    refine W.widen (k := 1) (n := 6) (by omega) (by omega) ?_
    exact rl_i hX hR1 hr rfl (by simp [hoz, c0]) dL_isPending_23 hlocks
set_option maxHeartbeats 8000000 in
set_option maxRecDepth 100000 in
theorem L_strikes (l : Launch) (hfl : l.stackTraces = false) (γ : GT) (ad : Nat → Nat → Nat) {fu : Nat} (a1 : Int32) (σ : St) (r : Except Nat Int32) (hw : f7_strikes fu a1 σ = some r) (he : ∀ e, r = .error e → e = 1) : Met l yL_strikes (Cond.codeWith yL_strikes cL_strikes 4 (some .int) [(0, 9, 12, 13)] :: GW) (rmo 10 1 6) (va_Pc [.ref (gS γ 7 0), .int a1, .ref (gS γ 3000 0)] (RU γ ad σ)) (QL γ (hoi σ r) (hk (fun e => if e = 1 then 1 else 0) r)) 1 6 (gA γ) := by
  refine met_vx (vx_ofWH (cc := cL_strikes) (maxL := 4) (ret := some .int) (hh := [(0, 9, 12, 13)]) (by decide) rfl ?_)
  intro p e s m args below meth c s₁ B hml hv
  obtain ⟨rfl, hU⟩ := hv
  obtain ⟨hX, hR, hxt⟩ := cx_ofH (own := RL) B hml rfl hU
  have hr := B.returns
  have hlocks := B.notSynchronized
  show W p l e (rmo 10 1 6) s m ([.ref (gS γ 7 0), .int a1, .ref (gS γ 3000 0)] : List Value).toArray below meth c s.heap [] 0 0 (vx_MQ below (QL γ (hoi σ r) (hk (fun e => if e = 1 then 1 else 0) r)) (fun _ _ _ => False) ([.ref (gS γ 7 0), .int a1, .ref (gS γ 3000 0)] : List Value).toArray s 1 6 (gA γ)) (entryFrame m ([.ref (gS γ 7 0), .int a1, .ref (gS γ 3000 0)] : List Value).toArray 4)
  refine rw_entry (ca1 rfl (ca1 rfl (ca1 rfl ca0))) (Nat.le_of_ble_eq_true rfl) (fun ls hl => ?_)
  refine rw_aload_n hX hl 2 rfl (Or.inr ⟨_, rfl⟩) dL_strikes_0 rfl ?_
  refine lv_iconst (v := 0) hX.1.1 hX.1.2.1 dL_strikes_1 rfl ?_
  refine rw_aload_n hX hl 0 rfl (Or.inr ⟨_, rfl⟩) dL_strikes_2 rfl ?_
  refine rw_iload_n hX hl 1 rfl dL_strikes_3 rfl ?_
  refine rw_xVi hX hR pk_f7_strikes (mc := 1) (ms := 6) ⟨rfl, rfl, (show 9 + 1 ≤ 10 by omega), (show 8 + (2 + 11) + 64 * 9 ≤ 64 * 10 by omega)⟩ (As := [.int a1]) (rest := [.int 0, .ref (gS γ 3000 0)]) rfl (C_f7_strikes l hfl γ ad a1 σ r hw) gw_853 gw_778 gw_779 (rs_recv hX hR 7 0 (C := RX6) (T := TX6) (N := 11) rfl (by decide) (Nat.le_of_ble_eq_true rfl) rfl) rfl hl.1 (ca1 rfl (ca1 rfl ca0)) (Nat.le_of_ble_eq_true rfl) dL_strikes_4 ⟨(show 0 + 1 ≤ 1 by omega), (show 0 + 6 ≤ 6 by omega)⟩ (fun x ce q9 H1 locs1 hx hR1 h1 h2 h3 => ?_) (fun v1 H1 locs1 hx hR1 => ?_)
  · subst hx
    rcases he x rfl with rfl
    · refine rw_catch (ex := 1) (pre := []) (x := (0, 9, 12, 13)) (suf := []) hX hxt rfl (fun _ h => nomatch h) rfl (by decide) gw_194 nw_215 h1 h2 h3 ?_
      refine rw_astore_n (i := 3) hX hl (Nat.le_of_ble_eq_true rfl) rfl (Or.inr ⟨_, rfl⟩) dL_strikes_12 rfl (fun ls1 hl1 => ?_)
      refine lv_iconst (v := 1) hX.1.1 hX.1.2.1 dL_strikes_13 rfl ?_
      refine W.widen (k := 1) (n := 6) (by omega) (by omega) ?_
      exact rl_i hX hR1 hr rfl rfl dL_strikes_14 hlocks
  subst hx
  refine lv_i2l hX.1.1 hX.1.2.1 dL_strikes_7 rfl ?_
  refine rw_outst hX hR1 dL_strikes_8 (fun H1 locs1 hR1 => ?_)
  refine lv_goto (tgt := 15) hX.1.1 hX.1.2.1 dL_strikes_9 (by decide) ?_
  refine lv_iconst (v := 0) hX.1.1 hX.1.2.1 dL_strikes_15 rfl ?_
  refine W.widen (k := 1) (n := 6) (by omega) (by omega) ?_
  exact rl_i hX hR1 hr rfl rfl dL_strikes_16 hlocks
set_option maxHeartbeats 8000000 in
set_option maxRecDepth 100000 in
theorem L_handles (l : Launch) (hfl : l.stackTraces = false) (γ : GT) (ad : Nat → Nat → Nat) {fu : Nat} (a1 : Int32) (σ : St) (r : Except Nat Int32) (hw : f7_handles fu a1 σ = some r) (he : ∀ e, r = .error e → e = 1) : Met l yL_handles (Cond.codeWith yL_handles cL_handles 4 (some .int) [(0, 9, 12, 13)] :: GW) (rmo 17 1 6) (va_Pc [.ref (gS γ 7 0), .int a1, .ref (gS γ 3000 0)] (RU γ ad σ)) (QL γ (hoi σ r) (hk (fun e => if e = 1 then 1 else 0) r)) 1 6 (gA γ) := by
  refine met_vx (vx_ofWH (cc := cL_handles) (maxL := 4) (ret := some .int) (hh := [(0, 9, 12, 13)]) (by decide) rfl ?_)
  intro p e s m args below meth c s₁ B hml hv
  obtain ⟨rfl, hU⟩ := hv
  obtain ⟨hX, hR, hxt⟩ := cx_ofH (own := RL) B hml rfl hU
  have hr := B.returns
  have hlocks := B.notSynchronized
  show W p l e (rmo 17 1 6) s m ([.ref (gS γ 7 0), .int a1, .ref (gS γ 3000 0)] : List Value).toArray below meth c s.heap [] 0 0 (vx_MQ below (QL γ (hoi σ r) (hk (fun e => if e = 1 then 1 else 0) r)) (fun _ _ _ => False) ([.ref (gS γ 7 0), .int a1, .ref (gS γ 3000 0)] : List Value).toArray s 1 6 (gA γ)) (entryFrame m ([.ref (gS γ 7 0), .int a1, .ref (gS γ 3000 0)] : List Value).toArray 4)
  refine rw_entry (ca1 rfl (ca1 rfl (ca1 rfl ca0))) (Nat.le_of_ble_eq_true rfl) (fun ls hl => ?_)
  refine rw_aload_n hX hl 2 rfl (Or.inr ⟨_, rfl⟩) dL_handles_0 rfl ?_
  refine lv_iconst (v := 0) hX.1.1 hX.1.2.1 dL_handles_1 rfl ?_
  refine rw_aload_n hX hl 0 rfl (Or.inr ⟨_, rfl⟩) dL_handles_2 rfl ?_
  refine rw_iload_n hX hl 1 rfl dL_handles_3 rfl ?_
  refine rw_xVi hX hR pk_f7_handles (mc := 1) (ms := 6) ⟨rfl, rfl, (show 16 + 1 ≤ 17 by omega), (show 8 + (6 + 11) + 64 * 16 ≤ 64 * 17 by omega)⟩ (As := [.int a1]) (rest := [.int 0, .ref (gS γ 3000 0)]) rfl (C_f7_handles l hfl γ ad a1 σ r hw) gw_857 gw_858 gw_859 (rs_recv hX hR 7 0 (C := RX6) (T := TX6) (N := 11) rfl (by decide) (Nat.le_of_ble_eq_true rfl) rfl) rfl hl.1 (ca1 rfl (ca1 rfl ca0)) (Nat.le_of_ble_eq_true rfl) dL_handles_4 ⟨(show 0 + 1 ≤ 1 by omega), (show 0 + 6 ≤ 6 by omega)⟩ (fun x ce q9 H1 locs1 hx hR1 h1 h2 h3 => ?_) (fun v1 H1 locs1 hx hR1 => ?_)
  · subst hx
    rcases he x rfl with rfl
    · refine rw_catch (ex := 1) (pre := []) (x := (0, 9, 12, 13)) (suf := []) hX hxt rfl (fun _ h => nomatch h) rfl (by decide) gw_194 nw_215 h1 h2 h3 ?_
      refine rw_astore_n (i := 3) hX hl (Nat.le_of_ble_eq_true rfl) rfl (Or.inr ⟨_, rfl⟩) dL_handles_12 rfl (fun ls1 hl1 => ?_)
      refine lv_iconst (v := 1) hX.1.1 hX.1.2.1 dL_handles_13 rfl ?_
      refine W.widen (k := 1) (n := 6) (by omega) (by omega) ?_
      exact rl_i hX hR1 hr rfl rfl dL_handles_14 hlocks
  subst hx
  refine lv_i2l hX.1.1 hX.1.2.1 dL_handles_7 rfl ?_
  refine rw_outst hX hR1 dL_handles_8 (fun H1 locs1 hR1 => ?_)
  refine lv_goto (tgt := 15) hX.1.1 hX.1.2.1 dL_handles_9 (by decide) ?_
  refine lv_iconst (v := 0) hX.1.1 hX.1.2.1 dL_handles_15 rfl ?_
  refine W.widen (k := 1) (n := 6) (by omega) (by omega) ?_
  exact rl_i hX hR1 hr rfl rfl dL_handles_16 hlocks
set_option maxHeartbeats 8000000 in
set_option maxRecDepth 100000 in
theorem L_callState (l : Launch) (hfl : l.stackTraces = false) (γ : GT) (ad : Nat → Nat → Nat) {fu : Nat} (a1 : Int32) (σ : St) (r : Except Nat Int32) (hw : f7_callState fu a1 σ = some r) (he : ∀ e, r = .error e → e = 1) : Met l yL_callState (Cond.codeWith yL_callState cL_callState 4 (some .int) [(0, 9, 12, 13)] :: GW) (rmo 16 1 6) (va_Pc [.ref (gS γ 7 0), .int a1, .ref (gS γ 3000 0)] (RU γ ad σ)) (QL γ (hoi σ r) (hk (fun e => if e = 1 then 1 else 0) r)) 1 6 (gA γ) := by
  refine met_vx (vx_ofWH (cc := cL_callState) (maxL := 4) (ret := some .int) (hh := [(0, 9, 12, 13)]) (by decide) rfl ?_)
  intro p e s m args below meth c s₁ B hml hv
  obtain ⟨rfl, hU⟩ := hv
  obtain ⟨hX, hR, hxt⟩ := cx_ofH (own := RL) B hml rfl hU
  have hr := B.returns
  have hlocks := B.notSynchronized
  show W p l e (rmo 16 1 6) s m ([.ref (gS γ 7 0), .int a1, .ref (gS γ 3000 0)] : List Value).toArray below meth c s.heap [] 0 0 (vx_MQ below (QL γ (hoi σ r) (hk (fun e => if e = 1 then 1 else 0) r)) (fun _ _ _ => False) ([.ref (gS γ 7 0), .int a1, .ref (gS γ 3000 0)] : List Value).toArray s 1 6 (gA γ)) (entryFrame m ([.ref (gS γ 7 0), .int a1, .ref (gS γ 3000 0)] : List Value).toArray 4)
  refine rw_entry (ca1 rfl (ca1 rfl (ca1 rfl ca0))) (Nat.le_of_ble_eq_true rfl) (fun ls hl => ?_)
  refine rw_aload_n hX hl 2 rfl (Or.inr ⟨_, rfl⟩) dL_callState_0 rfl ?_
  refine lv_iconst (v := 0) hX.1.1 hX.1.2.1 dL_callState_1 rfl ?_
  refine rw_aload_n hX hl 0 rfl (Or.inr ⟨_, rfl⟩) dL_callState_2 rfl ?_
  refine rw_iload_n hX hl 1 rfl dL_callState_3 rfl ?_
  refine rw_xVi hX hR pk_f7_callState (mc := 1) (ms := 6) ⟨rfl, rfl, (show 15 + 1 ≤ 16 by omega), (show 8 + (2 + 11) + 64 * 15 ≤ 64 * 16 by omega)⟩ (As := [.int a1]) (rest := [.int 0, .ref (gS γ 3000 0)]) rfl (C_f7_callState l hfl γ ad a1 σ r hw) gw_864 gw_865 gw_866 (rs_recv hX hR 7 0 (C := RX6) (T := TX6) (N := 11) rfl (by decide) (Nat.le_of_ble_eq_true rfl) rfl) rfl hl.1 (ca1 rfl (ca1 rfl ca0)) (Nat.le_of_ble_eq_true rfl) dL_callState_4 ⟨(show 0 + 1 ≤ 1 by omega), (show 0 + 6 ≤ 6 by omega)⟩ (fun x ce q9 H1 locs1 hx hR1 h1 h2 h3 => ?_) (fun v1 H1 locs1 hx hR1 => ?_)
  · subst hx
    rcases he x rfl with rfl
    · refine rw_catch (ex := 1) (pre := []) (x := (0, 9, 12, 13)) (suf := []) hX hxt rfl (fun _ h => nomatch h) rfl (by decide) gw_194 nw_215 h1 h2 h3 ?_
      refine rw_astore_n (i := 3) hX hl (Nat.le_of_ble_eq_true rfl) rfl (Or.inr ⟨_, rfl⟩) dL_callState_12 rfl (fun ls1 hl1 => ?_)
      refine lv_iconst (v := 1) hX.1.1 hX.1.2.1 dL_callState_13 rfl ?_
      refine W.widen (k := 1) (n := 6) (by omega) (by omega) ?_
      exact rl_i hX hR1 hr rfl rfl dL_callState_14 hlocks
  subst hx
  refine lv_i2l hX.1.1 hX.1.2.1 dL_callState_7 rfl ?_
  refine rw_outst hX hR1 dL_callState_8 (fun H1 locs1 hR1 => ?_)
  refine lv_goto (tgt := 15) hX.1.1 hX.1.2.1 dL_callState_9 (by decide) ?_
  refine lv_iconst (v := 0) hX.1.1 hX.1.2.1 dL_callState_15 rfl ?_
  refine W.widen (k := 1) (n := 6) (by omega) (by omega) ?_
  exact rl_i hX hR1 hr rfl rfl dL_callState_16 hlocks
set_option maxHeartbeats 8000000 in
set_option maxRecDepth 100000 in
theorem L_given (l : Launch) (hfl : l.stackTraces = false) (γ : GT) (ad : Nat → Nat → Nat) {fu : Nat} (a1 : Int32) (σ : St) (r : Except Nat Int32) (hw : f7_given fu a1 σ = some r) (he : ∀ e, r = .error e → e = 2) : Met l yL_given (Cond.codeWith yL_given cL_given 4 (some .int) [(0, 9, 12, 15)] :: GW) (rmo 17 1 6) (va_Pc [.ref (gS γ 7 0), .int a1, .ref (gS γ 3000 0)] (RU γ ad σ)) (QL γ (hoi σ r) (hk (fun e => if e = 2 then 1 else 0) r)) 1 6 (gA γ) := by
  refine met_vx (vx_ofWH (cc := cL_given) (maxL := 4) (ret := some .int) (hh := [(0, 9, 12, 15)]) (by decide) rfl ?_)
  intro p e s m args below meth c s₁ B hml hv
  obtain ⟨rfl, hU⟩ := hv
  obtain ⟨hX, hR, hxt⟩ := cx_ofH (own := RL) B hml rfl hU
  have hr := B.returns
  have hlocks := B.notSynchronized
  show W p l e (rmo 17 1 6) s m ([.ref (gS γ 7 0), .int a1, .ref (gS γ 3000 0)] : List Value).toArray below meth c s.heap [] 0 0 (vx_MQ below (QL γ (hoi σ r) (hk (fun e => if e = 2 then 1 else 0) r)) (fun _ _ _ => False) ([.ref (gS γ 7 0), .int a1, .ref (gS γ 3000 0)] : List Value).toArray s 1 6 (gA γ)) (entryFrame m ([.ref (gS γ 7 0), .int a1, .ref (gS γ 3000 0)] : List Value).toArray 4)
  refine rw_entry (ca1 rfl (ca1 rfl (ca1 rfl ca0))) (Nat.le_of_ble_eq_true rfl) (fun ls hl => ?_)
  refine rw_aload_n hX hl 2 rfl (Or.inr ⟨_, rfl⟩) dL_given_0 rfl ?_
  refine lv_iconst (v := 0) hX.1.1 hX.1.2.1 dL_given_1 rfl ?_
  refine rw_aload_n hX hl 0 rfl (Or.inr ⟨_, rfl⟩) dL_given_2 rfl ?_
  refine rw_iload_n hX hl 1 rfl dL_given_3 rfl ?_
  refine rw_xVi hX hR pk_f7_given (mc := 1) (ms := 6) ⟨rfl, rfl, (show 16 + 1 ≤ 17 by omega), (show 8 + (2 + 11) + 64 * 16 ≤ 64 * 17 by omega)⟩ (As := [.int a1]) (rest := [.int 0, .ref (gS γ 3000 0)]) rfl (C_f7_given l hfl γ ad a1 σ r hw) gw_872 gw_873 gw_874 (rs_recv hX hR 7 0 (C := RX6) (T := TX6) (N := 11) rfl (by decide) (Nat.le_of_ble_eq_true rfl) rfl) rfl hl.1 (ca1 rfl (ca1 rfl ca0)) (Nat.le_of_ble_eq_true rfl) dL_given_4 ⟨(show 0 + 1 ≤ 1 by omega), (show 0 + 6 ≤ 6 by omega)⟩ (fun x ce q9 H1 locs1 hx hR1 h1 h2 h3 => ?_) (fun v1 H1 locs1 hx hR1 => ?_)
  · subst hx
    rcases he x rfl with rfl
    · refine rw_catch (ex := 2) (pre := []) (x := (0, 9, 12, 15)) (suf := []) hX hxt rfl (fun _ h => nomatch h) rfl (by decide) gw_195 nw_305 h1 h2 h3 ?_
      refine rw_astore_n (i := 3) hX hl (Nat.le_of_ble_eq_true rfl) rfl (Or.inr ⟨_, rfl⟩) dL_given_12 rfl (fun ls1 hl1 => ?_)
      refine lv_iconst (v := 1) hX.1.1 hX.1.2.1 dL_given_13 rfl ?_
      refine W.widen (k := 1) (n := 6) (by omega) (by omega) ?_
      exact rl_i hX hR1 hr rfl rfl dL_given_14 hlocks
  subst hx
  refine lv_i2l hX.1.1 hX.1.2.1 dL_given_7 rfl ?_
  refine rw_outst hX hR1 dL_given_8 (fun H1 locs1 hR1 => ?_)
  refine lv_goto (tgt := 15) hX.1.1 hX.1.2.1 dL_given_9 (by decide) ?_
  refine lv_iconst (v := 0) hX.1.1 hX.1.2.1 dL_given_15 rfl ?_
  refine W.widen (k := 1) (n := 6) (by omega) (by omega) ?_
  exact rl_i hX hR1 hr rfl rfl dL_given_16 hlocks
set_option maxHeartbeats 8000000 in
set_option maxRecDepth 100000 in
theorem L_eventKind (l : Launch) (hfl : l.stackTraces = false) (γ : GT) (ad : Nat → Nat → Nat) {fu : Nat} (a1 : Int32) (σ : St) (r : Except Nat Int32) (hw : f7_eventKind fu a1 σ = some r) (he : ∀ e, r = .error e → e = 1) : Met l yL_eventKind (Cond.codeWith yL_eventKind cL_eventKind 4 (some .int) [(0, 9, 12, 13)] :: GW) (rmo 9 1 6) (va_Pc [.ref (gS γ 7 0), .int a1, .ref (gS γ 3000 0)] (RU γ ad σ)) (QL γ (hoi σ r) (hk (fun e => if e = 1 then 1 else 0) r)) 1 6 (gA γ) := by
  refine met_vx (vx_ofWH (cc := cL_eventKind) (maxL := 4) (ret := some .int) (hh := [(0, 9, 12, 13)]) (by decide) rfl ?_)
  intro p e s m args below meth c s₁ B hml hv
  obtain ⟨rfl, hU⟩ := hv
  obtain ⟨hX, hR, hxt⟩ := cx_ofH (own := RL) B hml rfl hU
  have hr := B.returns
  have hlocks := B.notSynchronized
  show W p l e (rmo 9 1 6) s m ([.ref (gS γ 7 0), .int a1, .ref (gS γ 3000 0)] : List Value).toArray below meth c s.heap [] 0 0 (vx_MQ below (QL γ (hoi σ r) (hk (fun e => if e = 1 then 1 else 0) r)) (fun _ _ _ => False) ([.ref (gS γ 7 0), .int a1, .ref (gS γ 3000 0)] : List Value).toArray s 1 6 (gA γ)) (entryFrame m ([.ref (gS γ 7 0), .int a1, .ref (gS γ 3000 0)] : List Value).toArray 4)
  refine rw_entry (ca1 rfl (ca1 rfl (ca1 rfl ca0))) (Nat.le_of_ble_eq_true rfl) (fun ls hl => ?_)
  refine rw_aload_n hX hl 2 rfl (Or.inr ⟨_, rfl⟩) dL_eventKind_0 rfl ?_
  refine lv_iconst (v := 0) hX.1.1 hX.1.2.1 dL_eventKind_1 rfl ?_
  refine rw_aload_n hX hl 0 rfl (Or.inr ⟨_, rfl⟩) dL_eventKind_2 rfl ?_
  refine rw_iload_n hX hl 1 rfl dL_eventKind_3 rfl ?_
  refine rw_xVi hX hR pk_f7_eventKind (mc := 1) (ms := 6) ⟨rfl, rfl, (show 8 + 1 ≤ 9 by omega), (show 8 + (2 + 11) + 64 * 8 ≤ 64 * 9 by omega)⟩ (As := [.int a1]) (rest := [.int 0, .ref (gS γ 3000 0)]) rfl (C_f7_eventKind l hfl γ ad a1 σ r hw) gw_898 gw_899 gw_900 (rs_recv hX hR 7 0 (C := RX6) (T := TX6) (N := 11) rfl (by decide) (Nat.le_of_ble_eq_true rfl) rfl) rfl hl.1 (ca1 rfl (ca1 rfl ca0)) (Nat.le_of_ble_eq_true rfl) dL_eventKind_4 ⟨(show 0 + 1 ≤ 1 by omega), (show 0 + 6 ≤ 6 by omega)⟩ (fun x ce q9 H1 locs1 hx hR1 h1 h2 h3 => ?_) (fun v1 H1 locs1 hx hR1 => ?_)
  · subst hx
    rcases he x rfl with rfl
    · refine rw_catch (ex := 1) (pre := []) (x := (0, 9, 12, 13)) (suf := []) hX hxt rfl (fun _ h => nomatch h) rfl (by decide) gw_194 nw_215 h1 h2 h3 ?_
      refine rw_astore_n (i := 3) hX hl (Nat.le_of_ble_eq_true rfl) rfl (Or.inr ⟨_, rfl⟩) dL_eventKind_12 rfl (fun ls1 hl1 => ?_)
      refine lv_iconst (v := 1) hX.1.1 hX.1.2.1 dL_eventKind_13 rfl ?_
      refine W.widen (k := 1) (n := 6) (by omega) (by omega) ?_
      exact rl_i hX hR1 hr rfl rfl dL_eventKind_14 hlocks
  subst hx
  refine lv_i2l hX.1.1 hX.1.2.1 dL_eventKind_7 rfl ?_
  refine rw_outst hX hR1 dL_eventKind_8 (fun H1 locs1 hR1 => ?_)
  refine lv_goto (tgt := 15) hX.1.1 hX.1.2.1 dL_eventKind_9 (by decide) ?_
  refine lv_iconst (v := 0) hX.1.1 hX.1.2.1 dL_eventKind_15 rfl ?_
  refine W.widen (k := 1) (n := 6) (by omega) (by omega) ?_
  exact rl_i hX hR1 hr rfl rfl dL_eventKind_16 hlocks
set_option maxHeartbeats 8000000 in
set_option maxRecDepth 100000 in
theorem L_eventOf (l : Launch) (hfl : l.stackTraces = false) (γ : GT) (ad : Nat → Nat → Nat) {fu : Nat} (a1 : Int32) (σ : St) (r : Except Nat Int32) (hw : f7_eventOf fu a1 σ = some r) (he : ∀ e, r = .error e → e = 1) : Met l yL_eventOf (Cond.codeWith yL_eventOf cL_eventOf 4 (some .int) [(0, 9, 12, 13)] :: GW) (rmo 9 1 6) (va_Pc [.ref (gS γ 7 0), .int a1, .ref (gS γ 3000 0)] (RU γ ad σ)) (QL γ (hoi σ r) (hk (fun e => if e = 1 then 1 else 0) r)) 1 6 (gA γ) := by
  refine met_vx (vx_ofWH (cc := cL_eventOf) (maxL := 4) (ret := some .int) (hh := [(0, 9, 12, 13)]) (by decide) rfl ?_)
  intro p e s m args below meth c s₁ B hml hv
  obtain ⟨rfl, hU⟩ := hv
  obtain ⟨hX, hR, hxt⟩ := cx_ofH (own := RL) B hml rfl hU
  have hr := B.returns
  have hlocks := B.notSynchronized
  show W p l e (rmo 9 1 6) s m ([.ref (gS γ 7 0), .int a1, .ref (gS γ 3000 0)] : List Value).toArray below meth c s.heap [] 0 0 (vx_MQ below (QL γ (hoi σ r) (hk (fun e => if e = 1 then 1 else 0) r)) (fun _ _ _ => False) ([.ref (gS γ 7 0), .int a1, .ref (gS γ 3000 0)] : List Value).toArray s 1 6 (gA γ)) (entryFrame m ([.ref (gS γ 7 0), .int a1, .ref (gS γ 3000 0)] : List Value).toArray 4)
  refine rw_entry (ca1 rfl (ca1 rfl (ca1 rfl ca0))) (Nat.le_of_ble_eq_true rfl) (fun ls hl => ?_)
  refine rw_aload_n hX hl 2 rfl (Or.inr ⟨_, rfl⟩) dL_eventOf_0 rfl ?_
  refine lv_iconst (v := 0) hX.1.1 hX.1.2.1 dL_eventOf_1 rfl ?_
  refine rw_aload_n hX hl 0 rfl (Or.inr ⟨_, rfl⟩) dL_eventOf_2 rfl ?_
  refine rw_iload_n hX hl 1 rfl dL_eventOf_3 rfl ?_
  refine rw_xVi hX hR pk_f7_eventOf (mc := 1) (ms := 6) ⟨rfl, rfl, (show 8 + 1 ≤ 9 by omega), (show 8 + (2 + 11) + 64 * 8 ≤ 64 * 9 by omega)⟩ (As := [.int a1]) (rest := [.int 0, .ref (gS γ 3000 0)]) rfl (C_f7_eventOf l hfl γ ad a1 σ r hw) gw_914 gw_915 gw_916 (rs_recv hX hR 7 0 (C := RX6) (T := TX6) (N := 11) rfl (by decide) (Nat.le_of_ble_eq_true rfl) rfl) rfl hl.1 (ca1 rfl (ca1 rfl ca0)) (Nat.le_of_ble_eq_true rfl) dL_eventOf_4 ⟨(show 0 + 1 ≤ 1 by omega), (show 0 + 6 ≤ 6 by omega)⟩ (fun x ce q9 H1 locs1 hx hR1 h1 h2 h3 => ?_) (fun v1 H1 locs1 hx hR1 => ?_)
  · subst hx
    rcases he x rfl with rfl
    · refine rw_catch (ex := 1) (pre := []) (x := (0, 9, 12, 13)) (suf := []) hX hxt rfl (fun _ h => nomatch h) rfl (by decide) gw_194 nw_215 h1 h2 h3 ?_
      refine rw_astore_n (i := 3) hX hl (Nat.le_of_ble_eq_true rfl) rfl (Or.inr ⟨_, rfl⟩) dL_eventOf_12 rfl (fun ls1 hl1 => ?_)
      refine lv_iconst (v := 1) hX.1.1 hX.1.2.1 dL_eventOf_13 rfl ?_
      refine W.widen (k := 1) (n := 6) (by omega) (by omega) ?_
      exact rl_i hX hR1 hr rfl rfl dL_eventOf_14 hlocks
  subst hx
  refine lv_i2l hX.1.1 hX.1.2.1 dL_eventOf_7 rfl ?_
  refine rw_outst hX hR1 dL_eventOf_8 (fun H1 locs1 hR1 => ?_)
  refine lv_goto (tgt := 15) hX.1.1 hX.1.2.1 dL_eventOf_9 (by decide) ?_
  refine lv_iconst (v := 0) hX.1.1 hX.1.2.1 dL_eventOf_15 rfl ?_
  refine W.widen (k := 1) (n := 6) (by omega) (by omega) ?_
  exact rl_i hX hR1 hr rfl rfl dL_eventOf_16 hlocks
