/-! ===== the law's loop ===== -/
section LL
variable {p : Program} {l : Launch} {e : Env} {s : State} {m : MethodId} {args : Array Value} {below : List Frame} {meth : Method} {c : Code} {Q : State → Prop} {γ : GT} {b L : Nat} {xs : Nat → Int32} {fu : Nat}
theorem law_next (hX : CX γ p s m args c cL_law 7 RL) {H : Heap} {locs : List Loc} {cells slots : Nat} {ls : Array Slot} {j : Nat} (hl : lh ls 7 (lv7 γ b (nI (8 * j)))) (kk : ∀ ls : Array Slot, lh ls 7 (lv7 γ b (nI (8 * (j + 1)))) → W p l e room_1 s m args below meth c H locs cells slots Q (F0 m 23 ls [])) : W p l e room_1 s m args below meth c H locs cells slots Q (F0 m 2230 ls []) := by
  refine rw_iinc (i := 4) (k := 4) (n := 8) (x := nI (8 * j)) (v := nI (8 * (j + 1))) (lv' := [(4, .int (nI (8 * (j + 1)))), (0, .ref b), (1, .ref (gS γ 7 0)), (2, .ref (gS γ 8 0)), (3, .ref (gS γ 3000 0))]) hX hl rfl (nI_plus (8 * j) 8) (Nat.le_of_ble_eq_true rfl) rfl dL_law_2230 (fun ls hl => ?_)
  refine lv_goto (tgt := 23) hX.1.1 hX.1.2.1 dL_law_2233 (by decide) ?_
  exact kk ls (lh_sub hl [1, 2, 3, 4, 0] rfl)
set_option maxHeartbeats 8000000 in
set_option maxRecDepth 100000 in
theorem law_body (hfl : l.stackTraces = false) (hX : CX γ p s m args c cL_law 7 RL) (hsc : SC γ s b L xs) {H : Heap} {locs : List Loc} {cells slots : Nat} {ls : Array Slot} {ad : Nat → Nat → Nat} {σ σ' : St} {I : Nat} (hI : I + 8 ≤ L) (hR : RS γ ad σ s H locs) (hl : lh ls 7 (lv7 γ b (nI I))) (hLS : LSt fu xs I σ σ') (hf : cells + 40 ≤ 601024 ∧ slots + 6300 ≤ 7293034)
    (kk : ∀ (ad : Nat → Nat → Nat) (ls : Array Slot) (H : Heap) (locs : List Loc), lh ls 7 (lv7 γ b (nI I)) → RS γ ad σ' s H locs → W p l e room_1 s m args below meth c H locs (cells + 40) (slots + 6300) Q (F0 m 2230 ls [])) : W p l e room_1 s m args below meth c H locs cells slots Q (F0 m 33 ls []) := by
  have hRf : 100 ≤ room_1.frames ∧ 8000 ≤ room_1.locals := by decide
  have hRc : room_1.cells = 601024 := rfl
  have hRs : room_1.slots = 7293034 := rfl
  refine rw_aload_n hX hl 0 rfl (Or.inr ⟨_, rfl⟩) dL_law_33 rfl ?_
  refine rw_iload hX hl 4 rfl dL_law_34 ?_
  refine rw_scr hX hR.2 hsc (k := I) rfl (by omega) dL_law_36 ?_
  refine lv_bipush (v := 63) hX.1.1 hX.1.2.1 dL_law_37 rfl ?_
  refine lv_iand hX.1.1 hX.1.2.1 dL_law_39 ?_
  refine rw_tsw hX (x := xs I &&& 63) (n := 34) 2230 (fun i => [192, 340, 396, 504, 572, 628, 684, 740, 796, 859, 927, 995, 1051, 1119, 1187, 1255, 1311, 1355, 1399, 1455, 1511, 1574, 1630, 1686, 1742, 1805, 1868, 1924, 1980, 2036, 2049, 2105, 2118, 2174].getD i 0) dL_law_40 (by decide) (by decide) (by decide) (by decide) (fun hx => ?_) (fun i hi hx => ?_)
  · obtain ⟨n, h1, h2⟩ := mask63 (xs I)
    have e1 := opk_eq h2 h1
    have h3 : ¬ n < 34 := fun h => hx n h h2
    have h4 : σ' = σ := by
      unfold LSt at hLS
      rw [e1, List.getD_eq_getElem?_getD, List.getElem?_eq_none (show CSL.length ≤ n by show 34 ≤ n; omega)] at hLS
      exact hLS
    subst h4
    refine W.widen (k := cells + 40) (n := slots + 6300) (by omega) (by omega) ?_
    exact kk ad ls H locs hl hR
  have e1 := opk_eq hx (by omega)
  unfold LSt at hLS
  rw [e1] at hLS
  by_cases c0 : i = 0
  · subst c0
    obtain ⟨r, σ1, r2, h1, h2, h3, h4, h5⟩ := (show CS_0 fu xs I σ σ' from hLS)
    exact LC_0 hfl hX hsc hRf hI hR hl (by omega) h1 h2 h3 h4 h5 (fun ad ls H locs hl hR => W.widen (k := cells + 40) (n := slots + 6300) (by omega) (by omega) (kk ad ls H locs hl hR))
  by_cases c1 : i = 1
  · subst c1
    obtain ⟨r, σ1, r2, h1, h2, h3, h4, h5⟩ := (show CS_1 fu xs I σ σ' from hLS)
    exact LC_1 hfl hX hsc hRf hI hR hl (by omega) h1 h2 h3 h4 h5 (fun ad ls H locs hl hR => W.widen (k := cells + 40) (n := slots + 6300) (by omega) (by omega) (kk ad ls H locs hl hR))
  by_cases c2 : i = 2
  · subst c2
    obtain ⟨r, σ1, r2, h1, h2, h3, h4, h5⟩ := (show CS_2 fu xs I σ σ' from hLS)
    exact LC_2 hfl hX hsc hRf hI hR hl (by omega) h1 h2 h3 h4 h5 (fun ad ls H locs hl hR => W.widen (k := cells + 40) (n := slots + 6300) (by omega) (by omega) (kk ad ls H locs hl hR))
  by_cases c3 : i = 3
  · subst c3
    obtain ⟨r, σ1, r2, h1, h2, h3, h4, h5⟩ := (show CS_3 fu xs I σ σ' from hLS)
    exact LC_3 hfl hX hsc hRf hI hR hl (by omega) h1 h2 h3 h4 h5 (fun ad ls H locs hl hR => W.widen (k := cells + 40) (n := slots + 6300) (by omega) (by omega) (kk ad ls H locs hl hR))
  by_cases c4 : i = 4
  · subst c4
    obtain ⟨r, σ1, r2, h1, h2, h3, h4, h5⟩ := (show CS_4 fu xs I σ σ' from hLS)
    exact LC_4 hfl hX hsc hRf hI hR hl (by omega) h1 h2 h3 h4 h5 (fun ad ls H locs hl hR => W.widen (k := cells + 40) (n := slots + 6300) (by omega) (by omega) (kk ad ls H locs hl hR))
  by_cases c5 : i = 5
  · subst c5
    obtain ⟨r, σ1, r2, h1, h2, h3, h4, h5⟩ := (show CS_5 fu xs I σ σ' from hLS)
    exact LC_5 hfl hX hsc hRf hI hR hl (by omega) h1 h2 h3 h4 h5 (fun ad ls H locs hl hR => W.widen (k := cells + 40) (n := slots + 6300) (by omega) (by omega) (kk ad ls H locs hl hR))
  by_cases c6 : i = 6
  · subst c6
    obtain ⟨r, σ1, r2, h1, h2, h3, h4, h5⟩ := (show CS_6 fu xs I σ σ' from hLS)
    exact LC_6 hfl hX hsc hRf hI hR hl (by omega) h1 h2 h3 h4 h5 (fun ad ls H locs hl hR => W.widen (k := cells + 40) (n := slots + 6300) (by omega) (by omega) (kk ad ls H locs hl hR))
  by_cases c7 : i = 7
  · subst c7
    obtain ⟨r, σ1, r2, h1, h2, h3, h4, h5⟩ := (show CS_7 fu xs I σ σ' from hLS)
    exact LC_7 hfl hX hsc hRf hI hR hl (by omega) h1 h2 h3 h4 h5 (fun ad ls H locs hl hR => W.widen (k := cells + 40) (n := slots + 6300) (by omega) (by omega) (kk ad ls H locs hl hR))
  by_cases c8 : i = 8
  · subst c8
    obtain ⟨r, σ1, r2, h1, h2, h3, h4, h5⟩ := (show CS_8 fu xs I σ σ' from hLS)
    exact LC_8 hfl hX hsc hRf hI hR hl (by omega) h1 h2 h3 h4 h5 (fun ad ls H locs hl hR => W.widen (k := cells + 40) (n := slots + 6300) (by omega) (by omega) (kk ad ls H locs hl hR))
  by_cases c9 : i = 9
  · subst c9
    obtain ⟨r, σ1, r2, h1, h2, h3, h4, h5⟩ := (show CS_9 fu xs I σ σ' from hLS)
    exact LC_9 hfl hX hsc hRf hI hR hl (by omega) h1 h2 h3 h4 h5 (fun ad ls H locs hl hR => W.widen (k := cells + 40) (n := slots + 6300) (by omega) (by omega) (kk ad ls H locs hl hR))
  by_cases c10 : i = 10
  · subst c10
    obtain ⟨r, σ1, r2, h1, h2, h3, h4, h5⟩ := (show CS_10 fu xs I σ σ' from hLS)
    exact LC_10 hfl hX hsc hRf hI hR hl (by omega) h1 h2 h3 h4 h5 (fun ad ls H locs hl hR => W.widen (k := cells + 40) (n := slots + 6300) (by omega) (by omega) (kk ad ls H locs hl hR))
  by_cases c11 : i = 11
  · subst c11
    obtain ⟨r, σ1, r2, h1, h2, h3, h4, h5⟩ := (show CS_11 fu xs I σ σ' from hLS)
    exact LC_11 hfl hX hsc hRf hI hR hl (by omega) h1 h2 h3 h4 h5 (fun ad ls H locs hl hR => W.widen (k := cells + 40) (n := slots + 6300) (by omega) (by omega) (kk ad ls H locs hl hR))
  by_cases c12 : i = 12
  · subst c12
    obtain ⟨r, σ1, r2, h1, h2, h3, h4, h5⟩ := (show CS_12 fu xs I σ σ' from hLS)
    exact LC_12 hfl hX hsc hRf hI hR hl (by omega) h1 h2 h3 h4 h5 (fun ad ls H locs hl hR => W.widen (k := cells + 40) (n := slots + 6300) (by omega) (by omega) (kk ad ls H locs hl hR))
  by_cases c13 : i = 13
  · subst c13
    obtain ⟨r, σ1, r2, h1, h2, h3, h4, h5⟩ := (show CS_13 fu xs I σ σ' from hLS)
    exact LC_13 hfl hX hsc hRf hI hR hl (by omega) h1 h2 h3 h4 h5 (fun ad ls H locs hl hR => W.widen (k := cells + 40) (n := slots + 6300) (by omega) (by omega) (kk ad ls H locs hl hR))
  by_cases c14 : i = 14
  · subst c14
    obtain ⟨r, σ1, r2, h1, h2, h3, h4, h5⟩ := (show CS_14 fu xs I σ σ' from hLS)
    exact LC_14 hfl hX hsc hRf hI hR hl (by omega) h1 h2 h3 h4 h5 (fun ad ls H locs hl hR => W.widen (k := cells + 40) (n := slots + 6300) (by omega) (by omega) (kk ad ls H locs hl hR))
  by_cases c15 : i = 15
  · subst c15
    obtain ⟨r, σ1, r2, h1, h2, h3, h4, h5⟩ := (show CS_15 fu xs I σ σ' from hLS)
    exact LC_15 hfl hX hsc hRf hI hR hl (by omega) h1 h2 h3 h4 h5 (fun ad ls H locs hl hR => W.widen (k := cells + 40) (n := slots + 6300) (by omega) (by omega) (kk ad ls H locs hl hR))
  by_cases c16 : i = 16
  · subst c16
    obtain ⟨r, σ1, r2, h1, h2, h3, h4, h5⟩ := (show CS_16 fu xs I σ σ' from hLS)
    exact LC_16 hfl hX hsc hRf hI hR hl (by omega) h1 h2 h3 h4 h5 (fun ad ls H locs hl hR => W.widen (k := cells + 40) (n := slots + 6300) (by omega) (by omega) (kk ad ls H locs hl hR))
  by_cases c17 : i = 17
  · subst c17
    obtain ⟨r, σ1, r2, h1, h2, h3, h4, h5⟩ := (show CS_17 fu xs I σ σ' from hLS)
    exact LC_17 hfl hX hsc hRf hI hR hl (by omega) h1 h2 h3 h4 h5 (fun ad ls H locs hl hR => W.widen (k := cells + 40) (n := slots + 6300) (by omega) (by omega) (kk ad ls H locs hl hR))
  by_cases c18 : i = 18
  · subst c18
    obtain ⟨r, σ1, r2, h1, h2, h3, h4, h5⟩ := (show CS_18 fu xs I σ σ' from hLS)
    exact LC_18 hfl hX hsc hRf hI hR hl (by omega) h1 h2 h3 h4 h5 (fun ad ls H locs hl hR => W.widen (k := cells + 40) (n := slots + 6300) (by omega) (by omega) (kk ad ls H locs hl hR))
  by_cases c19 : i = 19
  · subst c19
    obtain ⟨r, σ1, r2, h1, h2, h3, h4, h5⟩ := (show CS_19 fu xs I σ σ' from hLS)
    exact LC_19 hfl hX hsc hRf hI hR hl (by omega) h1 h2 h3 h4 h5 (fun ad ls H locs hl hR => W.widen (k := cells + 40) (n := slots + 6300) (by omega) (by omega) (kk ad ls H locs hl hR))
  by_cases c20 : i = 20
  · subst c20
    obtain ⟨r, r2, h1, h2, h3, h4, h5⟩ := (show CS_20 fu xs I σ σ' from hLS)
    exact LC_20 hfl hX hsc hRf hI hR hl (by omega) h1 h2 h3 h4 h5 (fun ad ls H locs hl hR => W.widen (k := cells + 40) (n := slots + 6300) (by omega) (by omega) (kk ad ls H locs hl hR))
  by_cases c21 : i = 21
  · subst c21
    obtain ⟨r, r2, h1, h2, h3, h4, h5⟩ := (show CS_21 fu xs I σ σ' from hLS)
    exact LC_21 hfl hX hsc hRf hI hR hl (by omega) h1 h2 h3 h4 h5 (fun ad ls H locs hl hR => W.widen (k := cells + 40) (n := slots + 6300) (by omega) (by omega) (kk ad ls H locs hl hR))
  by_cases c22 : i = 22
  · subst c22
    obtain ⟨r, r2, h1, h2, h3, h4, h5⟩ := (show CS_22 fu xs I σ σ' from hLS)
    exact LC_22 hfl hX hsc hRf hI hR hl (by omega) h1 h2 h3 h4 h5 (fun ad ls H locs hl hR => W.widen (k := cells + 40) (n := slots + 6300) (by omega) (by omega) (kk ad ls H locs hl hR))
  by_cases c23 : i = 23
  · subst c23
    obtain ⟨r, r2, h1, h2, h3, h4, h5⟩ := (show CS_23 fu xs I σ σ' from hLS)
    exact LC_23 hfl hX hsc hRf hI hR hl (by omega) h1 h2 h3 h4 h5 (fun ad ls H locs hl hR => W.widen (k := cells + 40) (n := slots + 6300) (by omega) (by omega) (kk ad ls H locs hl hR))
  by_cases c24 : i = 24
  · subst c24
    obtain ⟨r, r2, h1, h2, h3, h4, h5⟩ := (show CS_24 fu xs I σ σ' from hLS)
    exact LC_24 hfl hX hsc hRf hI hR hl (by omega) h1 h2 h3 h4 h5 (fun ad ls H locs hl hR => W.widen (k := cells + 40) (n := slots + 6300) (by omega) (by omega) (kk ad ls H locs hl hR))
  by_cases c25 : i = 25
  · subst c25
    obtain ⟨r, r2, h1, h2, h3, h4, h5⟩ := (show CS_25 fu xs I σ σ' from hLS)
    exact LC_25 hfl hX hsc hRf hI hR hl (by omega) h1 h2 h3 h4 h5 (fun ad ls H locs hl hR => W.widen (k := cells + 40) (n := slots + 6300) (by omega) (by omega) (kk ad ls H locs hl hR))
  by_cases c26 : i = 26
  · subst c26
    obtain ⟨r, r2, h1, h2, h3, h4, h5⟩ := (show CS_26 fu xs I σ σ' from hLS)
    exact LC_26 hfl hX hsc hRf hI hR hl (by omega) h1 h2 h3 h4 h5 (fun ad ls H locs hl hR => W.widen (k := cells + 40) (n := slots + 6300) (by omega) (by omega) (kk ad ls H locs hl hR))
  by_cases c27 : i = 27
  · subst c27
    obtain ⟨r, r2, h1, h2, h3, h4, h5⟩ := (show CS_27 fu xs I σ σ' from hLS)
    exact LC_27 hfl hX hsc hRf hI hR hl (by omega) h1 h2 h3 h4 h5 (fun ad ls H locs hl hR => W.widen (k := cells + 40) (n := slots + 6300) (by omega) (by omega) (kk ad ls H locs hl hR))
  by_cases c28 : i = 28
  · subst c28
    obtain ⟨r, r2, h1, h2, h3, h4, h5⟩ := (show CS_28 fu xs I σ σ' from hLS)
    exact LC_28 hfl hX hsc hRf hI hR hl (by omega) h1 h2 h3 h4 h5 (fun ad ls H locs hl hR => W.widen (k := cells + 40) (n := slots + 6300) (by omega) (by omega) (kk ad ls H locs hl hR))
  by_cases c29 : i = 29
  · subst c29
    obtain ⟨r, h1, h2, h3⟩ := (show CS_29 fu xs I σ σ' from hLS)
    subst h3
    exact LC_29 hfl hX hsc hRf hI hR hl (by omega) h1 h2 (fun ad ls H locs hl hR => W.widen (k := cells + 40) (n := slots + 6300) (by omega) (by omega) (kk ad ls H locs hl hR))
  by_cases c30 : i = 30
  · subst c30
    obtain ⟨r, r2, h1, h2, h3, h4, h5⟩ := (show CS_30 fu xs I σ σ' from hLS)
    exact LC_30 hfl hX hsc hRf hI hR hl (by omega) h1 h2 h3 h4 h5 (fun ad ls H locs hl hR => W.widen (k := cells + 40) (n := slots + 6300) (by omega) (by omega) (kk ad ls H locs hl hR))
  by_cases c31 : i = 31
  · subst c31
    obtain ⟨r, h1, h2, h3⟩ := (show CS_31 fu xs I σ σ' from hLS)
    subst h3
    exact LC_31 hfl hX hsc hRf hI hR hl (by omega) h1 h2 (fun ad ls H locs hl hR => W.widen (k := cells + 40) (n := slots + 6300) (by omega) (by omega) (kk ad ls H locs hl hR))
  by_cases c32 : i = 32
  · subst c32
    obtain ⟨r, r2, h1, h2, h3, h4, h5⟩ := (show CS_32 fu xs I σ σ' from hLS)
    exact LC_32 hfl hX hsc hRf hI hR hl (by omega) h1 h2 h3 h4 h5 (fun ad ls H locs hl hR => W.widen (k := cells + 40) (n := slots + 6300) (by omega) (by omega) (kk ad ls H locs hl hR))
  by_cases c33 : i = 33
  · subst c33
    obtain ⟨r, r2, h1, h2, h3, h4, h5⟩ := (show CS_33 fu xs I σ σ' from hLS)
    exact LC_33 hfl hX hsc hRf hI hR hl (by omega) h1 h2 h3 h4 h5 (fun ad ls H locs hl hR => W.widen (k := cells + 40) (n := slots + 6300) (by omega) (by omega) (kk ad ls H locs hl hR))
  omega
theorem law_step0 (hX : CX γ p s m args c cL_law 7 RL) (hsc : SC γ s b L xs) {H : Heap} {locs : List Loc} {cells slots : Nat} {ls : Array Slot} {ad : Nat → Nat → Nat} {σ : St} {j : Nat} (hl : lh ls 7 (lv7 γ b (nI (8 * j)))) (hR : RS γ ad σ s H locs) (hj : 8 * j ≤ L) (hc : cells ≤ 100 + 40 * j) (hs : slots ≤ 10000 + 6300 * j)
    (k1 : 8 * j + 8 ≤ L → W p l e room_1 s m args below meth c H locs cells slots Q (F0 m 33 ls [])) (k2 : ¬ 8 * j + 8 ≤ L → W p l e room_1 s m args below meth c H locs 601024 7293034 Q (F0 m 2236 ls [])) : W p l e room_1 s m args below meth c H locs cells slots Q (F0 m 23 ls []) := by
  have hL := hsc.2.2.2
  refine rw_iload hX hl 4 rfl dL_law_23 ?_
  refine rw_aload_n hX hl 0 rfl (Or.inr ⟨_, rfl⟩) dL_law_25 rfl ?_
  refine va_slen hX.1.1 hX.1.2.1 hsc.1 hsc.2.1 (A := gA γ) (Nat.not_le.mpr hsc.2.2.1) hR.2 dL_law_26 ?_
  refine lv_bipush (v := 8) hX.1.1 hX.1.2.1 dL_law_27 rfl ?_
  refine lv_isub hX.1.1 hX.1.2.1 dL_law_29 ?_
  have e1 : (Int32.ofNat L - 8).toInt = (L : Int) - 8 := by
    have h1 : (Int32.ofNat L).toInt = (L : Int) := nI_toInt (by omega)
    have h2 : (8 : Int32).toInt = 8 := rfl
    rw [Int32.toInt_sub, h1, h2]
    exact Int.bmod_eq_of_le (by omega) (by omega)
  have e2 : (nI (8 * j)).toInt = ((8 * j : Nat) : Int) := nI_toInt (by omega)
  refine lv_icmp_gt (x := nI (8 * j)) (y := Int32.ofNat L - 8) (tgt := 2236) hX.1.1 hX.1.2.1 dL_law_30 (by decide) (fun c0 => ?_) (fun c0 => ?_)
  · have h1 := Int32.lt_iff_toInt_lt.mp c0
    rw [e1, e2] at h1
    refine W.widen (k := 601024) (n := 7293034) (by omega) (by omega) (k2 (by omega))
  · refine k1 ?_
    have h1 : ¬ (Int32.ofNat L - 8).toInt < (nI (8 * j)).toInt := fun h => c0 (Int32.lt_iff_toInt_lt.mpr h)
    rw [e1, e2] at h1
    omega
theorem law_loop (hfl : l.stackTraces = false) (hX : CX γ p s m args c cL_law 7 RL) (hsc : SC γ s b L xs) {τ : Nat → St} (hτ : ∀ j, 8 * j + 8 ≤ L → LSt fu xs (8 * j) (τ j) (τ (j + 1)))
    (kk : ∀ (ad : Nat → Nat → Nat) (σ : St) (ls : Array Slot) (H : Heap) (locs : List Loc), RS γ ad σ s H locs → W p l e room_1 s m args below meth c H locs 601024 7293034 Q (F0 m 2236 ls [])) :
    ∀ (n j : Nat) (ad : Nat → Nat → Nat) (ls : Array Slot) (H : Heap) (locs : List Loc) (cells slots : Nat), L - 8 * j ≤ n → 8 * j ≤ L → cells ≤ 100 + 40 * j → slots ≤ 10000 + 6300 * j → lh ls 7 (lv7 γ b (nI (8 * j))) → RS γ ad (τ j) s H locs → W p l e room_1 s m args below meth c H locs cells slots Q (F0 m 23 ls []) := by
  intro n
  induction n with
  | zero =>
    intro j ad ls H locs cells slots h1 h2 h3 h4 hl hR
    exact law_step0 hX hsc hl hR h2 h3 h4 (fun h => by omega) (fun _ => kk ad _ ls H locs hR)
  | succ n ih =>
    intro j ad ls H locs cells slots h1 h2 h3 h4 hl hR
    have hL := hsc.2.2.2
    refine law_step0 hX hsc hl hR h2 h3 h4 (fun h => ?_) (fun _ => kk ad _ ls H locs hR)
    refine law_body hfl hX hsc h hR hl (hτ j h) ⟨by omega, by omega⟩ (fun ad ls H locs hl hR => ?_)
    refine law_next hX hl (fun ls hl => ?_)
    exact ih (j + 1) ad ls H locs _ _ (by omega) (by omega) (by omega) (by omega) hl hR
end LL
