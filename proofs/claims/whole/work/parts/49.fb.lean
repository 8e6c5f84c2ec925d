/-! what is asked, on -/
theorem gz8 {m : St} {v : Int32} {f i : Nat} (h : f ≠ 800) : gi (zi m 800 0 v) f i = gi m f i := by simp [gi_zi, h]
theorem F_strikes {fu e t : Nat} {c m : St} (a : Int32) (h : INVF e t c m) : OKQ w1 (fun x => x = 1) e t c m (f7_strikes fu a c) (f8_strikes fu a m) := by
  rcases rng (n := 8) (by omega) a with ⟨l, hl, rfl⟩ | ha
  · obtain ⟨s, hs, h7, h8⟩ := h.1.2.2.2.2.2.1.1 l hl
    refine OKQ.kk (z := nI s) h ?_ ?_
    · unfold f7_strikes
      rw [xb1_o (cl_7 hl), ar_k _ hl (by omega), h7]
    · unfold f8_strikes f8_strikes_j16
      rw [ln_8 hl, ob1_k rfl, if_pos rfl, b2i_f, g800, if_pos rfl, ar_k _ hl (by omega), gi_zi, if_neg (by omega), h8]
  · refine OKQ.er (x := 1) (z := 0) h ?_ ?_ rfl
    · unfold f7_strikes
      rw [xb1_e (cl_7e ha)]
    · unfold f8_strikes f8_strikes_j16
      rw [ln_8e ha, ob1_k rfl, if_neg (by simp), b2i_t, g800, if_neg (by decide)]
      rfl
theorem F_callState {fu e t : Nat} {c m : St} (a : Int32) (h : INVF e t c m) : OKQ w1 (fun x => x = 1) e t c m (f7_callState fu a c) (f8_callState fu a m) := by
  obtain ⟨hS, hD, hB, hW, hT, hQ, hO⟩ := h.1.1
  obtain ⟨-, -, -, -, -, -, l4, n100, -⟩ := hS
  have hK := h.1.2.2.2.1.2.2.2
  rcases rng (n := gn c 1) (by omega) a with ⟨k, hk, rfl⟩ | ha
  · refine OKQ.kk (z := gi c 102 k) h ?_ ?_
    · unfold f7_callState
      rw [if_neg (nI_nlt0 (by omega)), l4, List.length_range, if_pos (by rw [nI_ltN (by omega) (by omega)]; exact hk), lg_r (σ := c) (k := 4) _ l4 hk (by omega) (show gn c 1 ≤ gn c 1 from Nat.le_refl _)]
    · unfold f8_callState f8_callState_j20
      rw [hK.1, in_t hk (by omega), ob1_k rfl, if_pos rfl, b2i_f, g800, if_pos rfl, ar_k _ (by omega) (by omega), gi_zi, if_neg (by omega), (hK.2 k hk).2.2]
  · refine OKQ.er (x := 1) (z := 0) h ?_ ?_ rfl
    · unfold f7_callState
      rw [l4, List.length_range]
      by_cases h0 : a < 0
      · rw [if_pos h0]
      · rw [if_neg h0, if_neg (ha.resolve_left h0)]
    · unfold f8_callState f8_callState_j20
      rw [hK.1, in_f (by omega) ha, ob1_k rfl, if_neg (by simp), b2i_t, g800, if_neg (by decide)]
      rfl
theorem F_handles {fu e t : Nat} {c m : St} (a : Int32) (h : INVF e t c m) (hf : 200 ≤ fu) : OKQ w1 (fun x => x = 1) e t c m (f7_handles fu a c) (f8_handles fu a m) := by
  obtain ⟨hS, hD, hB, hW, hT, hQ, hO⟩ := h.1.1
  have hS' := hS
  obtain ⟨-, h24, -, -, l3, n40, -⟩ := hS'
  obtain ⟨hCH, -, hR, -⟩ := h.1.2.2.2.1
  obtain ⟨b, hb⟩ : ∃ b, fu = b + 1 := ⟨fu - 1, by omega⟩
  rcases rng (n := gn c 2) (by omega) a with ⟨d, hd, rfl⟩ | ha
  · obtain ⟨P, hP⟩ : ∃ P : Nat → Bool, P = fun i => gb c 501 i && decide (gp c 500 i = some d) := ⟨_, rfl⟩
    refine OKQ.kk (z := itr (fun i (a : Int32) => if P i = true then a + 1 else a) (gn c 5) 0) h ?_ ?_
    · unfold f7_handles
      rw [xb1_o (kn_7 hS hd)]
      refine lp_up (b := fun s8 : Int32 × Int32 => f7_handles_b11 fu (some d) s8.1 s8.2 c) (fun i a => (a, nI i)) (fun i (a : Int32) => if P i = true then a + 1 else a) (gn c 5) (a0 := 0) (fun i hi => ?_) ?_ (by omega)
      · generalize itr _ i _ = a
        obtain ⟨d', hd', k1⟩ := hCH i hi
        show f7_handles_b11 fu (some d) a (nI i) c = _
        unfold f7_handles_b11 f7_handles_j57 lt
        rw [l3, List.length_range, if_neg (by rw [nI_leN (by omega) (by omega)]; omega), lg_r (σ := c) (k := 3) _ l3 hi (by omega) (show gn c 5 ≤ gn c 5 from Nat.le_refl _)]
        have hPi : P i = (gb c 501 i && decide (d' = d)) := by rw [hP]; simp [k1]
        dsimp only
        by_cases h5 : gb c 501 i = true
        · rw [if_pos h5, k1, ckb (okr_of fun j hj => by cases hj; exact hd'), ckb (okr_of fun j hj => by cases hj; exact hd)]
          by_cases hdd : d' = d
          · simp [hdd, nI_s, h5, hPi]
          · simp [hdd, nI_s, hPi]
        · rw [if_neg h5]
          simp [nI_s, h5, hPi]
      · show f7_handles_b11 fu (some d) _ (nI (gn c 5)) c = _
        unfold f7_handles_b11
        rw [l3, List.length_range, if_pos (by rw [nI_leN (by omega) (by omega)]; omega)]
        rfl
    · unfold f8_handles f8_handles_j14
      rw [dv_8 hS hQ hd, ob1_k rfl, if_pos rfl, b2i_f]
      refine lp_up (b := fun s8 : Int32 × Int32 => f8_handles_b21 fu (nI d) s8.1 s8.2 (zi m 800 0 0)) (fun i a => (a, nI i)) (fun i (a : Int32) => if P i = true then a + 1 else a) (gn c 5) (a0 := 0) (fun i hi => ?_) ?_ (by omega)
      · generalize itr _ i _ = a
        obtain ⟨d', hd', k1⟩ := hCH i hi
        obtain ⟨u1, u2, -⟩ := hR.2.2 i d' hi k1
        show f8_handles_b21 fu (nI d) a (nI i) (zi m 800 0 0) = _
        unfold f8_handles_b21 f8_handles_j61
        rw [gz8 (f := 830) (by decide), hR.1, if_neg (by rw [nI_leN (by omega) (by omega)]; omega), g800, if_pos rfl, ar_k _ (by omega) (by omega), gz8 (f := 831) (by decide), u1]
        have hPi : P i = (gb c 501 i && decide (d' = d)) := by rw [hP]; simp [k1]
        by_cases hdd : d' = d
        · rw [if_pos (by rw [hdd]), ar_k _ (by omega) (by omega), gb_zi, u2]
          by_cases h5 : gb c 501 i = true
          · simp [hdd, nI_s, b2i, h5, hPi]
          · simp [hdd, nI_s, b2i, h5, hPi]
        · rw [if_neg (fun z => hdd ((nI_inj (by omega) (by omega)).mp z))]
          simp [hdd, nI_s, b2i, hPi]
      · show f8_handles_b21 fu (nI d) _ (nI (gn c 5)) (zi m 800 0 0) = _
        unfold f8_handles_b21 f8_handles_j69
        rw [gz8 (f := 830) (by decide), hR.1, if_pos (by rw [nI_leN (by omega) (by omega)]; omega)]
        rfl
  · refine OKQ.er (x := 1) (z := 0) h ?_ ?_ rfl
    · unfold f7_handles
      rw [xb1_e (kn_7e hS ha)]
    · unfold f8_handles f8_handles_j14
      rw [dv_8e hS hQ ha, ob1_k rfl, if_neg (by simp), b2i_t]
      have hs : f8_handles_b21 fu a 0 0 (zi m 800 0 1) = some (.inr (0, zi m 800 0 1)) := by
        unfold f8_handles_b21 f8_handles_j69
        rw [g800, if_neg (show ¬ (1 : Int32) = 0 by decide)]
        by_cases hz : gi (zi m 800 0 1) 830 0 ≤ 0
        · rw [if_pos hz]; rfl
        · rw [if_neg hz]; rfl
      show lp (fun s8 : Int32 × Int32 => f8_handles_b21 fu a s8.1 s8.2 (zi m 800 0 1)) fu (0, 0) = _
      conv => lhs; arg 2; rw [hb]
      exact lp_e hs
theorem F_faults {fu e t : Nat} {c m : St} (h : INVF e t c m) : ∃ r, f7_faults fu c = some r ∧ f8_faults fu m = some r :=
  ⟨gi c 710 0, rfl, by unfold f8_faults; rw [h.1.2.2.2.2.2.1.2.1]⟩
theorem F_events {fu e t : Nat} {c m : St} (h : INVF e t c m) : ∃ r, f7_events fu c = some r ∧ f8_events fu m = some r :=
  ⟨nI e, by unfold f7_events; rw [h.1.2.2.2.2.2.2.1], by unfold f8_events; rw [h.1.2.2.2.2.2.2.2.1]⟩
theorem kept_7 {fu e : Nat} {a : Int32} {c m : St} (hL : RLg e c m) (he : e < 2 ^ 31) : ∃ b, f4_keeps fu a c = some b ∧ f8_isKept fu a m = some b ∧ (b = true → ∃ k, k < e ∧ a = nI k) := by
  unfold f4_keeps f8_isKept
  rw [hL.1, hL.2.1]
  rcases rng (n := e) he a with ⟨k, hk, rfl⟩ | ha
  · rw [if_neg (nI_nlt0 (by omega)), if_neg (by rw [nI_leN (by omega) (by omega)]; omega), in_t hk he, ob1_k rfl, if_pos rfl]
    by_cases h2 : nI k < nI e - 20
    · simp only [if_pos h2]
      exact ⟨false, rfl, rfl, fun z => by cases z⟩
    · simp only [if_neg h2]
      exact ⟨true, rfl, rfl, fun _ => ⟨k, hk, rfl⟩⟩
  · refine ⟨false, ?_, by rw [in_f he ha, ob1_k rfl]; simp, fun z => by cases z⟩
    by_cases h0 : a < 0
    · rw [if_pos h0]
    · rw [if_neg h0]
      have h2 := ha.resolve_left h0
      obtain ⟨k, hk, rfl⟩ := nonneg_nI h0
      rw [nI_ltN hk he] at h2
      rw [if_pos (by rw [nI_leN he hk]; omega)]
theorem F_eventKind {fu e t : Nat} {c m : St} (a : Int32) (h : INVF e t c m) (he : e < 2 ^ 31) : OKQ w1 (fun x => x = 1) e t c m (f7_eventKind fu a c) (f8_eventKind fu a m) := by
  have hL := h.1.2.2.2.2.2.2
  obtain ⟨b, h7, h8, hb⟩ := kept_7 (fu := fu) (a := a) hL he
  cases b with
  | true =>
    obtain ⟨k, hk, rfl⟩ := hb rfl
    have h20 : k % 20 < 20 := Nat.mod_lt _ (by omega)
    refine OKQ.kk (z := gi c 400 (k % 20)) h ?_ ?_
    · unfold f7_eventKind f4_kindAt
      rw [h7, ob1_k rfl, if_pos rfl, q_mod20 (by omega), ob1_k rfl, ar_k _ h20 (by omega), ob1_k rfl]
    · unfold f8_eventKind f8_eventKind_j14
      rw [h8, ob1_k rfl, if_pos rfl, b2i_f, g800, if_pos rfl, nI_div20 (by omega), ar_k _ h20 (by omega), gi_zi, if_neg (by omega), (hL.2.2 _ h20).1]
  | false =>
    refine OKQ.er (x := 1) (z := 0) h ?_ ?_ rfl
    · unfold f7_eventKind
      rw [h7, ob1_k rfl, if_neg (by simp)]
    · unfold f8_eventKind f8_eventKind_j14
      rw [h8, ob1_k rfl, if_neg (by simp), b2i_t, g800, if_neg (by decide)]
      rfl
theorem F_eventOf {fu e t : Nat} {c m : St} (a : Int32) (h : INVF e t c m) (he : e < 2 ^ 31) : OKQ w1 (fun x => x = 1) e t c m (f7_eventOf fu a c) (f8_eventOf fu a m) := by
  have hL := h.1.2.2.2.2.2.2
  obtain ⟨b, h7, h8, hb⟩ := kept_7 (fu := fu) (a := a) hL he
  cases b with
  | true =>
    obtain ⟨k, hk, rfl⟩ := hb rfl
    have h20 : k % 20 < 20 := Nat.mod_lt _ (by omega)
    refine OKQ.kk (z := gi c 401 (k % 20)) h ?_ ?_
    · unfold f7_eventOf f4_subjectAt
      rw [h7, ob1_k rfl, if_pos rfl, q_mod20 (by omega), ob1_k rfl, ar_k _ h20 (by omega), ob1_k rfl]
    · unfold f8_eventOf f8_eventOf_j14
      rw [h8, ob1_k rfl, if_pos rfl, b2i_f, g800, if_pos rfl, nI_div20 (by omega), ar_k _ h20 (by omega), gi_zi, if_neg (by omega), (hL.2.2 _ h20).2]
  | false =>
    refine OKQ.er (x := 1) (z := 0) h ?_ ?_ rfl
    · unfold f7_eventOf
      rw [h7, ob1_k rfl, if_neg (by simp)]
    · unfold f8_eventOf f8_eventOf_j14
      rw [h8, ob1_k rfl, if_neg (by simp), b2i_t, g800, if_neg (by decide)]
      rfl
