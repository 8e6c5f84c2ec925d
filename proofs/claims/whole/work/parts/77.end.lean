/-! THE CLAIM OUT OF ONE WALK OF THE LAW'S BODY. Your part is whole_start (and what it stands on); all else here is the same for every law, but numbers. -/
def R_law : String := "DriverMoorLaw"
def lw_P (b : Addr) (xs : List Int32) (args : Array Value) (s : State) : Prop := args = #[.ref b] ∧ s.IntsAt b xs ∧ xs.length ≤ 4096 ∧ (Jvm.Cond.and given_1 narrow_1).before args s = true
def lw_Q (_ : Array Value) (s : State) (o : Outcome) (t : State) : Prop := o = .returned (some (.int 1)) ∧ Framed s o t [] 601024 7293034
def lw_Z (below : List Frame) (a : Array Value) (s : State) : State → Prop := fun t => ∃ o, t.status = .running ∧ Ended t below o ∧ lw_Q a s o t
/-- the law's own end, with 1 on the stack, nothing written that was there before, its room as the claim has it -/
theorem lw_ret {p : Program} {l : Launch} {e : Env} {s : State} {m : MethodId} {below : List Frame} {meth : Method} {c : Code} {b : Nat} (hx : p.tables.exec = Jvm.exec) (hb : c.code = code) (hr : meth.sig.returnType = ret) (hlocks : meth.locks = false) {pc : Nat} {H : Heap} {ls : Array Slot} (hdg : decode code pc = .ok (.ireturn, 1)) : W p l e room_1 s m #[Value.ref b] below meth c H [] 601024 7293034 (lw_Z below #[Value.ref b] s) (F0 m pc ls [.int 1]) := by
  intro T hT X
  obtain ⟨fs, hret, hrun, hended, hW, hframe⟩ := X.leave (v := some (.int 1)) (hlocks := hlocks) (fun h => by rw [hr] at h; cases h)
  have hmeth' : T.vm.method? m = some meth := X.method'
  refine ⟨T.setFrames fs, ?_, .returned (some (.int 1)), hrun, hended, rfl, ⟨_, rfl⟩, hW, hframe⟩
  jvm_step X.here [X.here.top, hx, hb, hdg, hmeth', hr, ret, narrow_b1]
  (try refine ⟨rfl, ?_⟩); (try refine ⟨rfl, ?_⟩)
  first | (intro acts; rw [hret _ acts rfl rfl rfl]) | rw [hret _ _ rfl rfl rfl]
  exact Steps.refl _
/-- what holds at the law's entry: the machine, the code, the tables' words (any of lw_tbl by 'hts w (by decide +kernel)'), the script of L ints xs at the cell b, what the Statement gives of the start (any of its parts by flat_of_before) -/
def lw_At (p : Program) (s : State) (m : MethodId) (meth : Method) (c : Code) (b L : Nat) (xs : Nat → Int32) : Prop :=
  p.tables.exec = Jvm.exec ∧ c.code = code ∧ meth.sig.returnType = ret ∧ c.maxLocals = 7 ∧ s.vm.findClass R_law = some m.cls ∧ (∀ w ∈ lw_tbl, w.before #[Value.ref b] s = true) ∧ va_X b L xs s s.heap ∧ b < s.heap.size ∧ meth.locks = false ∧ (Jvm.Cond.and given_1 narrow_1).before #[Value.ref b] s = true
-- ===== the way in =====
theorem HW.kept {γ : GT} {A A' : Nat → Prop} {ws : va_W} {H H1 : Heap} (h : HW γ A ws H) (hsm : Sm H H1 (fun _ => False)) (k : ∀ q, A q → A' q) : HW γ A' ws H1 :=
  ⟨h.1.kept fun k q hk => hsm.2 q.1 (h.1 k q hk).lt id, h.2.weaken fun _ q _ z => k _ z⟩
theorem dmS.kept {γ : GT} {z ar cap : Nat} {L : List Nat} {H H1 : Heap} (h : dmS γ z ar cap L H) (hsm : Sm H H1 (fun _ => False)) : dmS γ z ar cap L H1 := by
  obtain ⟨har, hcap, hc1, hc0, hza, hsl, hnd⟩ := h
  exact ⟨hsm.la har id, hcap, hc1, hc0, hza, fun j y hy => ⟨hsm.at (hsl j y hy).1 id, (hsl j y hy).2⟩, hnd⟩
set_option maxHeartbeats 8000000 in
set_option maxRecDepth 100000 in
theorem whole_start {p : Program} {e : Env} {s : State} {m : MethodId} {below : List Frame} {meth : Method} {c : Code} (l : Launch) (hflags : l.flags = flags0) {b L : Nat} {xs : Nat → Int32} (hL : L ≤ 4096) (C0 : lw_At p s m meth c b L xs) : W p l e room_1 s m #[Value.ref b] below meth c s.heap [] 0 0 (lw_Z below #[Value.ref b] s) (entryFrame m ([Value.ref b] : List Value).toArray 7) := by
  obtain ⟨hx, hb, hr, hml, hown, hts, hX0, hbl, hlocks, hgv⟩ := id C0
  have hfl : l.stackTraces = false := by
    unfold Launch.stackTraces
    rw [hflags]
    decide +kernel
  obtain ⟨γ, hgB, hK, hE⟩ := start_env hts hgv
  have hX : CX γ p s m #[Value.ref b] c cL_law 7 RL := ⟨⟨hx, hb, hml, hown, GW_all hts⟩, hK, hE⟩
  have hS : va_S (gA γ) s.heap s.heap [] := va_S.rf
  have hRf : 100 ≤ room_1.frames ∧ 8000 ≤ room_1.locals := by decide
  have hRc : room_1.cells = 601024 := rfl
  have hRs : room_1.slots = 7293034 := rfl
  refine rw_entry (ca1 rfl ca0) (Nat.le_of_ble_eq_true rfl) (fun ls hl => ?_)
  refine hr_new hX hS (ci := 7) (fs := [.null, .null, .null, .null, .null, .null, .null, .null, .int 0, .int 0, .int 0]) (C := RX6) (T := TX6) (N := 11) rfl uw_X6 tyX6 tyX6_ok (fun j hj => match j, hj with | 0, _ => rfl | 1, _ => rfl | 2, _ => rfl | 3, _ => rfl | 4, _ => rfl | 5, _ => rfl | 6, _ => rfl | 7, _ => rfl | 8, _ => rfl | 9, _ => rfl | 10, _ => rfl | q + 11, hj => absurd hj (by omega)) gw_25 gw_26 gw_1 ⟨(show 0 + 1 ≤ 601024 by omega), (show 0 + 11 ≤ 7293034 by omega)⟩ dL_law_0 (fun H1 hat1 hsm1 hz1 hS1 => ?_)
  refine lv_dup hx hb dL_law_3 rfl ?_
  refine hc_I hX hS1 pkK_dm (mc := 42) (ms := 3781) ⟨rfl, rfl, (show 16 + 1 ≤ 2048 by omega), (show 8 + (2 + 11) + 64 * 16 ≤ 84000 by omega)⟩ (As := []) (rest := [.ref (s.heap.size)]) rfl (K_dm l γ _ hat1 (by show gB γ ≤ _; omega)) gw_27 gw_28 rfl rfl hl (ca1 rfl ca0) (Nat.le_of_ble_eq_true rfl) dL_law_4 ⟨(show 0 + 1 + 42 ≤ 601024 by omega), (show 0 + 11 + 3781 ≤ 7293034 by omega)⟩ (fun H2 locs2 hB2 hS2 => ?_)
  obtain ⟨qd, z, ar, cap, Ls, hLs, hdW, hdS, hdz, hz2, hsm2⟩ := hB2
  refine rw_astore_n (i := 1) (lv' := [(1, .ref s.heap.size), (0, .ref b)]) hX hl (Nat.le_of_ble_eq_true rfl) rfl (Or.inr ⟨_, rfl⟩) dL_law_7 rfl (fun ls hl => ?_)
  refine hr_new hX hS2 (ci := 8) (fs := [.int 0, .int 0, .int 0, .int 0, .null, .null, .null, .null, .null, .null, .null, .null, .null, .null, .null, .null, .null, .null, .null, .null, .null, .null, .null, .int 0, .int 0, .null, .null, .null, .null, .null, .int 0, .null, .null, .null, .int 0, .null, .null, .null, .null, .null, .null, .int 0, .int 0, .null, .null, .null, .null, .int 0]) (C := RX7) (T := TX7) (N := 48) rfl uw_X7 tyX7 tyX7_ok (fun j hj => match j, hj with | 0, _ => rfl | 1, _ => rfl | 2, _ => rfl | 3, _ => rfl | 4, _ => rfl | 5, _ => rfl | 6, _ => rfl | 7, _ => rfl | 8, _ => rfl | 9, _ => rfl | 10, _ => rfl | 11, _ => rfl | 12, _ => rfl | 13, _ => rfl | 14, _ => rfl | 15, _ => rfl | 16, _ => rfl | 17, _ => rfl | 18, _ => rfl | 19, _ => rfl | 20, _ => rfl | 21, _ => rfl | 22, _ => rfl | 23, _ => rfl | 24, _ => rfl | 25, _ => rfl | 26, _ => rfl | 27, _ => rfl | 28, _ => rfl | 29, _ => rfl | 30, _ => rfl | 31, _ => rfl | 32, _ => rfl | 33, _ => rfl | 34, _ => rfl | 35, _ => rfl | 36, _ => rfl | 37, _ => rfl | 38, _ => rfl | 39, _ => rfl | 40, _ => rfl | 41, _ => rfl | 42, _ => rfl | 43, _ => rfl | 44, _ => rfl | 45, _ => rfl | 46, _ => rfl | 47, _ => rfl | q + 48, hj => absurd hj (by omega)) gw_922 gw_923 gw_11 ⟨(show 0 + 1 + 42 + 1 ≤ 601024 by omega), (show 0 + 11 + 3781 + 48 ≤ 7293034 by omega)⟩ dL_law_8 (fun H3 hat3 hsm3 hz3 hS3 => ?_)
  refine lv_dup hx hb dL_law_11 rfl ?_
  have hgB2 : gB γ ≤ H2.size := by have := hsm1.1; have := hsm2.1; omega
  refine hc_I hX hS3 pkK_mm (mc := 37) (ms := 1046) ⟨rfl, rfl, (show 3 + 1 ≤ 2048 by omega), (show 8 + (2 + 11) + 64 * 3 ≤ 84000 by omega)⟩ (As := []) (rest := [.ref (H2.size)]) rfl (K_mm l γ _ hat3 hgB2) gw_924 gw_925 rfl rfl hl (ca1 rfl ca0) (Nat.le_of_ble_eq_true rfl) dL_law_12 ⟨(show 0 + 1 + 42 + 1 + 37 ≤ 601024 by omega), (show 0 + 11 + 3781 + 48 + 1046 ≤ 7293034 by omega)⟩ (fun H4 locs4 hB4 hS4 => ?_)
  obtain ⟨qm, hmW, hsm4⟩ := hB4
  refine rw_astore_n (i := 2) (lv' := [(2, .ref H2.size), (1, .ref s.heap.size), (0, .ref b)]) hX hl (Nat.le_of_ble_eq_true rfl) rfl (Or.inr ⟨_, rfl⟩) dL_law_15 rfl (fun ls hl => ?_)
  refine lv_iconst (v := 1) hx hb dL_law_16 (by decide) ?_
  refine hr_newJ hX hS4 (N' := 1) gw_1344 (by decide) (by decide) (by decide) ⟨(show 0 + 1 + 42 + 1 + 37 + 1 ≤ 601024 by omega), (show 0 + 11 + 3781 + 48 + 1046 + 1 ≤ 7293034 by omega)⟩ dL_law_17 (fun H5 hat5 hsm5 hz5 hS5 => ?_)
  refine rw_astore_n (i := 3) (lv' := [(3, .ref H4.size), (2, .ref H2.size), (1, .ref s.heap.size), (0, .ref b)]) hX hl (Nat.le_of_ble_eq_true rfl) rfl (Or.inr ⟨_, rfl⟩) dL_law_19 rfl (fun ls hl => ?_)
  refine lv_iconst (v := 0) hx hb dL_law_20 (by decide) ?_
  refine rw_istore (i := 4) (lv' := [(4, .int 0), (3, .ref H4.size), (2, .ref H2.size), (1, .ref s.heap.size), (0, .ref b)]) hX hl (Nat.le_of_ble_eq_true rfl) rfl dL_law_21 (fun ls hl => ?_)
  have hsm24 : Sm H2 H4 (fun _ => False) := hsm3.trans hsm4 (fun _ _ z => z) (fun x hx z => absurd hx (by have : x = H2.size := z; omega))
  have hsm25 : Sm H2 H5 (fun _ => False) := hsm24.trans hsm5 (fun _ _ z => z) (fun _ _ z => z)
  have h24 := hsm24.1
  have h34 := hsm4.1
  have h12 := hsm2.1
  have hcp : 0 < cap := by have := hdS.2.1; omega
  have hart : ar < H2.size := hdS.1.lt
  have hzar : z ≤ ar := hdS.2.2.2.2.1 hcp
  have hrep : Rep (γ0 γ s.heap.size qd Ls H2.size qm H4.size) ad0 σ0 H5 := by
    refine rep0 (z := z) (ar := ar) (cap := cap) (t := H2.size) hLs (hdW.kept hsm25 (fun q hq => ?_)) (hdS.kept hsm25) hdz (by omega) (fun y hy => ?_) hart (by omega) (hmW.kept hsm5 (fun q hq => ?_)) (fun k c hk => (hmW.at k hk).lt) h24 hat5
    · rcases hq with hq | hq <;> omega
    · obtain ⟨j, hj⟩ := List.getElem?_of_mem hy
      exact (hdS.2.2.2.2.2.1 j y hj).1.lt
    · rcases hq with hq | hq <;> omega
  have hX' : CX (γ0 γ s.heap.size qd Ls H2.size qm H4.size) p s m #[Value.ref b] c cL_law 7 RL := ⟨hX.1, hK, hE⟩
  have hR : RS (γ0 γ s.heap.size qd Ls H2.size qm H4.size) ad0 σ0 s H5 locs4 := ⟨hrep, hS5⟩
  have hsc : SC (γ0 γ s.heap.size qd Ls H2.size qm H4.size) s b L xs := ⟨hX0, hbl, (by show b < gB γ; omega), hL⟩
  obtain ⟨τ, h0, hτ, -⟩ := run_all 1000 xs (by omega) 512 (Nat.le_refl _)
  refine law_loop (fu := 1000) (τ := τ) hfl hX' hsc (fun j hj => hτ j (by omega)) (fun ad σ ls H locs hR => ?_) L 0 ad0 ls H5 locs4 _ _ (by omega) (by omega) (by omega) (by omega) (lh_sub hl [4, 3, 2, 1, 0] rfl) (by rw [h0]; exact hR)
  refine lv_iconst (v := 1) hx hb dL_law_2236 (by decide) ?_
  refine va_forget (fun q hq => ?_) ?_
  · have h9 : gB γ ≤ q.base := hR.2.2.2 q hq
    omega
  · exact lw_ret hx hb hr hlocks dL_law_2237
-- ===== YOUR PART ENDS =====
set_option maxHeartbeats 4000000 in
theorem lw_walk (l : Launch) (hflags : l.flags = flags0) (b : Addr) (xs : List Int32) : MetFree l x (headSpec (Jvm.Cond.code x code maxLocals ret :: tables_1) room_1) (lw_P b xs) (fun _ _ _ _ _ => True) lw_Q := by
  refine MetFree.of_bodyS (code := code) (maxLocals := maxLocals) (ret := ret) (by decide) ?_ ?_
  · intro args s m h hn
    obtain ⟨meth, c, h1, h2, h3, h4, h5, h6, -, -⟩ := Cond.code_spec hn (atoms_spec (ws := Jvm.Cond.code x code maxLocals ret :: tables_1) h _ List.mem_cons_self)
    exact ⟨meth, c, h1, h2, h3, h4, h5, h6⟩
  · intro p e s m args below meth c s₁ B hml0 hP _
    obtain ⟨rfl, hx, hbd, hgv⟩ := hP
    obtain ⟨scr, harrAt, hlist, hof, hsmall⟩ := hx
    obtain ⟨hcb, hkn, -, -⟩ := State.arrayAt?_spec harrAt
    have hown : s.vm.findClass R_law = some m.cls := findClass_of_methodNamed B.named
    have hts0 : ∀ c ∈ (Jvm.Cond.code x code maxLocals ret :: tables_1), c.before #[Value.ref b] s = true := atoms_spec (ws := Jvm.Cond.code x code maxLocals ret :: tables_1) B.pre
    have hts : ∀ w ∈ lw_tbl, w.before #[Value.ref b] s = true := k2_hts_sels lw_privs (fun w hw => hts0 w (List.mem_cons_of_mem _ hw)) lw_privs_ok
    have hml : c.maxLocals = 7 := B.maxLocals_eq (hts0 _ List.mem_cons_self)
    have X₀ : Stand p l e room_1 s m #[Value.ref b] below meth c s₁ [] 0 0 := Stand.of_body B
    have hh0 : s₁.heap = s.heap := by rw [B.state]; rfl
    have hsz : scr.slots.size = xs.length := by rw [← Array.length_toList, hlist, List.length_map]
    have hval : ∀ j : Nat, j < xs.length → scr.slots[j]? = some (.int (xs.getD j 0)) := fun j hj => by
      rw [← Array.getElem?_toList, hlist]
      simp [hj]
    have hbl : b < s.heap.size := (Array.getElem?_eq_some_iff.mp hcb).1
    have hX : va_X b xs.length (fun j => xs.getD j 0) s s.heap := ⟨scr, hcb, hof, hkn, hsz, hval⟩
    have K : W p l e room_1 s m #[Value.ref b] below meth c s₁.heap [] 0 0 (lw_Z below #[Value.ref b] s) (entryFrame m ([Value.ref b] : List Value).toArray 7) := by
      rw [hh0]
      exact whole_start l hflags hbd ⟨B.exec, B.bytes, B.returns, hml, hown, hts, hX, hbl, B.notSynchronized, hgv⟩
    obtain ⟨t, a1, o, b1, b2, b3⟩ := K s₁ rfl X₀
    exact ⟨t, o, a1, b1, b2, b3⟩
theorem lw_pre_spec {args : Array Value} {s : State} (h : (Jvm.Cond.and given_1 narrow_1).before args s = true) (hr : rest_1_c.before args s = true) : ∃ (b : Addr) (xs : List Int32), lw_P b xs args s := by
  have hs := flat_of_before _ h
  have hq := flat_of_before _ hr
  have hc : (Cond.count 1).before args s = true := hs _ (by decide +kernel)
  have harr : (Cond.arrayOf (.arg 0) .int).before args s = true := hs _ (by decide +kernel)
  have hle : (Cond.le (.length (.arg 0)) (.int 4096)).before args s = true := hs _ (by decide +kernel)
  have hlen : (Cond.isInt (.length (.arg 0))).before args s = true := hq _ (by decide +kernel)
  have hall : (Cond.all (.arg 0) (.isInt (.elem (.arg 0) (.index 0)))).before args s = true := hq _ (by decide +kernel)
  obtain ⟨b, xs, hb, hx⟩ := State.ints_of_pre rfl harr hlen hall
  have hsm : xs.length < 2 ^ 31 := hx.choose_spec.2.2.2
  have hev : (Term.length (.arg 0)).eval args s none [] s = some (.int xs.length.toInt32) := hx.length_eval hb
  have hv := Cond.le_ints hev (show (Term.int 4096).eval args s none [] s = some (.int 4096) from rfl)
  have hd : xs.length.toInt32 ≤ 4096 := by
    simpa [Cond.before, Cond.holds, hv] using hle
  have hN : xs.length ≤ 4096 := (Int32.ofNat_le_ofNat hsm (by decide)).mp (show Int32.ofNat xs.length ≤ Int32.ofNat 4096 from hd)
  exact ⟨b, xs, Cond.one_arg hc (show args[0]? = some (.ref b) from hb), hx, hN, h⟩
theorem lw_comes (l : Launch) (hflags : l.flags = flags0) : Comes l x (Jvm.Cond.code x code maxLocals ret :: tables_1) room_1 (fun tb e args s => Calls_1 tb e args s ∧ rest_1 tb e args s ∧ Pre_1 tb e args s)
    (fun _ _ args s o t => lw_Q args s o t) := by
  intro p e ha hc hk s m args below hf hfit hheap happ hpre
  obtain ⟨b, xs, hP⟩ := lw_pre_spec hpre.2.2 hpre.2.1
  obtain ⟨k, o, h1, h2, h3, hQ⟩ := lw_walk l hflags b xs p e ha hc hk s m args below hf ((Spec.applies_iff_loose hf).mp happ).1 hP trivial
  exact ⟨k, o, h1, h2, h3, hQ⟩
theorem lw_frame {s t : State} {o : Outcome} {args : Array Value} (h : Framed s o t [] 601024 7293034) :
    Framed s o t (fieldLocs frame_1_writes args s ++ arrayLocs frame_1_arrays args s ++ staticLocs frame_1_statics s) 601024 7293034 := h
theorem lw_limb (L : Cond) (hL : ∀ (args : Array Value) (s t : State), L.after args s (.returned (some (.int 1))) t = true) :
    ArmFor flags0 classFile x code maxLocals ret World_1 tables_1 room_1 Calls_1 rest_1 Pre_1
      (fun tb e a s o t => postC L tb e a s o t ∧ Framed s o t (fieldLocs frame_1_writes a s ++ arrayLocs frame_1_arrays a s ++ staticLocs frame_1_statics s) 601024 7293034) := by
  intro l hflags _ _ p e ha hc hk s m args below hf hfit hheap happ hpre
  obtain ⟨k, o, h1, h2, h3, rfl, hF⟩ := lw_comes l hflags p e ha hc hk s m args below hf hfit hheap happ hpre
  exact ⟨k, _, h1, h2, h3, hL args s _, lw_frame hF⟩
theorem i_vc : Claimed_1_1 ∧ Claimed_1_2 := ⟨lw_limb limb_1_1 (fun args s t => by simp [limb_1_1, Cond.after, Cond.holds, Cond.value]), lw_limb limb_1_2 (fun args s t => Cond.after_iff.mpr (by
  first | (rw [show limb_1_2 = Cond.eq .result (.int 1) from rfl, Cond.eq_ints (x := 1) (y := 1) rfl rfl]; simp; done) | (simp [limb_1_2, Cond.value, Term.eval]; done)))⟩
