/-! ===== lists: the members of ArrayList as the methods call them ===== -/
theorem pk_lsize : PKV yJx4a65c_size_8abf5 cJx4a65c_size_8abf5 1 (some .int) 0 := pkK_size
theorem pk_lget : PKV yJx4a65c_get_915e3 cJx4a65c_get_915e3 2 (some (.object "java/lang/Object")) 1 := pkK_get
theorem pk_ladd : PKV yJx4a65c_add_9ea2d cJx4a65c_add_9ea2d 2 (some .boolean) 1 := pkK_add
theorem pk_lrem : PKV yJx4a65c_remove_915e3 cJx4a65c_remove_915e3 4 (some (.object "java/lang/Object")) 1 := pkK_rem
/-- the list's elements are there -/
def okl (σ : St) (k : Nat) : Bool := (gl σ k).all fun x => decide (x < cn σ (ek k))
theorem okl_lt {σ : St} {k x : Nat} (h : okl σ k = true) (hx : x ∈ gl σ k) : x < cn σ (ek k) := of_decide_eq_true (List.all_eq_true.mp h x hx)
def laA (γ : GT) (ad : Nat → Nat → Nat) (σ : St) (k : Nat) : List Nat := (gl σ k).map (Ad γ ad (ek k))
theorem ek_lt : ∀ k, k < 6 → 0 < ek k ∧ ek k < 9 := by decide +kernel
theorem okc : ∀ k, k < 6 → ∃ r, vwCl[ek k]? = some r ∧ Cond.castable r.1 "java/lang/Object" ∈ NW
  | 0, _ => ⟨_, rfl, nw_1354⟩
  | 1, _ => ⟨_, rfl, nw_1354⟩
  | 2, _ => ⟨_, rfl, nw_1355⟩
  | 3, _ => ⟨_, rfl, nw_1356⟩
  | 4, _ => ⟨_, rfl, nw_1357⟩
  | 5, _ => ⟨_, rfl, nw_1349⟩
  | n + 6, h => absurd h (by omega)
section LS
variable {γ : GT} {ad : Nat → Nat → Nat} {la : Nat → Nat × Nat} {σ : St} {H : Heap}
theorem rs_lst (h : Rep1 γ ad la σ H) {k : Nat} (hk : k < 6) : va_at (gD γ) vwCl (gS γ 0 k, .inr (0, [.int (gi σ 0 k), .ref (la k).1, .int (nI (gl σ k).length)])) H ∧ gB γ ≤ gS γ 0 k := h.1 0 k hk
theorem rs_ex0 {k : Nat} (hk : k < 6) : EX σ la 0 k := hk
theorem rs_ex9 {k : Nat} (hk : k < 6) (hc : 0 < (la k).2) : EX σ la 9 k := ⟨hk, hc⟩
theorem rs_exo {k x : Nat} (hk : k < 6) (hx : x < cn σ (ek k)) : EX σ la (ek k) x := by
  obtain ⟨h1, h2⟩ := ek_lt k hk
  unfold EX
  rw [if_neg (by omega), if_neg (by omega), if_pos h2]
  exact hx
theorem rs_arl (h : Rep1 γ ad la σ H) {k : Nat} (hk : k < 6) {s : State} (hE : EnvU γ s) (hs : s.heap = H) : LA γ (la k).1 (la k).2 (fun j => (laA γ ad σ k)[j]?) H := by
  have hL := h.2.2 k hk
  refine ⟨fun hc => ?_, fun hc => ?_⟩
  · have h9 := (h.1 9 k (rs_ex9 hk (by omega))).1
    have e : (fun j : Nat => (laA γ ad σ k)[j]?) = fun j : Nat => ((gl σ k)[j]?).map (Ad γ ad (ek k)) := by
      funext j
      exact List.getElem?_map
    rw [e]
    exact h9
  · rw [hL.2.2 hc]
    have h10 := hE.2.2.2.2.2.2.2.1
    rw [hs] at h10
    exact h10
theorem rs_neL (h : Rep1 γ ad la σ H) {k : Nat} (hk : k < 6) {s : State} (hE : EnvU γ s) : (la k).1 ≠ gS γ 0 k := by
  by_cases hc : (la k).2 = 0
  · rw [(h.2.2 k hk).2.2 hc]
    have h1 := (rs_lst h hk).2
    have h2 : gE γ < gB γ := hE.2.2.2.2.2.2.2.2.1
    omega
  · intro e
    have := (h.2.1 9 k 0 k (rs_ex9 hk (by omega)) (rs_ex0 hk) e).1
    omega
theorem rs_elO (h : Rep1 γ ad la σ H) {k x : Nat} (hk : k < 6) (hx : x < cn σ (ek k)) : OKo γ H (Ad γ ad (ek k) x) := by
  obtain ⟨r, h1, h2⟩ := okc k hk
  exact ⟨ek k, _, r, h1, h2, (rs_obj h (ek_lt k hk).1 (ek_lt k hk).2 hx).1⟩
theorem rs_elN (h : Rep1 γ ad la σ H) {k x : Nat} (hk : k < 6) (hx : x < cn σ (ek k)) : Ad γ ad (ek k) x ≠ gS γ 0 k := by
  have h9 := ek_lt k hk
  intro e
  have e1 : AD γ ad la (ek k) x = AD γ ad la 0 k := by
    unfold AD
    rw [if_neg (by omega), if_neg (by omega)]
    exact e
  have := (h.2.1 _ _ 0 k (rs_exo hk hx) (rs_ex0 hk) e1).1
  omega
theorem laA_mem {k i y : Nat} (hy : (laA γ ad σ k)[i]? = some y) : ∃ x, x ∈ gl σ k ∧ y = Ad γ ad (ek k) x := by
  have h := List.mem_of_getElem? hy
  obtain ⟨x, h1, h2⟩ := List.mem_map.mp h
  exact ⟨x, h1, h2.symm⟩
/-- a list changed: its cell, its array's cell -/
theorem rep_list (h : Rep1 γ ad la σ H) {H1 : Heap} {k : Nat} (hk : k < 6) {L' : List Nat} {q cap' : Nat} (hL : L'.length ≤ cap') (hc : cap' ≤ 1000) (h0 : 0 < cap') (hq : (q = (la k).1 ∧ 0 < (la k).2) ∨ H.size ≤ q) (hgb : gB γ ≤ H.size)
    (hat : va_at (gD γ) vwCl (gS γ 0 k, .inr (0, [.int (gi σ 0 k + 1), .ref q, .int (nI L'.length)])) H1) (har : va_at (gD γ) vwCl (q, .inl (gcO γ, cap', .inr (.inr (.inr (.inr fun j => (L'.map (Ad γ ad (ek k)))[j]?))))) H1)
    (hsm : Sm H H1 (fun x => x = gS γ 0 k ∨ (0 < (la k).2 ∧ x = (la k).1))) : Rep γ ad (zi (zl σ k L') 0 k (gi σ 0 k + 1)) H1 := by
  have eK : u1 la k (q, cap') k = (q, cap') := by simp [u1]
  have eN : ∀ i, i ≠ k → u1 la k (q, cap') i = la i := fun i hi => by simp [u1, hi]
  have gN : ∀ i, i ≠ k → gl (zi (zl σ k L') 0 k (gi σ 0 k + 1)) i = gl σ i := fun i hi => by simp [gl, zi, zl, u1, hi]
  have gK : gl (zi (zl σ k L') 0 k (gi σ 0 k + 1)) k = L' := by simp [gl, zi, zl, u1]
  have iN : ∀ i, i ≠ k → gi (zi (zl σ k L') 0 k (gi σ 0 k + 1)) 0 i = gi σ 0 i := fun i hi => by simp [gi, zi, zl, u2, hi]
  have iK : gi (zi (zl σ k L') 0 k (gi σ 0 k + 1)) 0 k = gi σ 0 k + 1 := by simp [gi, zi, zl, u2]
  -- the other cells
  have old : ∀ c i, EX (zi (zl σ k L') 0 k (gi σ 0 k + 1)) (u1 la k (q, cap')) c i → ¬ (c = 9 ∧ i = k) → EX σ la c i ∧ AD γ ad (u1 la k (q, cap')) c i = AD γ ad la c i := by
    intro c i hx hn
    by_cases c9 : c = 9
    · subst c9
      have hi : i ≠ k := fun z => hn ⟨rfl, z⟩
      have hx' : i < 6 ∧ 0 < (u1 la k (q, cap') i).2 := hx
      rw [eN i hi] at hx'
      exact ⟨hx', by show (u1 la k (q, cap') i).1 = (la i).1; rw [eN i hi]⟩
    · refine ⟨?_, by unfold AD; rw [if_neg c9, if_neg c9]⟩
      unfold EX at hx ⊢
      rw [if_neg c9] at hx ⊢
      exact hx
  have cel : ∀ c i, EX σ la c i → ¬ (c = 9 ∧ i = k) → ¬ (c = 0 ∧ i = k) → CE γ ad (u1 la k (q, cap')) (zi (zl σ k L') 0 k (gi σ 0 k + 1)) c i = CE γ ad la σ c i := by
    intro c i hx hn9 hn0
    unfold CE
    by_cases c0 : c = 0
    · have hi : i ≠ k := fun z => hn0 ⟨c0, z⟩
      rw [if_pos c0, if_pos c0, iN i hi, eN i hi, gN i hi]
    rw [if_neg c0, if_neg c0]
    by_cases c9 : c = 9
    · have hi : i ≠ k := fun z => hn9 ⟨c9, z⟩
      rw [if_pos c9, if_pos c9, eN i hi, gN i hi]
    rw [if_neg c9, if_neg c9]
    by_cases cl9 : c < 9
    · rw [if_pos cl9, if_pos cl9]
      refine congrArg (fun x => (Sum.inr (c, x) : va_E)) (oj_same fun k' _ => ?_)
      exact (fv_zi (σ := zl σ k L') (fun z => by omega)).trans rfl
    rw [if_neg cl9, if_neg cl9]
    by_cases c3 : c = 3000
    · rw [if_pos c3, if_pos c3]
      rfl
    rw [if_neg c3, if_neg c3]
    unfold EX at hx
    rw [if_neg c0, if_neg c9, if_neg cl9, if_neg c3] at hx
    have hne : c - 1000 ≠ 0 := fun z => by
      have h2 := hx.2.2
      rw [z] at h2
      exact absurd h2 (by decide)
    exact (arE_zi (σ := zl σ k L') hne).trans rfl
  have low : ∀ c i, EX σ la c i → AD γ ad la c i < H.size := fun c i hx => (h.1 c i hx).1.lt
  refine ⟨u1 la k (q, cap'), fun c i hx => ?_, fun c i c' i' hx hx' he => ?_, fun j hj => ?_⟩
  · by_cases h9 : c = 9 ∧ i = k
    · obtain ⟨rfl, rfl⟩ := h9
      have e1 : AD γ ad (u1 la i (q, cap')) 9 i = q := by show (u1 la i (q, cap') i).1 = q; rw [eK]
      have e2 : CE γ ad (u1 la i (q, cap')) (zi (zl σ i L') 0 i (gi σ 0 i + 1)) 9 i = .inl (gcO γ, cap', .inr (.inr (.inr (.inr fun j => (L'.map (Ad γ ad (ek i)))[j]?)))) := by
        unfold CE
        rw [if_neg (by decide), if_pos rfl, eK, gK]
        have e3 : (fun j : Nat => (L'[j]?).map (Ad γ ad (ek i))) = fun j : Nat => (L'.map (Ad γ ad (ek i)))[j]? := by funext j; exact List.getElem?_map.symm
        rw [e3]
      rw [e1, e2]
      refine ⟨har, ?_⟩
      rcases hq with ⟨rfl, hq⟩ | hq
      · exact (h.1 9 i (rs_ex9 hk hq)).2
      · omega
    · obtain ⟨hxo, ha⟩ := old c i hx h9
      rw [ha]
      by_cases h0' : c = 0 ∧ i = k
      · obtain ⟨rfl, rfl⟩ := h0'
        refine ⟨?_, (h.1 0 i hxo).2⟩
        have e2 : CE γ ad (u1 la i (q, cap')) (zi (zl σ i L') 0 i (gi σ 0 i + 1)) 0 i = .inr (0, [.int (gi σ 0 i + 1), .ref q, .int (nI L'.length)]) := by
          unfold CE
          rw [if_pos rfl, eK, gK, iK]
        rw [e2]
        exact hat
      · rw [cel c i hxo h9 h0']
        refine ⟨(h.1 c i hxo).1.kept (hsm.2 _ (low c i hxo) (fun z => ?_)), (h.1 c i hxo).2⟩
        rcases z with z | ⟨z1, z⟩
        · exact h0' (h.2.1 c i 0 k hxo (rs_ex0 hk) z)
        · exact h9 (h.2.1 c i 9 k hxo (rs_ex9 hk z1) z)
  · by_cases h9 : c = 9 ∧ i = k
    · by_cases h9' : c' = 9 ∧ i' = k
      · exact ⟨h9.1.trans h9'.1.symm, h9.2.trans h9'.2.symm⟩
      · exfalso
        obtain ⟨rfl, rfl⟩ := h9
        obtain ⟨hxo, ha⟩ := old c' i' hx' h9'
        have e1 : AD γ ad (u1 la i (q, cap')) 9 i = q := by show (u1 la i (q, cap') i).1 = q; rw [eK]
        rw [e1, ha] at he
        have := low c' i' hxo
        rcases hq with ⟨rfl, hq⟩ | hq
        · have := h.2.1 c' i' 9 i hxo (rs_ex9 hk hq) he.symm
          exact h9' this
        · omega
    · obtain ⟨hxo, ha⟩ := old c i hx h9
      by_cases h9' : c' = 9 ∧ i' = k
      · exfalso
        obtain ⟨rfl, rfl⟩ := h9'
        have e1 : AD γ ad (u1 la i' (q, cap')) 9 i' = q := by show (u1 la i' (q, cap') i').1 = q; rw [eK]
        rw [e1, ha] at he
        have := low c i hxo
        rcases hq with ⟨rfl, hq⟩ | hq
        · have := h.2.1 c i 9 i' hxo (rs_ex9 hk hq) he
          exact h9 this
        · omega
      · obtain ⟨hxo', ha'⟩ := old c' i' hx' h9'
        rw [ha, ha'] at he
        exact h.2.1 c i c' i' hxo hxo' he
  · by_cases hj' : j = k
    · subst hj'
      rw [eK, gK]
      exact ⟨hL, hc, fun z => absurd z (by show ¬ cap' = 0; omega)⟩
    · rw [eN j hj', gN j hj']
      exact h.2.2 j hj
theorem rs_recvL {p : Program} {s : State} {m : MethodId} {args : Array Value} {c : Code} {cc : ByteArray} {nL : Nat} {own : String} {locs : List Loc} (hX : CX γ p s m args c cc nL own) (hR : RS γ ad σ s H locs) (k : Nat) (hk : k < 6) : ∃ cell : Cell, H[gS γ 0 k]? = some cell ∧ cell.vm.isStatics = false ∧ s.vm.findClass RJx4a65c = some cell.cls := by
  obtain ⟨⟨la, h1⟩, -⟩ := hR
  exact va_recv hX.2.1 (rs_P (rs_lst h1 hk).1) (q0 := 0) (ci := 0) (q := (RJx4a65c, TJx4a65c, 3)) rfl rfl
end LS
theorem C_lsize (l : Launch) (γ : GT) (ad : Nat → Nat → Nat) (σ : St) (k : Nat) (hk : k < 6) : Met l yJx4a65c_size_8abf5 (Cond.code yJx4a65c_size_8abf5 cJx4a65c_size_8abf5 1 (some .int) :: GW) (rmo 14 0 0) (va_Pc [.ref (gS γ 0 k)] (RU γ ad σ)) (QI γ ad σ (nI (gl σ k).length)) 0 0 (gA γ) := by
  refine Met.conv fun s args hp => ?_
  obtain ⟨ha, ⟨la, h1⟩, hK, hE⟩ := hp
  refine ⟨_, _, K_size l γ s.heap (rs_lst h1 hk).1, ⟨ha, rfl, hK, hE⟩, fun o t hq => ?_⟩
  obtain ⟨⟨r, u, e1, e2, e3⟩, hF⟩ := hq
  have e3 : t.heap = s.heap := e3
  exact ⟨⟨r, u, e1, e2, by show Rep γ ad σ t.heap; rw [e3]; exact ⟨la, h1⟩⟩, hF⟩
theorem C_lget (l : Launch) (γ : GT) (ad : Nat → Nat → Nat) (σ : St) (k : Nat) (x : Int32) (j : Nat) (hk : k < 6) (hx : ¬ x < 0) (hj : (gl σ k)[x.toNatClampNeg]? = some j) : Met l yJx4a65c_get_915e3 (Cond.code yJx4a65c_get_915e3 cJx4a65c_get_915e3 2 (some (.object "java/lang/Object")) :: GW) (rmo 14 0 0) (va_Pc [.ref (gS γ 0 k), .int x] (RU γ ad σ)) (QR γ ad σ ((some j).map (Ad γ ad (ek k)))) 0 0 (gA γ) := by
  obtain ⟨i, hi, rfl⟩ := nI_of hx
  rw [nI_clamp hi] at hj
  have hlt : i < (gl σ k).length := (List.getElem?_eq_some_iff.mp hj).1
  refine Met.conv fun s args hp => ?_
  obtain ⟨ha, ⟨la, h1⟩, hK, hE⟩ := hp
  have hL := h1.2.2 k hk
  refine ⟨_, _, K_get l γ s.heap (v := Ad γ ad (ek k) j) (rs_lst h1 hk).1 ((rs_arl h1 hk hE rfl).1 (by omega)) (by simp [laA, hj]) (by omega) hL.2.1 hlt (by omega), ⟨ha, rfl, hK, hE⟩, fun o t hq => ?_⟩
  obtain ⟨⟨r, u, e1, e2, e3⟩, hF⟩ := hq
  have e3 : u = some (Ad γ ad (ek k) j) ∧ t.heap = s.heap := e3
  have e2 : r = u := e2
  exact ⟨⟨r, (), e1, e2.trans e3.1, by show Rep γ ad σ t.heap; rw [e3.2]; exact ⟨la, h1⟩⟩, hF⟩
theorem C_ladd (l : Launch) (γ : GT) (ad : Nat → Nat → Nat) (σ : St) (k j : Nat) (hk : k < 6) (hj : j < cn σ (ek k)) (ho : okl σ k = true) (hl : (gl σ k).length < 150) : Met l yJx4a65c_add_9ea2d (Cond.code yJx4a65c_add_9ea2d cJx4a65c_add_9ea2d 2 (some .boolean) :: GW) (rmo 14 1 230) (va_Pc [.ref (gS γ 0 k), .ref (Ad γ ad (ek k) j)] (RU γ ad σ)) (QI γ ad (ladd σ k j) 1) 1 230 (gA γ) := by
  refine Met.conv fun s args hp => ?_
  obtain ⟨ha, ⟨la, h1⟩, hK, hE⟩ := hp
  have hL := h1.2.2 k hk
  refine ⟨_, _, K_add l γ s.heap (rs_lst h1 hk).1 (rs_lst h1 hk).2 (rs_arl h1 hk hE rfl) (rs_neL h1 hk hE) (fun i y hy => ?_) (fun i hi => ?_) hl hL.1 hL.2.1 hL.2.2 (fun hc => (h1.1 9 k (rs_ex9 hk hc)).2) (rs_elO h1 hk hj) (rs_elN h1 hk hj) (fun i y hy => ?_), ⟨ha, rfl, hK, hE⟩, fun o t hq => ?_⟩
  · obtain ⟨x, hx, rfl⟩ := laA_mem hy
    exact rs_elO h1 hk (okl_lt ho hx)
  · exact List.getElem?_eq_none (by rw [laA, List.length_map]; exact hi)
  · obtain ⟨x, hx, rfl⟩ := laA_mem hy
    exact rs_elN h1 hk (okl_lt ho hx)
  · obtain ⟨⟨r, u, e1, e2, q, cap', g1, g2, g3, g4, g5, g6⟩, hF⟩ := hq
    refine ⟨⟨r, u, e1, e2, ?_⟩, hF⟩
    refine rep_list h1 hk (L' := gl σ k ++ [j]) (q := q) (cap' := cap') (by rw [List.length_append]; exact g1) g2 (by omega) g3 hE.2.2.2.2.2.2.2.2.2 (by rw [List.length_append]; exact g4) ?_ g6
    have e5 : va_up (fun j : Nat => (laA γ ad σ k)[j]?) (gl σ k).length (some (Ad γ ad (ek k) j)) = fun i : Nat => ((gl σ k ++ [j]).map (Ad γ ad (ek k)))[i]? := by
      funext i
      unfold va_up laA
      rw [List.map_append]
      by_cases hi : i = (gl σ k).length
      · rw [if_pos hi, List.getElem?_append_right (by rw [List.length_map]; omega), List.length_map, hi, Nat.sub_self]
        rfl
      · rw [if_neg hi]
        by_cases h2 : i < (gl σ k).length
        · rw [List.getElem?_append_left (by rw [List.length_map]; exact h2)]
        · rw [List.getElem?_eq_none (by rw [List.length_append, List.length_map, List.length_map, List.length_singleton]; omega)]
          exact List.getElem?_eq_none (by rw [List.length_map]; omega)
    rw [e5] at g5
    exact g5
theorem C_lrem (l : Launch) (γ : GT) (ad : Nat → Nat → Nat) (σ : St) (k : Nat) (x : Int32) (j : Nat) (hk : k < 6) (hx : ¬ x < 0) (ho : okl σ k = true) (hj : (gl σ k)[x.toNatClampNeg]? = some j) : Met l yJx4a65c_remove_915e3 (Cond.code yJx4a65c_remove_915e3 cJx4a65c_remove_915e3 4 (some (.object "java/lang/Object")) :: GW) (rmo 14 0 0) (va_Pc [.ref (gS γ 0 k), .int x] (RU γ ad σ)) (QR γ ad (lrem σ k x.toNatClampNeg) ((some j).map (Ad γ ad (ek k)))) 0 0 (gA γ) := by
  obtain ⟨i, hi, rfl⟩ := nI_of hx
  rw [nI_clamp hi] at hj ⊢
  have hlt : i < (gl σ k).length := (List.getElem?_eq_some_iff.mp hj).1
  refine Met.conv fun s args hp => ?_
  obtain ⟨ha, ⟨la, h1⟩, hK, hE⟩ := hp
  have hL := h1.2.2 k hk
  have hlen : (laA γ ad σ k).length = (gl σ k).length := List.length_map ..
  have hc : 0 < (la k).2 := by omega
  have hat := (rs_lst h1 hk).1
  rw [← hlen] at hat
  refine ⟨_, _, K_rem l γ s.heap (v := Ad γ ad (ek k) j) hat (rs_lst h1 hk).2 ((rs_arl h1 hk hE rfl).1 hc) (rs_neL h1 hk hE) (h1.1 9 k (rs_ex9 hk hc)).2 (fun i y hy => ?_) (fun i y hy => ?_) (by omega) (by omega) hL.2.1 (by simp [laA, hj]), ⟨ha, rfl, hK, hE⟩, fun o t hq => ?_⟩
  · obtain ⟨x, hx, rfl⟩ := laA_mem hy
    exact rs_elO h1 hk (okl_lt ho hx)
  · obtain ⟨x, hx, rfl⟩ := laA_mem hy
    exact rs_elN h1 hk (okl_lt ho hx)
  · obtain ⟨⟨r, u, e1, e2, g3, g4, g5, g6⟩, hF⟩ := hq
    have e2 : r = u := e2
    refine ⟨⟨r, (), e1, e2.trans g3, ?_⟩, hF⟩
    have hel : ((gl σ k).eraseIdx i).length = (gl σ k).length - 1 := List.length_eraseIdx_of_lt hlt
    rw [hlen] at g4
    refine rep_list h1 hk (L' := (gl σ k).eraseIdx i) (q := (la k).1) (cap' := (la k).2) (by omega) hL.2.1 hc (Or.inl ⟨rfl, hc⟩) hE.2.2.2.2.2.2.2.2.2 (by rw [hel]; exact g4) ?_ ⟨g6.1, fun q h1 h2 => g6.2 q h1 (fun z => h2 (z.imp_right fun z => ⟨hc, z⟩))⟩
    have e5 : (fun j : Nat => ((laA γ ad σ k).eraseIdx i)[j]?) = fun m : Nat => (((gl σ k).eraseIdx i).map (Ad γ ad (ek k)))[m]? := by
      funext m
      rw [laA, List.getElem?_eraseIdx, List.getElem?_map, List.getElem?_map, List.getElem?_map, List.getElem?_eraseIdx]
      by_cases hm : m < i
      · rw [if_pos hm, if_pos hm]
      · rw [if_neg hm, if_neg hm]
    rw [e5] at g5
    exact g5
