/-! ===== the two sides together: one call of the law, and all of them ===== -/
theorem bnd0 {n : Nat} {P : Prop} (h : n < 0) : P := absurd h (Nat.not_lt_zero n)
theorem start_inv : INVF 0 0 σ0 σ0 := by
  refine ⟨⟨⟨⟨rfl, by decide, rfl, by decide, rfl, by decide, rfl, by decide, rfl⟩, fun d h => bnd0 h, ⟨List.nodup_nil, fun d => ⟨fun h => (by cases h), fun h => bnd0 h.1⟩, fun l1 d l2 h => ?_⟩, fun d h => bnd0 h, ⟨fun d h => bnd0 h, fun d _ hd => ⟨?_, ?_, rfl⟩, fun q _ _ => rfl⟩, ⟨rfl, rfl, fun d h => bnd0 h, fun q h => bnd0 h⟩, ⟨0, Nat.le_refl _, rfl, List.Pairwise.nil, fun d h => (by cases h)⟩⟩, ⟨fun d h => bnd0 h, fun d h => bnd0 h, rfl, rfl, fun _ _ _ => rfl⟩, fun d _ => ?_, ⟨fun h hh => bnd0 hh, fun k hk => bnd0 hk, ⟨rfl, ⟨fun d _ => ⟨0, Nat.le_refl _, rfl, fun _ => rfl⟩, fun _ _ _ => rfl⟩, fun h d hh => bnd0 hh⟩, ⟨rfl, fun k hk => bnd0 hk⟩⟩, fun s hs => ⟨fun k hk => (by cases hk), ?_, rfl⟩, ⟨fun l _ => ⟨0, by omega, rfl, rfl⟩, rfl, rfl⟩, ⟨rfl, rfl, fun _ _ => ⟨rfl, rfl⟩⟩⟩, ⟨fun _ _ _ => rfl, fun _ d h => bnd0 h, fun h => (by cases h)⟩, fun _ d h => bnd0 h, fun d h => bnd0 h, fun q h => bnd0 h, fun d h => bnd0 h, fun h d hh => bnd0 hh⟩
  · have h2 : ([] : List Nat) = l1 ++ d :: l2 := h
    cases l1 <;> cases h2
  · exact if_pos hd
  · exact if_pos hd
  · show false = (decide (d < 0) && false)
    rw [Bool.and_false]
  · exact if_pos hs
theorem fr_o3 {σ : St} {v : Int64} : FR [3000] σ (zo σ v) := FR.rf.zo (by decide)
theorem fr_hoi {σ : St} {r : Except Nat Int32} : FR [3000] σ (hoi σ r) := by
  cases r with
  | ok v => exact fr_o3
  | error e => exact FR.rf
theorem fr_hoz {σ : St} {r : Except Nat Bool} : FR [3000] σ (hoz σ r) := by
  cases r with
  | ok v => exact fr_o3
  | error e => exact FR.rf
def CF3 : List Nat := 3000 :: CF
def MF3 : List Nat := 3000 :: MF
set_option maxRecDepth 100000 in
theorem cf3_m : ∀ x ∈ MR, x ∉ CF3 := by decide +kernel
set_option maxRecDepth 100000 in
theorem mf3_c : ∀ x ∈ CR, x ∉ MF3 := by decide +kernel
set_option maxRecDepth 100000 in
theorem mf3_c2 : ∀ x ∈ [209, 216, 217, 300, 709, 208], x ∉ MF3 := by decide +kernel
set_option maxRecDepth 100000 in
theorem cf3_822 : 822 ∉ CF3 := by decide +kernel
theorem cr_in {L : List Nat} (h : (L.all fun x => CR.contains x || [209, 216, 217, 300, 709, 208].contains x) = true) : ∀ x ∈ L, x ∉ MF3 := by
  intro x hx
  have h1 := List.all_eq_true.mp h x hx
  rcases Bool.or_eq_true _ _ ▸ h1 with h2 | h2
  · exact mf3_c x (List.contains_iff_mem.mp h2)
  · exact mf3_c2 x (List.contains_iff_mem.mp h2)
theorem INVF.mm {e t : Nat} {c m m' : St} (h : INVF e t c m) (hg : FR CF3 m m') : INVF e t c m' :=
  ⟨h.1.fr (F := []) FR.rf hg (by simp) cf3_m, h.2.1.fr (F := []) FR.rf hg (by simp) cf3_822, h.2.2⟩
theorem INVF.cc {e t : Nat} {c c' m : St} (h : INVF e t c m) (hf : FR MF3 c c') : INVF e t c' m := by
  obtain ⟨h1, h2, h3, h4, h5, h6, h7⟩ := h
  refine ⟨h1.fr (G := []) hf FR.rf mf3_c (by simp), h2.fr (G := []) hf FR.rf (cr_in (by decide +kernel)) (by simp), h3.fr hf (cr_in (by decide +kernel)), h4.fr hf (cr_in (by decide +kernel)), h5.fr hf (cr_in (by decide +kernel)), h6.fr hf (cr_in (by decide +kernel)), h7.fr hf (cr_in (by decide +kernel)) fun d hd => ?_⟩
  rw [bd_fr hf (cr_in (L := [210]) (by decide +kernel) 210 (by decide))]
  exact hd
theorem hk_hkk {w : Nat → Int32} {α : Type} (r : Except Nat α) : hkk w r = hk w r := by cases r <;> rfl
theorem mf_go : 3000 ∉ MF := by decide
theorem gl_I {w : Nat → Int32} {E : Nat → Prop} {fu e t : Nat} {σ : St} {A : Option (Except Nat Int32 × St)} {B : St → Option (Int32 × St)} (h : INVF e t σ σ) (hF : ∀ m, INVF e t σ m → OKF w E e t σ m A (B m)) (hw : ∀ x, E x → w x ≠ 0) : ∃ σ' e' t', (∃ (r : Except Nat Int32) (σ1 : St) (r2 : Int32), A = some (r, σ1) ∧ (∀ x, r = .error x → E x) ∧ B (hoi σ1 r) = some (r2, σ') ∧ f8_thrown fu σ' = some (hk w r) ∧ (hk w r = 0 → go σ' = r2.toInt64)) ∧ INVF e' t' σ' σ' ∧ e' ≤ e + 1500 ∧ t' ≤ t + 50 := by
  obtain ⟨r, c', -, -, -, -, hA, -, hE, hC, -⟩ := hF σ h
  have h3 : FR CF3 σ (hoi c' r) := (hC.mono fun x hx => List.mem_cons_of_mem _ hx).tr (fr_hoi.mono fun x hx => by rw [List.mem_singleton.mp hx]; exact List.mem_cons_self)
  obtain ⟨r', c'', r2, m', e', t', hA', hB, -, -, hM, hI, -, he, -, ht, h8, hr⟩ := hF _ (h.mm h3)
  have e1 := Option.some.inj (hA.symm.trans hA')
  cases e1
  have h4 : FR MF3 c' m' := (fr_hoi.mono fun x hx => by rw [List.mem_singleton.mp hx]; exact List.mem_cons_self).tr (hM.mono fun x hx => List.mem_cons_of_mem _ hx)
  refine ⟨m', e', t', ⟨r, c', r2, hA, hE, hB, ?_, fun h0 => ?_⟩, hI.cc h4, he, ht⟩
  · show some (gi m' 800 0) = _
    rw [h8, hk_hkk]
  · cases r with
    | error x => exact absurd h0 (hw x (hE x rfl))
    | ok v => rw [hM.o mf_go, hr v rfl]; rfl
theorem gl_Z {w : Nat → Int32} {E : Nat → Prop} {fu e t : Nat} {σ : St} {A : Option (Except Nat Bool × St)} {B : St → Option (Bool × St)} (h : INVF e t σ σ) (hF : ∀ m, INVF e t σ m → OKF w E e t σ m A (B m)) (hw : ∀ x, E x → w x ≠ 0) : ∃ σ' e' t', (∃ (r : Except Nat Bool) (σ1 : St) (r2 : Bool), A = some (r, σ1) ∧ (∀ x, r = .error x → E x) ∧ B (hoz σ1 r) = some (r2, σ') ∧ f8_thrown fu σ' = some (hk w r) ∧ (hk w r = 0 → go σ' = (if r2 = true then 1 else 0))) ∧ INVF e' t' σ' σ' ∧ e' ≤ e + 1500 ∧ t' ≤ t + 50 := by
  obtain ⟨r, c', -, -, -, -, hA, -, hE, hC, -⟩ := hF σ h
  have h3 : FR CF3 σ (hoz c' r) := (hC.mono fun x hx => List.mem_cons_of_mem _ hx).tr (fr_hoz.mono fun x hx => by rw [List.mem_singleton.mp hx]; exact List.mem_cons_self)
  obtain ⟨r', c'', r2, m', e', t', hA', hB, -, -, hM, hI, -, he, -, ht, h8, hr⟩ := hF _ (h.mm h3)
  have e1 := Option.some.inj (hA.symm.trans hA')
  cases e1
  have h4 : FR MF3 c' m' := (fr_hoz.mono fun x hx => by rw [List.mem_singleton.mp hx]; exact List.mem_cons_self).tr (hM.mono fun x hx => List.mem_cons_of_mem _ hx)
  refine ⟨m', e', t', ⟨r, c', r2, hA, hE, hB, ?_, fun h0 => ?_⟩, hI.cc h4, he, ht⟩
  · show some (gi m' 800 0) = _
    rw [h8, hk_hkk]
  · cases r with
    | error x => exact absurd h0 (hw x (hE x rfl))
    | ok v => rw [hM.o mf_go, hr v rfl]; rfl
theorem gq_I {w : Nat → Int32} {E : Nat → Prop} {fu e t : Nat} {σ : St} {A : Option (Except Nat Int32)} {B : St → Option (Int32 × St)} (h : INVF e t σ σ) (hF : ∀ m, INVF e t σ m → OKQ w E e t σ m A (B m)) (hw : ∀ x, E x → w x ≠ 0) : ∃ σ' e' t', (∃ (r : Except Nat Int32) (r2 : Int32), A = some r ∧ (∀ x, r = .error x → E x) ∧ B (hoi σ r) = some (r2, σ') ∧ f8_thrown fu σ' = some (hk w r) ∧ (hk w r = 0 → go σ' = r2.toInt64)) ∧ INVF e' t' σ' σ' ∧ e' ≤ e + 1500 ∧ t' ≤ t + 50 := by
  obtain ⟨r, -, -, hA, -, hE, -⟩ := hF σ h
  have h3 : FR CF3 σ (hoi σ r) := fr_hoi.mono fun x hx => by rw [List.mem_singleton.mp hx]; exact List.mem_cons_self
  obtain ⟨r', r2, m', hA', hB, -, hM, hI, h8, hr⟩ := hF _ (h.mm h3)
  have e1 := Option.some.inj (hA.symm.trans hA')
  cases e1
  have h4 : FR MF3 σ m' := (fr_hoi.mono fun x hx => by rw [List.mem_singleton.mp hx]; exact List.mem_cons_self).tr (hM.mono fun x hx => List.mem_cons_of_mem _ hx)
  refine ⟨m', e, t, ⟨r, r2, hA, hE, hB, ?_, fun h0 => ?_⟩, hI.cc h4, by omega, by omega⟩
  · show some (gi m' 800 0) = _
    rw [h8, hk_hkk]
  · cases r with
    | error x => exact absurd h0 (hw x (hE x rfl))
    | ok v => rw [hM.o mf_go, hr v rfl]; rfl
theorem gq_Z {w : Nat → Int32} {E : Nat → Prop} {fu e t : Nat} {σ : St} {A : Option (Except Nat Bool)} {B : St → Option (Bool × St)} (h : INVF e t σ σ) (hF : ∀ m, INVF e t σ m → OKQ w E e t σ m A (B m)) (hw : ∀ x, E x → w x ≠ 0) : ∃ σ' e' t', (∃ (r : Except Nat Bool) (r2 : Bool), A = some r ∧ (∀ x, r = .error x → E x) ∧ B (hoz σ r) = some (r2, σ') ∧ f8_thrown fu σ' = some (hk w r) ∧ (hk w r = 0 → go σ' = (if r2 = true then 1 else 0))) ∧ INVF e' t' σ' σ' ∧ e' ≤ e + 1500 ∧ t' ≤ t + 50 := by
  obtain ⟨r, -, -, hA, -, hE, -⟩ := hF σ h
  have h3 : FR CF3 σ (hoz σ r) := fr_hoz.mono fun x hx => by rw [List.mem_singleton.mp hx]; exact List.mem_cons_self
  obtain ⟨r', r2, m', hA', hB, -, hM, hI, h8, hr⟩ := hF _ (h.mm h3)
  have e1 := Option.some.inj (hA.symm.trans hA')
  cases e1
  have h4 : FR MF3 σ m' := (fr_hoz.mono fun x hx => by rw [List.mem_singleton.mp hx]; exact List.mem_cons_self).tr (hM.mono fun x hx => List.mem_cons_of_mem _ hx)
  refine ⟨m', e, t, ⟨r, r2, hA, hE, hB, ?_, fun h0 => ?_⟩, hI.cc h4, by omega, by omega⟩
  · show some (gi m' 800 0) = _
    rw [h8, hk_hkk]
  · cases r with
    | error x => exact absurd h0 (hw x (hE x rfl))
    | ok v => rw [hM.o mf_go, hr v rfl]; rfl
theorem nz1 : ∀ x, x = 1 → w1 x ≠ 0 := by rintro x rfl; decide
theorem nz2 : ∀ x, x = 2 → w2 x ≠ 0 := by rintro x rfl; decide
theorem nz3 : ∀ x, x = 3 → w3 x ≠ 0 := by rintro x rfl; decide
theorem nz13 : ∀ x, E13 x → w13 x ≠ 0 := by rintro x (rfl | rfl) <;> decide
theorem nz23 : ∀ x, E23 x → w23 x ≠ 0 := by rintro x (rfl | rfl) <;> decide
theorem nz12 : ∀ x, E12 x → w12 x ≠ 0 := by rintro x (rfl | rfl) <;> decide
theorem nz123 : ∀ x, E123 x → w123 x ≠ 0 := by rintro x (rfl | rfl | rfl) <;> decide
def PS (fu : Nat) (xs : Nat → Int32) (I e t : Nat) (σ : St) (C : Nat → (Nat → Int32) → Nat → St → St → Prop) : Prop := ∃ σ' e' t', C fu xs I σ σ' ∧ INVF e' t' σ' σ' ∧ e' ≤ e + 1500 ∧ t' ≤ t + 50
section GLUE
variable {fu : Nat} {xs : Nat → Int32} {I e t : Nat} {σ : St}
theorem ps_0 (h : INVF e t σ σ) (he : e + 1500 < 2 ^ 31) (ht : t + 100 < 2 ^ 31) (hf : 200 ≤ fu) : PS fu xs I e t σ CS_0 :=
  gl_I (B := fun m => f8_plug fu (xs (I + 1)) (xs (I + 2)) (xs (I + 3)) (xs (I + 4)) (!(xs (I + 5) == 0)) (xs (I + 6)) (xs (I + 7)) m) h (fun m hm => F_plug (xs (I + 1)) (xs (I + 2)) (xs (I + 3)) (xs (I + 4)) (!(xs (I + 5) == 0)) (xs (I + 6)) (xs (I + 7)) hm he hf) nz123
theorem ps_1 (h : INVF e t σ σ) (he : e + 1500 < 2 ^ 31) (ht : t + 100 < 2 ^ 31) (hf : 200 ≤ fu) : PS fu xs I e t σ CS_1 :=
  gl_I (B := fun m => f8_unplug fu (xs (I + 1)) m) h (fun m hm => F_unplug (xs (I + 1)) hm he hf) nz13
theorem ps_2 (h : INVF e t σ σ) (he : e + 1500 < 2 ^ 31) (ht : t + 100 < 2 ^ 31) (hf : 200 ≤ fu) : PS fu xs I e t σ CS_2 :=
  gl_I (B := fun m => f8_driver fu (xs (I + 1)) (xs (I + 2)) (xs (I + 3)) (!(xs (I + 4) == 0)) m) h (fun m hm => F_driver (xs (I + 1)) (xs (I + 2)) (xs (I + 3)) (!(xs (I + 4) == 0)) hm he hf) nz23
theorem ps_3 (h : INVF e t σ σ) (he : e + 1500 < 2 ^ 31) (ht : t + 100 < 2 ^ 31) (hf : 200 ≤ fu) : PS fu xs I e t σ CS_3 :=
  gl_I (B := fun m => f8_load fu (xs (I + 1)) (xs (I + 2)) m) h (fun m hm => F_load (xs (I + 1)) (xs (I + 2)) hm he hf) nz12
theorem ps_4 (h : INVF e t σ σ) (he : e + 1500 < 2 ^ 31) (ht : t + 100 < 2 ^ 31) (hf : 200 ≤ fu) : PS fu xs I e t σ CS_4 :=
  gl_I (B := fun m => f8_unbind fu (xs (I + 1)) m) h (fun m hm => F_unbind (xs (I + 1)) hm he hf) nz13
theorem ps_5 (h : INVF e t σ σ) (he : e + 1500 < 2 ^ 31) (ht : t + 100 < 2 ^ 31) (hf : 200 ≤ fu) : PS fu xs I e t σ CS_5 :=
  gl_I (B := fun m => f8_bind fu (xs (I + 1)) m) h (fun m hm => F_bind (xs (I + 1)) hm he hf) nz13
theorem ps_6 (h : INVF e t σ σ) (he : e + 1500 < 2 ^ 31) (ht : t + 100 < 2 ^ 31) (hf : 200 ≤ fu) : PS fu xs I e t σ CS_6 :=
  gl_I (B := fun m => f8_reset fu (xs (I + 1)) m) h (fun m hm => F_reset (xs (I + 1)) hm hf) nz13
theorem ps_7 (h : INVF e t σ σ) (he : e + 1500 < 2 ^ 31) (ht : t + 100 < 2 ^ 31) (hf : 200 ≤ fu) : PS fu xs I e t σ CS_7 :=
  gl_I (B := fun m => f8_open fu (xs (I + 1)) m) h (fun m hm => F_open (xs (I + 1)) hm hf) nz13
theorem ps_8 (h : INVF e t σ σ) (he : e + 1500 < 2 ^ 31) (ht : t + 100 < 2 ^ 31) (hf : 200 ≤ fu) : PS fu xs I e t σ CS_8 :=
  gl_Z (B := fun m => f8_close fu (xs (I + 1)) m) h (fun m hm => F_close (xs (I + 1)) hm (by omega) hf) nz13
theorem ps_9 (h : INVF e t σ σ) (he : e + 1500 < 2 ^ 31) (ht : t + 100 < 2 ^ 31) (hf : 200 ≤ fu) : PS fu xs I e t σ CS_9 :=
  gl_I (B := fun m => f8_call fu (xs (I + 1)) (xs (I + 2)) m) h (fun m hm => F_call (xs (I + 1)) (xs (I + 2)) hm he hf) nz123
theorem ps_10 (h : INVF e t σ σ) (he : e + 1500 < 2 ^ 31) (ht : t + 100 < 2 ^ 31) (hf : 200 ≤ fu) : PS fu xs I e t σ CS_10 :=
  gl_I (B := fun m => f8_set fu (xs (I + 1)) (xs (I + 2)) m) h (fun m hm => F_set (xs (I + 1)) (xs (I + 2)) hm he hf) nz123
theorem ps_11 (h : INVF e t σ σ) (he : e + 1500 < 2 ^ 31) (ht : t + 100 < 2 ^ 31) (hf : 200 ≤ fu) : PS fu xs I e t σ CS_11 :=
  gl_I (B := fun m => f8_get fu (xs (I + 1)) m) h (fun m hm => F_get (xs (I + 1)) hm he hf) nz13
theorem ps_12 (h : INVF e t σ σ) (he : e + 1500 < 2 ^ 31) (ht : t + 100 < 2 ^ 31) (hf : 200 ≤ fu) : PS fu xs I e t σ CS_12 :=
  gl_I (B := fun m => f8_map fu (xs (I + 1)) (xs (I + 2)) m) h (fun m hm => F_map (xs (I + 1)) (xs (I + 2)) hm (by omega) hf) nz123
theorem ps_13 (h : INVF e t σ σ) (he : e + 1500 < 2 ^ 31) (ht : t + 100 < 2 ^ 31) (hf : 200 ≤ fu) : PS fu xs I e t σ CS_13 :=
  gl_I (B := fun m => f8_unmap fu (xs (I + 1)) (xs (I + 2)) m) h (fun m hm => F_unmap (xs (I + 1)) (xs (I + 2)) hm (by omega) hf) nz13
theorem ps_14 (h : INVF e t σ σ) (he : e + 1500 < 2 ^ 31) (ht : t + 100 < 2 ^ 31) (hf : 200 ≤ fu) : PS fu xs I e t σ CS_14 :=
  gl_I (B := fun m => f8_access fu (xs (I + 1)) (xs (I + 2)) m) h (fun m hm => F_access (xs (I + 1)) (xs (I + 2)) hm hf) nz13
theorem ps_15 (h : INVF e t σ σ) (he : e + 1500 < 2 ^ 31) (ht : t + 100 < 2 ^ 31) (hf : 200 ≤ fu) : PS fu xs I e t σ CS_15 :=
  gl_I (B := fun m => f8_pass fu (xs (I + 1)) m) h (fun m hm => F_pass (xs (I + 1)) hm he ht hf) nz23
theorem ps_16 (h : INVF e t σ σ) (he : e + 1500 < 2 ^ 31) (ht : t + 100 < 2 ^ 31) (hf : 200 ≤ fu) : PS fu xs I e t σ CS_16 :=
  gl_I (B := fun m => f8_suspend fu  m) h (fun m hm => F_suspend  hm he hf) nz3
theorem ps_17 (h : INVF e t σ σ) (he : e + 1500 < 2 ^ 31) (ht : t + 100 < 2 ^ 31) (hf : 200 ≤ fu) : PS fu xs I e t σ CS_17 :=
  gl_I (B := fun m => f8_resume fu  m) h (fun m hm => F_resume  hm he hf) nz3
theorem ps_18 (h : INVF e t σ σ) (he : e + 1500 < 2 ^ 31) (ht : t + 100 < 2 ^ 31) (hf : 200 ≤ fu) : PS fu xs I e t σ CS_18 :=
  gl_I (B := fun m => f8_raise fu (xs (I + 1)) m) h (fun m hm => F_raise (xs (I + 1)) hm he hf) nz13
theorem ps_19 (h : INVF e t σ σ) (he : e + 1500 < 2 ^ 31) (ht : t + 100 < 2 ^ 31) (hf : 200 ≤ fu) : PS fu xs I e t σ CS_19 :=
  gl_I (B := fun m => f8_openLine fu (xs (I + 1)) m) h (fun m hm => F_openLine (xs (I + 1)) hm he hf) nz1
theorem ps_20 (h : INVF e t σ σ) (he : e + 1500 < 2 ^ 31) (ht : t + 100 < 2 ^ 31) (hf : 200 ≤ fu) : PS fu xs I e t σ CS_20 :=
  gq_Z (B := fun m => f8_isThere fu (xs (I + 1)) m) h (fun m hm => F_isThere (xs (I + 1)) hm) nz1
theorem ps_21 (h : INVF e t σ σ) (he : e + 1500 < 2 ^ 31) (ht : t + 100 < 2 ^ 31) (hf : 200 ≤ fu) : PS fu xs I e t σ CS_21 :=
  gq_I (B := fun m => f8_reason fu (xs (I + 1)) m) h (fun m hm => F_reason (xs (I + 1)) hm hf) nz1
theorem ps_22 (h : INVF e t σ σ) (he : e + 1500 < 2 ^ 31) (ht : t + 100 < 2 ^ 31) (hf : 200 ≤ fu) : PS fu xs I e t σ CS_22 :=
  gq_I (B := fun m => f8_driverOf fu (xs (I + 1)) m) h (fun m hm => F_driverOf (xs (I + 1)) hm hf) nz1
theorem ps_23 (h : INVF e t σ σ) (he : e + 1500 < 2 ^ 31) (ht : t + 100 < 2 ^ 31) (hf : 200 ≤ fu) : PS fu xs I e t σ CS_23 :=
  gq_I (B := fun m => f8_window fu (xs (I + 1)) m) h (fun m hm => F_window (xs (I + 1)) hm) nz1
theorem ps_24 (h : INVF e t σ σ) (he : e + 1500 < 2 ^ 31) (ht : t + 100 < 2 ^ 31) (hf : 200 ≤ fu) : PS fu xs I e t σ CS_24 :=
  gq_Z (B := fun m => f8_isOn fu (xs (I + 1)) m) h (fun m hm => F_isOn (xs (I + 1)) hm) nz1
theorem ps_25 (h : INVF e t σ σ) (he : e + 1500 < 2 ^ 31) (ht : t + 100 < 2 ^ 31) (hf : 200 ≤ fu) : PS fu xs I e t σ CS_25 :=
  gq_Z (B := fun m => f8_isPending fu (xs (I + 1)) m) h (fun m hm => F_isPending (xs (I + 1)) hm) nz1
theorem ps_26 (h : INVF e t σ σ) (he : e + 1500 < 2 ^ 31) (ht : t + 100 < 2 ^ 31) (hf : 200 ≤ fu) : PS fu xs I e t σ CS_26 :=
  gq_I (B := fun m => f8_strikes fu (xs (I + 1)) m) h (fun m hm => F_strikes (xs (I + 1)) hm) nz1
theorem ps_27 (h : INVF e t σ σ) (he : e + 1500 < 2 ^ 31) (ht : t + 100 < 2 ^ 31) (hf : 200 ≤ fu) : PS fu xs I e t σ CS_27 :=
  gq_I (B := fun m => f8_handles fu (xs (I + 1)) m) h (fun m hm => F_handles (xs (I + 1)) hm hf) nz1
theorem ps_28 (h : INVF e t σ σ) (he : e + 1500 < 2 ^ 31) (ht : t + 100 < 2 ^ 31) (hf : 200 ≤ fu) : PS fu xs I e t σ CS_28 :=
  gq_I (B := fun m => f8_callState fu (xs (I + 1)) m) h (fun m hm => F_callState (xs (I + 1)) hm) nz1
theorem ps_29 (h : INVF e t σ σ) (he : e + 1500 < 2 ^ 31) (ht : t + 100 < 2 ^ 31) (hf : 200 ≤ fu) : PS fu xs I e t σ CS_29 := by
  obtain ⟨r, h1, h2⟩ := F_faults (fu := fu) h
  exact ⟨σ, e, t, ⟨r, h1, h2, rfl⟩, h, by omega, by omega⟩
theorem ps_30 (h : INVF e t σ σ) (he : e + 1500 < 2 ^ 31) (ht : t + 100 < 2 ^ 31) (hf : 200 ≤ fu) : PS fu xs I e t σ CS_30 :=
  gq_I (B := fun m => f8_given fu (xs (I + 1)) m) h (fun m hm => F_given (xs (I + 1)) hm hf) nz2
theorem ps_31 (h : INVF e t σ σ) (he : e + 1500 < 2 ^ 31) (ht : t + 100 < 2 ^ 31) (hf : 200 ≤ fu) : PS fu xs I e t σ CS_31 := by
  obtain ⟨r, h1, h2⟩ := F_events (fu := fu) h
  exact ⟨σ, e, t, ⟨r, h1, h2, rfl⟩, h, by omega, by omega⟩
theorem ps_32 (h : INVF e t σ σ) (he : e + 1500 < 2 ^ 31) (ht : t + 100 < 2 ^ 31) (hf : 200 ≤ fu) : PS fu xs I e t σ CS_32 :=
  gq_I (B := fun m => f8_eventKind fu (xs (I + 1)) m) h (fun m hm => F_eventKind (xs (I + 1)) hm (by omega)) nz1
theorem ps_33 (h : INVF e t σ σ) (he : e + 1500 < 2 ^ 31) (ht : t + 100 < 2 ^ 31) (hf : 200 ≤ fu) : PS fu xs I e t σ CS_33 :=
  gq_I (B := fun m => f8_eventOf fu (xs (I + 1)) m) h (fun m hm => F_eventOf (xs (I + 1)) hm (by omega)) nz1
theorem ps_all (h : INVF e t σ σ) (he : e + 1500 < 2 ^ 31) (ht : t + 100 < 2 ^ 31) (hf : 200 ≤ fu) : ∀ C ∈ CSL, PS fu xs I e t σ C :=
  List.forall_mem_cons.mpr ⟨ps_0 h he ht hf, List.forall_mem_cons.mpr ⟨ps_1 h he ht hf, List.forall_mem_cons.mpr ⟨ps_2 h he ht hf, List.forall_mem_cons.mpr ⟨ps_3 h he ht hf, List.forall_mem_cons.mpr ⟨ps_4 h he ht hf, List.forall_mem_cons.mpr ⟨ps_5 h he ht hf, List.forall_mem_cons.mpr ⟨ps_6 h he ht hf, List.forall_mem_cons.mpr ⟨ps_7 h he ht hf, List.forall_mem_cons.mpr ⟨ps_8 h he ht hf, List.forall_mem_cons.mpr ⟨ps_9 h he ht hf, List.forall_mem_cons.mpr ⟨ps_10 h he ht hf, List.forall_mem_cons.mpr ⟨ps_11 h he ht hf, List.forall_mem_cons.mpr ⟨ps_12 h he ht hf, List.forall_mem_cons.mpr ⟨ps_13 h he ht hf, List.forall_mem_cons.mpr ⟨ps_14 h he ht hf, List.forall_mem_cons.mpr ⟨ps_15 h he ht hf, List.forall_mem_cons.mpr ⟨ps_16 h he ht hf, List.forall_mem_cons.mpr ⟨ps_17 h he ht hf, List.forall_mem_cons.mpr ⟨ps_18 h he ht hf, List.forall_mem_cons.mpr ⟨ps_19 h he ht hf, List.forall_mem_cons.mpr ⟨ps_20 h he ht hf, List.forall_mem_cons.mpr ⟨ps_21 h he ht hf, List.forall_mem_cons.mpr ⟨ps_22 h he ht hf, List.forall_mem_cons.mpr ⟨ps_23 h he ht hf, List.forall_mem_cons.mpr ⟨ps_24 h he ht hf, List.forall_mem_cons.mpr ⟨ps_25 h he ht hf, List.forall_mem_cons.mpr ⟨ps_26 h he ht hf, List.forall_mem_cons.mpr ⟨ps_27 h he ht hf, List.forall_mem_cons.mpr ⟨ps_28 h he ht hf, List.forall_mem_cons.mpr ⟨ps_29 h he ht hf, List.forall_mem_cons.mpr ⟨ps_30 h he ht hf, List.forall_mem_cons.mpr ⟨ps_31 h he ht hf, List.forall_mem_cons.mpr ⟨ps_32 h he ht hf, List.forall_mem_cons.mpr ⟨ps_33 h he ht hf, fun _ z => absurd z List.not_mem_nil⟩⟩⟩⟩⟩⟩⟩⟩⟩⟩⟩⟩⟩⟩⟩⟩⟩⟩⟩⟩⟩⟩⟩⟩⟩⟩⟩⟩⟩⟩⟩⟩⟩⟩
theorem lst_step (h : INVF e t σ σ) (he : e + 1500 < 2 ^ 31) (ht : t + 100 < 2 ^ 31) (hf : 200 ≤ fu) : ∃ σ' e' t', LSt fu xs I σ σ' ∧ INVF e' t' σ' σ' ∧ e' ≤ e + 1500 ∧ t' ≤ t + 50 := by
  unfold LSt
  rw [List.getD_eq_getElem?_getD]
  cases hc : CSL[opk (xs I)]? with
  | none => exact ⟨σ, e, t, rfl, h, by omega, by omega⟩
  | some C => exact ps_all h he ht hf C (List.mem_of_getElem? hc)
end GLUE
theorem run_all (fu : Nat) (xs : Nat → Int32) (hf : 200 ≤ fu) : ∀ n, n ≤ 512 → ∃ τ : Nat → St, τ 0 = σ0 ∧ (∀ j, j < n → LSt fu xs (8 * j) (τ j) (τ (j + 1))) ∧ ∃ e t, INVF e t (τ n) (τ n) ∧ e ≤ 1500 * n ∧ t ≤ 50 * n := by
  intro n
  induction n with
  | zero => exact fun _ => ⟨fun _ => σ0, rfl, fun j h => bnd0 h, 0, 0, start_inv, by omega, by omega⟩
  | succ n ih =>
    intro hn
    obtain ⟨τ, h0, h1, e, t, hI, he, ht⟩ := ih (by omega)
    obtain ⟨σ', e', t', hL, hI', he', ht'⟩ := lst_step (xs := xs) (I := 8 * n) hI (by omega) (by omega) hf
    refine ⟨fun k => if k ≤ n then τ k else σ', ?_, fun j hj => ?_, e', t', ?_, by omega, by omega⟩
    · show (if 0 ≤ n then τ 0 else σ') = σ0
      rw [if_pos (Nat.zero_le _), h0]
    · show LSt fu xs (8 * j) (if j ≤ n then τ j else σ') (if j + 1 ≤ n then τ (j + 1) else σ')
      rw [if_pos (by omega)]
      by_cases hjn : j < n
      · rw [if_pos (by omega)]
        exact h1 j hjn
      · have : j = n := by omega
        subst this
        rw [if_neg (by omega)]
        exact hL
    · show INVF e' t' (if n + 1 ≤ n then τ (n + 1) else σ') (if n + 1 ≤ n then τ (n + 1) else σ')
      rw [if_neg (by omega)]
      exact hI'
