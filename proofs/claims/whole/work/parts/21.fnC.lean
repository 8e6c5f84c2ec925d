def f7_known (fu : Nat) (a1 : Int32) (σ : St) : Option (Except Nat (Option Nat)) :=
  if a1 < 0 then (some (.error 1)) else (if a1 < (nI (gl σ 0).length) then (lg σ 0 a1 fun k3 => (some (.ok (some k3)))) else (some (.error 1)))

def f7_presentOrNone (fu : Nat) (a1 : Int32) (σ : St) : Option (Except Nat (Option Nat)) :=
  if a1 = (-1) then (some (.ok none)) else (xb1 (f7_known fu a1 σ) (fun e => some (.error e)) fun v2 => (dr (gn σ 2) v2 fun i7 => (if (gb σ 208 i7) = true then (some (.ok (some i7))) else (some (.error 1)))))

def f7_isWithin (fu : Nat) (a0 : Int32) (a1 : Int32) (a2 : Int32) (σ : St) : Option Bool :=
  if a0 < a1 then (some false) else (if a2 < a0 then (some false) else (some true))

def f7_isSize (fu : Nat) (a0 : Int32) (σ : St) : Option Bool :=
  if a0 = 0 then (some true) else (if a0 = 1 then (some true) else (if a0 = 2 then (some true) else (if a0 = 4 then (some true) else (if a0 = 8 then (some true) else (some false)))))

def f2_init (fu : Nat) (a0 : Nat) (a1 : Int32) (a2 : Int32) (a3 : Int32) (a4 : Int32) (a5 : Bool) (σ : St) : Option St :=
  ck (decide (a0 < gn σ 2)) (some (zb (zi (zi (zi (zi (zi (zb σ 208 a0 true) 211 a0 (-1)) 200 a0 a1) 201 a0 a2) 202 a0 a3) 203 a0 a4) 204 a0 a5))

def f2_isBound (fu : Nat) (a0 : Nat) (σ : St) : Option Bool :=
  ck (decide (a0 < gn σ 2)) (lt (gp σ 210 a0) fun p2 => (if p2 = none then (some false) else (some true)))

def f3_knows (fu : Nat) (a0 : Nat) (a1 : Int32) (σ : St) : Option Bool :=
  ck (decide (a0 < gn σ 3)) (if (((Int32.toUInt32 (gi σ 301 a0) >>> (Int32.toUInt32 a1 &&& Int32.toUInt32 31)).toInt32) &&& 1) = 1 then (some true) else (some false))

def f7_bestDriver_j56 (fu : Nat) (x1 : Int32) (x2 : (Option Nat)) (x3 : Int32) (σ : St) : Option (((Option Nat) × Int32) ⊕ (Option Nat)) :=
  some (.inl (x2, (x3 + 1)))

def f7_bestDriver_j53 (fu : Nat) (x1 : Int32) (x3 : Int32) (x4 : Nat) (σ : St) : Option (((Option Nat) × Int32) ⊕ (Option Nat)) :=
  f7_bestDriver_j56 fu x1 (some x4) x3 σ

def f7_bestDriver_b4 (fu : Nat) (x1 : Int32) (x2 : (Option Nat)) (x3 : Int32) (σ : St) : Option (((Option Nat) × Int32) ⊕ (Option Nat)) :=
  if (nI (gl σ 2).length) ≤ x3 then (oinr (some x2)) else (lg σ 2 x3 fun k2 => (ob1 (f3_knows fu k2 x1 σ) fun v6 => (if v6 = true then (if x2 = none then (f7_bestDriver_j53 fu x1 x3 k2 σ) else (dr (gn σ 3) x2 fun i11 => (if (gi σ 302 k2) ≤ (gi σ 302 i11) then (f7_bestDriver_j56 fu x1 (some i11) x3 σ) else (f7_bestDriver_j53 fu x1 x3 k2 σ)))) else (f7_bestDriver_j56 fu x1 x2 x3 σ))))

def f7_bestDriver (fu : Nat) (a1 : Int32) (σ : St) : Option (Option Nat) :=
  lp (fun s8 => f7_bestDriver_b4 fu a1 s8.1 s8.2 σ) fu (none, 0)

def f7_isLacking (fu : Nat) (a0 : (Option Nat)) (σ : St) : Option Bool :=
  if a0 = none then (some false) else (dr (gn σ 2) a0 fun i2 => (ob1 (f2_isBound fu i2 σ) fun v5 => (if v5 = true then (some false) else (some true))))

def f2_space_b5 (fu : Nat) (x1 : (Option Nat)) (σ : St) : Option ((Option Nat) ⊕ (Option Nat)) :=
  if x1 = none then (oinr (some none)) else (dr (gn σ 2) x1 fun i5 => (if (gi σ 211 i5) = (-1) then (lt (gp σ 205 i5) fun p9 => (some (.inl p9))) else (oinr (some (some i5)))))

def f2_space (fu : Nat) (a0 : Nat) (σ : St) : Option (Option Nat) :=
  ck (decide (a0 < gn σ 2)) (lt (gp σ 205 a0) fun p2 => (lp (fun s8 => f2_space_b5 fu s8 σ) fu p2))

def f7_isRoomAt_j86 (fu : Nat) (x1 : Int32) (x2 : Int32) (x3 : (Option Nat)) (x4 : Int32) (σ : St) : Option (Int32 ⊕ Bool) :=
  some (.inl (x4 + 1))

def f7_isRoomAt_j60 (fu : Nat) (x1 : Int32) (x2 : Int32) (x3 : (Option Nat)) (x4 : Int32) (x5 : Nat) (y0 : Bool) (σ : St) : Option (Int32 ⊕ Bool) :=
  ck (decide (x5 < gn σ 2)) (if (gi σ 202 x5) ≤ 0 then (f7_isRoomAt_j86 fu x1 x2 x3 x4 σ) else (if y0 = true then (ob1 (f2_space fu x5 σ) fun v10 => (ck (okr (gn σ 2) v10) (ck (okr (gn σ 2) x3) (if v10 = x3 then (oinr (some false)) else (f7_isRoomAt_j86 fu x1 x2 x3 x4 σ))))) else (f7_isRoomAt_j86 fu x1 x2 x3 x4 σ)))

def f7_isRoomAt_b3 (fu : Nat) (x1 : Int32) (x2 : Int32) (x3 : (Option Nat)) (x4 : Int32) (σ : St) : Option (Int32 ⊕ Bool) :=
  if (nI (gl σ 1).length) ≤ x4 then (oinr (some true)) else (lg σ 1 x4 fun k2 => (if (x1 + x2) ≤ (gi σ 211 k2) then (f7_isRoomAt_j60 fu x1 x2 x3 x4 k2 false σ) else (if ((gi σ 211 k2) + (gi σ 202 k2)) ≤ x1 then (f7_isRoomAt_j60 fu x1 x2 x3 x4 k2 false σ) else (f7_isRoomAt_j60 fu x1 x2 x3 x4 k2 true σ))))

def f7_isRoomAt (fu : Nat) (a1 : Int32) (a2 : Int32) (a3 : (Option Nat)) (σ : St) : Option Bool :=
  lp (fun s8 => f7_isRoomAt_b3 fu a1 a2 a3 s8 σ) fu 0

def f7_freePlace_j82 (fu : Nat) (x1 : (Option Nat)) (x2 : (Option Nat)) (x4 : Int32) (x5 : Int32) (σ : St) : Option (Int32 ⊕ Int32) :=
  some (.inl (x5 + 1))

def f7_freePlace_b41 (fu : Nat) (x1 : (Option Nat)) (x2 : (Option Nat)) (x4 : Int32) (x5 : Int32) (σ : St) : Option (Int32 ⊕ Int32) :=
  dr (gn σ 2) x1 fun i15 => (if x4 < (x5 + (gi σ 202 i15)) then (oinr (some (-1))) else (if (x5 &&& ((gi σ 202 i15) - 1)) = 0 then (ob1 (f7_isRoomAt fu x5 (gi σ 202 i15) x2 σ) fun v20 => (if v20 = true then (oinr (some x5)) else (f7_freePlace_j82 fu (some i15) x2 x4 x5 σ))) else (f7_freePlace_j82 fu (some i15) x2 x4 x5 σ)))

def f7_freePlace_j36 (fu : Nat) (x1 : (Option Nat)) (x2 : (Option Nat)) (x3 : Int32) (y0 : Int32) (σ : St) : Option Int32 :=
  lp (fun s8 => f7_freePlace_b41 fu x1 x2 y0 s8 σ) fu x3

def f7_freePlace_j17 (fu : Nat) (x1 : (Option Nat)) (x2 : (Option Nat)) (y0 : Int32) (σ : St) : Option Int32 :=
  if x2 = none then (f7_freePlace_j36 fu x1 x2 y0 64 σ) else (dr (gn σ 2) x2 fun i12 => (f7_freePlace_j36 fu x1 (some i12) y0 ((gi σ 211 i12) + (gi σ 202 i12)) σ))

def f7_freePlace (fu : Nat) (a1 : (Option Nat)) (σ : St) : Option Int32 :=
  dr (gn σ 2) a1 fun i1 => (ob1 (f2_space fu i1 σ) fun v4 => (if v4 = none then (f7_freePlace_j17 fu (some i1) v4 0 σ) else (dr (gn σ 2) v4 fun i8 => (f7_freePlace_j17 fu (some i1) (some i8) (gi σ 211 i8) σ))))

def f7_isLineFree_j52 (fu : Nat) (x1 : (Option Nat)) (x2 : Int32) (σ : St) : Option (Int32 ⊕ Bool) :=
  some (.inl (x2 + 1))

def f7_isLineFree_b2 (fu : Nat) (x1 : (Option Nat)) (x2 : Int32) (σ : St) : Option (Int32 ⊕ Bool) :=
  if (nI (gl σ 1).length) ≤ x2 then (oinr (some true)) else (lg σ 1 x2 fun k2 => (dr (gn σ 2) x1 fun i6 => (if (gi σ 203 k2) = (gi σ 203 i6) then (if (gb σ 204 k2) = true then (if (gb σ 204 i6) = true then (f7_isLineFree_j52 fu (some i6) x2 σ) else (oinr (some false))) else (oinr (some false))) else (f7_isLineFree_j52 fu (some i6) x2 σ))))

def f7_isLineFree (fu : Nat) (a1 : (Option Nat)) (σ : St) : Option Bool :=
  lp (fun s8 => f7_isLineFree_b2 fu a1 s8 σ) fu 0

def f7_refusalOf_j99 (fu : Nat) (x1 : (Option Nat)) (σ : St) : Option Int32 :=
  dr (gn σ 2) x1 fun i35 => (if (gb σ 209 i35) = true then (some 7) else (some 0))

def f7_refusalOf_j80 (fu : Nat) (x1 : (Option Nat)) (σ : St) : Option Int32 :=
  dr (gn σ 2) x1 fun i31 => (if (gi σ 203 i31) = (-1) then (f7_refusalOf_j99 fu (some i31) σ) else (ob1 (f7_isLineFree fu (some i31) σ) fun v39 => (if v39 = true then (f7_refusalOf_j99 fu (some i31) σ) else (some 6))))

def f7_refusalOf (fu : Nat) (a1 : (Option Nat)) (σ : St) : Option Int32 :=
  dr (gn σ 2) a1 fun i1 => (ob1 (f7_bestDriver fu (gi σ 201 i1) σ) fun v4 => (if v4 = none then (some 1) else (lt (gp σ 205 i1) fun p8 => (ob1 (f7_isLacking fu p8 σ) fun v10 => (if v10 = true then (some 2) else (lt (gp σ 206 i1) fun p14 => (ob1 (f7_isLacking fu p14 σ) fun v16 => (if v16 = true then (some 3) else (lt (gp σ 207 i1) fun p20 => (ob1 (f7_isLacking fu p20 σ) fun v22 => (if v22 = true then (some 3) else (dr (gn σ 3) v4 fun i26 => (if (gi σ 303 i26) ≤ (gi σ 305 i26) then (if (gi σ 202 i1) ≤ 0 then (f7_refusalOf_j80 fu (some i1) σ) else (ob1 (f7_freePlace fu (some i1) σ) fun v43 => (if v43 = (-1) then (some 5) else (f7_refusalOf_j80 fu (some i1) σ)))) else (some 4))))))))))))))

def f7_lowestNotRefused_j49 (fu : Nat) (x1 : Int32) (σ : St) : Option (Int32 ⊕ (Option Nat)) :=
  some (.inl (x1 + 1))

def f7_lowestNotRefused_b2 (fu : Nat) (x1 : Int32) (σ : St) : Option (Int32 ⊕ (Option Nat)) :=
  if (nI (gl σ 0).length) ≤ x1 then (oinr (some none)) else (lg σ 0 x1 fun k2 => (if (gb σ 208 k2) = true then (ob1 (f2_isBound fu k2 σ) fun v7 => (if v7 = true then (f7_lowestNotRefused_j49 fu x1 σ) else (ob1 (f7_refusalOf fu (some k2) σ) fun v11 => (if v11 = 0 then (oinr (some (some k2))) else (f7_lowestNotRefused_j49 fu x1 σ))))) else (f7_lowestNotRefused_j49 fu x1 σ)))

def f7_lowestNotRefused (fu : Nat) (σ : St) : Option (Option Nat) :=
  lp (fun s8 => f7_lowestNotRefused_b2 fu s8 σ) fu 0

def f2_isSaved (fu : Nat) (a0 : Nat) (σ : St) : Option Bool :=
  ck (decide (a0 < gn σ 2)) (lt (gp σ 210 a0) fun p2 => (if p2 = none then (some false) else (lt (gp σ 210 a0) fun p5 => (dr (gn σ 3) p5 fun i7 => (if (gb σ 304 i7) = true then (some true) else (some false))))))

def f90_floorMod_j18 (fu : Nat) (x2 : Int32) (σ : St) : Option Int32 :=
  some x2

def f90_floorMod (fu : Nat) (a0 : Int32) (a1 : Int32) (σ : St) : Option Int32 :=
  ck (decide (¬ a1 = 0)) (if 0 ≤ (a0 ^^^ a1) then (f90_floorMod_j18 fu (a0 - a0 / a1 * a1) σ) else (if (a0 - a0 / a1 * a1) = 0 then (f90_floorMod_j18 fu (a0 - a0 / a1 * a1) σ) else (some ((a0 - a0 / a1 * a1) + a1))))

def f4_note (fu : Nat) (a1 : Int32) (a2 : Int32) (σ : St) : Option St :=
  ob1 (f90_floorMod fu (gi σ 402 0) 20 σ) fun v1 => (ar 20 v1 fun j4 => (ar 20 v1 fun j6 => (some (zi (zi (zi σ 400 j4 a1) 401 j6 a2) 402 0 ((gi (zi (zi σ 400 j4 a1) 401 j6 a2) 402 0) + 1)))))

def f7_wakeNeedsB (fu : Nat) (wk : (Option Nat) → Int32 → St → Option St) (a1 : (Option Nat)) (a2 : Int32) (σ : St) : Option St :=
  dr (gn σ 2) a1 fun i1 => (lt (gp σ 205 i1) fun p4 => (ob1 (wk p4 a2 σ) fun σ7 => (ck (decide (i1 < gn σ7 2)) (lt (gp σ7 206 i1) fun p10 => (ob1 (wk p10 a2 σ7) fun σ13 => (ck (decide (i1 < gn σ13 2)) (lt (gp σ13 207 i1) fun p16 => (ob1 (wk p16 a2 σ13) fun σ19 => (some σ19)))))))))

def f7_wake_j51 (fu : Nat) (x1 : (Option Nat)) (σ : St) : Option St :=
  dr (gn σ 2) x1 fun i15 => (ob1 (f4_note fu 4 (gi σ 200 i15) σ) fun σ19 => (some σ19))

def f7_wakeB (fu : Nat) (wn : (Option Nat) → Int32 → St → Option St) (a1 : (Option Nat)) (a2 : Int32) (σ : St) : Option St :=
  if a1 = none then (some σ) else (dr (gn σ 2) a1 fun i2 => (if (gb σ 212 i2) = true then (some σ) else (if a2 ≤ 24 then (ob1 (wn (some i2) (a2 + 1) σ) fun σ8 => (ck (decide (i2 < gn σ8 2)) (ob1 (f2_isSaved fu i2 (zi (zb σ8 212 i2 true) 214 i2 (gi (zb σ8 212 i2 true) 708 0))) fun v11 => (if v11 = true then (f7_wake_j51 fu (some i2) (zi (zb σ8 212 i2 true) 214 i2 (gi (zb σ8 212 i2 true) 708 0))) else (f7_wake_j51 fu (some i2) (zi (zi (zb σ8 212 i2 true) 214 i2 (gi (zb σ8 212 i2 true) 708 0)) 213 i2 0)))))) else (some σ))))

def f7_wakeR (fu : Nat) : Nat → (Option Nat) → Int32 → St → Option St
  | 0 => fun _ _ _ => none
  | d + 1 => f7_wakeB fu (f7_wakeNeedsB fu (f7_wakeR fu d))
def f7_wake (fu : Nat) (a1 : (Option Nat)) (a2 : Int32) (σ : St) : Option St := f7_wakeR fu 30 a1 a2 σ
def f7_wakeNeeds (fu : Nat) (a1 : (Option Nat)) (a2 : Int32) (σ : St) : Option St := f7_wakeNeedsB fu (f7_wakeR fu 30) a1 a2 σ

def f7_attach_j23 (fu : Nat) (x1 : (Option Nat)) (y0 : (Option Nat)) (y1 : Int32) (σ : St) : Option St :=
  dr (gn σ 2) y0 fun i8 => (dr (gn σ 2) x1 fun i11 => (ob1 (f7_bestDriver fu (gi (zi σ 211 i8 y1) 201 i11) (zi σ 211 i8 y1)) fun v14 => (ck (decide ((gl (zi (zb (zi (zb (zp (zi σ 211 i8 y1) 210 i11 v14) 212 i11 true) 213 i11 0) 215 i11 false) 214 i11 (gi (zb (zi (zb (zp (zi σ 211 i8 y1) 210 i11 v14) 212 i11 true) 213 i11 0) 215 i11 false) 708 0)) 1).length < 150)) (ck (okl (zi (zb (zi (zb (zp (zi σ 211 i8 y1) 210 i11 v14) 212 i11 true) 213 i11 0) 215 i11 false) 214 i11 (gi (zb (zi (zb (zp (zi σ 211 i8 y1) 210 i11 v14) 212 i11 true) 213 i11 0) 215 i11 false) 708 0)) 1) (ob1 (f4_note fu 0 (gi (ladd (zi (zb (zi (zb (zp (zi σ 211 i8 y1) 210 i11 v14) 212 i11 true) 213 i11 0) 215 i11 false) 214 i11 (gi (zb (zi (zb (zp (zi σ 211 i8 y1) 210 i11 v14) 212 i11 true) 213 i11 0) 215 i11 false) 708 0)) 1 i11) 200 i11) (ladd (zi (zb (zi (zb (zp (zi σ 211 i8 y1) 210 i11 v14) 212 i11 true) 213 i11 0) 215 i11 false) 214 i11 (gi (zb (zi (zb (zp (zi σ 211 i8 y1) 210 i11 v14) 212 i11 true) 213 i11 0) 215 i11 false) 708 0)) 1 i11)) fun σ20 => (some σ20))))))

def f7_attach (fu : Nat) (a1 : (Option Nat)) (σ : St) : Option St :=
  ob1 (f7_wakeNeeds fu a1 1 σ) fun σ2 => (dr (gn σ2 2) a1 fun i4 => (if (gi σ2 202 i4) ≤ 0 then (f7_attach_j23 fu (some i4) (some i4) (-1) σ2) else (ob1 (f7_freePlace fu (some i4) σ2) fun v22 => (f7_attach_j23 fu (some i4) (some i4) v22 σ2))))

def f7_bindWhatCanBe_b2 (fu : Nat) (x1 : Int32) (σ : St) : Option ((Int32 × St) ⊕ St) :=
  if 24 ≤ x1 then (oinr (some σ)) else (if (gb σ 709 0) = true then (oinr (some σ)) else (ob1 (f7_lowestNotRefused fu σ) fun v3 => (if v3 = none then (oinr (some σ)) else (ob1 (f7_attach fu v3 σ) fun σ8 => (some (.inl ((x1 + 1), σ8)))))))

def f7_bindWhatCanBe (fu : Nat) (σ : St) : Option St :=
  lp (fun s8 => f7_bindWhatCanBe_b2 fu s8.1 s8.2) 26 (0, σ)

noncomputable def f7_plug_j83 (fu : Nat) (x2 : Int32) (x3 : Int32) (x4 : Int32) (x5 : Bool) (x8 : (Option Nat)) (x9 : (Option Nat)) (x10 : (Option Nat)) (σ : St) : Option ((Except Nat Int32) × St) :=
  if (nI (gl σ 0).length) < 24 then (ck (okr (gn σ 2) x8) (ck (okr (gn σ 2) x9) (ck (okr (gn σ 2) x10) (ckP (inR σ) (lt (gn σ 2) fun n34 => (ck (decide (n34 < gn (zw σ 2) 2)) (ob1 (f2_init fu n34 (nI (gl (zw σ 2) 0).length) x2 x3 x4 x5 (zw σ 2)) fun σ39 => (ck (decide (n34 < gn σ39 2)) (ck (decide ((gl (zp (zp (zp σ39 205 n34 x8) 206 n34 x9) 207 n34 x10) 0).length < 150)) (ck (okl (zp (zp (zp σ39 205 n34 x8) 206 n34 x9) 207 n34 x10) 0) (ob1 (f7_bindWhatCanBe fu (ladd (zp (zp (zp σ39 205 n34 x8) 206 n34 x9) 207 n34 x10) 0 n34)) fun σ45 => (ck (decide (n34 < gn σ45 2)) (some (.ok (gi σ45 200 n34), σ45)))))))))))))) else (some (.error 3, σ))

noncomputable def f7_plug (fu : Nat) (a1 : Int32) (a2 : Int32) (a3 : Int32) (a4 : Int32) (a5 : Bool) (a6 : Int32) (a7 : Int32) (σ : St) : Option ((Except Nat Int32) × St) :=
  xb1 (f7_presentOrNone fu a1 σ) (fun e => some (.error e, σ)) fun v1 => (xb1 (f7_presentOrNone fu a6 σ) (fun e => some (.error e, σ)) fun v6 => (xb1 (f7_presentOrNone fu a7 σ) (fun e => some (.error e, σ)) fun v11 => (ob1 (f7_isWithin fu a2 0 31 σ) fun v16 => (if v16 = true then (ob1 (f7_isSize fu a3 σ) fun v20 => (if v20 = true then (ob1 (f7_isWithin fu a4 (-1) 7 σ) fun v24 => (if v24 = true then (if v6 = none then (f7_plug_j83 fu a2 a3 a4 a5 v1 v6 v11 σ) else (ck (okr (gn σ 2) v6) (ck (okr (gn σ 2) v11) (if v6 = v11 then (some (.error 2, σ)) else (f7_plug_j83 fu a2 a3 a4 a5 v1 v6 v11 σ))))) else (some (.error 2, σ)))) else (some (.error 2, σ)))) else (some (.error 2, σ))))))

def f2_isAtOrBelow_b2 (fu : Nat) (x1 : (Option Nat)) (x2 : (Option Nat)) (σ : St) : Option ((Option Nat) ⊕ Bool) :=
  if x2 = none then (oinr (some false)) else (ck (okr (gn σ 2) x2) (ck (okr (gn σ 2) x1) (if x2 = x1 then (oinr (some true)) else (dr (gn σ 2) x2 fun i5 => (lt (gp σ 205 i5) fun p8 => (some (.inl p8)))))))

def f2_isAtOrBelow (fu : Nat) (a0 : Nat) (a1 : (Option Nat)) (σ : St) : Option Bool :=
  lp (fun s8 => f2_isAtOrBelow_b2 fu a1 s8 σ) fu (some a0)

def f2_hasLeavingNeed_j34 (fu : Nat) (x0 : Nat) (σ : St) : Option Bool :=
  ck (decide (x0 < gn σ 2)) (lt (gp σ 207 x0) fun p10 => (if p10 = none then (some false) else (lt (gp σ 207 x0) fun p13 => (dr (gn σ 2) p13 fun i15 => (if (gb σ 217 i15) = true then (some true) else (some false))))))

def f2_hasLeavingNeed_j17 (fu : Nat) (x0 : Nat) (σ : St) : Option Bool :=
  ck (decide (x0 < gn σ 2)) (lt (gp σ 206 x0) fun p6 => (if p6 = none then (f2_hasLeavingNeed_j34 fu x0 σ) else (lt (gp σ 206 x0) fun p19 => (dr (gn σ 2) p19 fun i21 => (if (gb σ 217 i21) = true then (some true) else (f2_hasLeavingNeed_j34 fu x0 σ))))))

def f2_hasLeavingNeed (fu : Nat) (a0 : Nat) (σ : St) : Option Bool :=
  ck (decide (a0 < gn σ 2)) (lt (gp σ 205 a0) fun p2 => (if p2 = none then (f2_hasLeavingNeed_j17 fu a0 σ) else (lt (gp σ 205 a0) fun p25 => (dr (gn σ 2) p25 fun i27 => (if (gb σ 217 i27) = true then (some true) else (f2_hasLeavingNeed_j17 fu a0 σ))))))

def f1_abortIfGoing (fu : Nat) (a0 : Nat) (σ : St) : Option (Bool × St) :=
  ck (decide (a0 < gn σ 1)) (if (gi σ 102 a0) = 0 then (some (true, (zi σ 102 a0 2))) else (some (false, σ)))

def f7_abortCallsOf_j51 (fu : Nat) (x1 : (Option Nat)) (x2 : Int32) (x3 : Int32) (σ : St) : Option ((Int32 × Int32 × St) ⊕ (Int32 × St)) :=
  some (.inl (x2, (x3 + 1), σ))

def f7_abortCallsOf_b4 (fu : Nat) (x1 : (Option Nat)) (x2 : Int32) (x3 : Int32) (σ : St) : Option ((Int32 × Int32 × St) ⊕ (Int32 × St)) :=
  if (nI (gl σ 4).length) ≤ x3 then (oinr (some (x2, σ))) else (lg σ 4 x3 fun k2 => (lt (gp σ 100 k2) fun p6 => (dr (gn σ 5) p6 fun i8 => (lt (gp σ 500 i8) fun p11 => (ck (okr (gn σ 2) p11) (ck (okr (gn σ 2) x1) (if p11 = x1 then (ob2 (f1_abortIfGoing fu k2 σ) fun v16 σ17 => (if v16 = true then (f7_abortCallsOf_j51 fu x1 (x2 + 1) x3 σ17) else (f7_abortCallsOf_j51 fu x1 x2 x3 σ17))) else (f7_abortCallsOf_j51 fu x1 x2 x3 σ))))))))

def f7_abortCallsOf (fu : Nat) (a1 : (Option Nat)) (σ : St) : Option (Int32 × St) :=
  lp (fun s8 => f7_abortCallsOf_b4 fu a1 s8.1 s8.2.1 s8.2.2) fu (0, 0, σ)

def f7_letMapsGo_j38 (fu : Nat) (x1 : (Option Nat)) (x2 : Int32) (σ : St) : Option ((Int32 × St) ⊕ St) :=
  some (.inl ((x2 + 1), σ))

def f7_letMapsGo_b2 (fu : Nat) (x1 : (Option Nat)) (x2 : Int32) (σ : St) : Option ((Int32 × St) ⊕ St) :=
  if (nI (gl σ 5).length) ≤ x2 then (oinr (some σ)) else (lg σ 5 x2 fun k2 => (lt (gp σ 600 k2) fun p6 => (ck (okr (gn σ 2) p6) (ck (okr (gn σ 2) x1) (if p6 = x1 then (f7_letMapsGo_j38 fu x1 x2 (zp σ 600 k2 none)) else (f7_letMapsGo_j38 fu x1 x2 σ))))))

def f7_letMapsGo (fu : Nat) (a1 : (Option Nat)) (σ : St) : Option St :=
  lp (fun s8 => f7_letMapsGo_b2 fu a1 s8.1 s8.2) fu (0, σ)

def f7_detach_j49 (fu : Nat) (x1 : (Option Nat)) (x2 : Int32) (σ : St) : Option ((Int32 × St) ⊕ St) :=
  some (.inl ((x2 + 1), σ))

def f7_detach_b13 (fu : Nat) (x1 : (Option Nat)) (x2 : Int32) (σ : St) : Option ((Int32 × St) ⊕ St) :=
  if (nI (gl σ 3).length) ≤ x2 then (oinr (dr (gn σ 2) x1 fun i8 => (ob1 (f4_note fu 1 (gi (zb (zb (zb (zb (zi (zp σ 210 i8 none) 211 i8 (-1)) 212 i8 false) 215 i8 false) 216 i8 false) 217 i8 false) 200 i8) (zb (zb (zb (zb (zi (zp σ 210 i8 none) 211 i8 (-1)) 212 i8 false) 215 i8 false) 216 i8 false) 217 i8 false)) fun σ12 => (some σ12)))) else (lg σ 3 x2 fun k14 => (lt (gp σ 500 k14) fun p18 => (ck (okr (gn σ 2) p18) (ck (okr (gn σ 2) x1) (if p18 = x1 then (f7_detach_j49 fu x1 x2 (zb σ 502 k14 true)) else (f7_detach_j49 fu x1 x2 σ))))))

def f7_detach (fu : Nat) (a1 : (Option Nat)) (σ : St) : Option St :=
  ob2 (f7_abortCallsOf fu a1 σ) fun v1 σ2 => (ob1 (f7_letMapsGo fu a1 σ2) fun σ5 => (lp (fun s8 => f7_detach_b13 fu a1 s8.1 s8.2) fu (0, σ5)))

def f7_unbindTheLeaving_j106 (fu : Nat) (x1 : Int32) (x2 : Int32) (σ : St) : Option ((Int32 × Int32 × St) ⊕ (Int32 × St)) :=
  some (.inl (x1, (x2 + (-1)), σ))

def f7_unbindTheLeaving_b66 (fu : Nat) (x1 : Int32) (x2 : Int32) (σ : St) : Option ((Int32 × Int32 × St) ⊕ (Int32 × St)) :=
  if x2 < 0 then (oinr (some (x1, σ))) else (lg σ 1 x2 fun k3 => (if (gb σ 217 k3) = true then (ck (okl σ 1) (lg σ 1 x2 fun k8 => (ob1 (f7_detach fu (some k3) (lrem σ 1 (x2).toNatClampNeg)) fun σ14 => (f7_unbindTheLeaving_j106 fu (x1 + 1) x2 σ14)))) else (f7_unbindTheLeaving_j106 fu x1 x2 σ)))

def f7_unbindTheLeaving_j45 (fu : Nat) (x1 : Int32) (y0 : Nat) (y1 : Bool) (σ : St) : Option ((Int32 × St) ⊕ (Int32 × St)) :=
  ck (decide (y0 < gn σ 2)) (some (.inl ((x1 + 1), (zb σ 217 y0 y1))))

def f7_unbindTheLeaving_b2 (fu : Nat) (x1 : Int32) (σ : St) : Option ((Int32 × St) ⊕ (Int32 × St)) :=
  if (nI (gl σ 1).length) ≤ x1 then (oinr (lp (fun s8 => f7_unbindTheLeaving_b66 fu s8.1 s8.2.1 s8.2.2) fu (0, ((nI (gl σ 1).length) - 1), σ))) else (lg σ 1 x1 fun k16 => (if (gb σ 217 k16) = true then (f7_unbindTheLeaving_j45 fu x1 k16 true σ) else (ob1 (f2_hasLeavingNeed fu k16 σ) fun v22 => (if v22 = true then (f7_unbindTheLeaving_j45 fu x1 k16 true σ) else (f7_unbindTheLeaving_j45 fu x1 k16 false σ)))))

def f7_unbindTheLeaving (fu : Nat) (σ : St) : Option (Int32 × St) :=
  lp (fun s8 => f7_unbindTheLeaving_b2 fu s8.1 s8.2) fu (0, σ)

def f7_takeAway_j74 (fu : Nat) (x1 : (Option Nat)) (x2 : Int32) (x3 : Int32) (σ : St) : Option ((Int32 × Int32 × St) ⊕ (Int32 × St)) :=
  some (.inl (x2, (x3 + (-1)), σ))

def f7_takeAway_b12 (fu : Nat) (x1 : (Option Nat)) (x2 : Int32) (x3 : Int32) (σ : St) : Option ((Int32 × Int32 × St) ⊕ (Int32 × St)) :=
  if x3 < 0 then (oinr (some (x2, σ))) else (lg σ 0 x3 fun k2 => (if (gb σ 208 k2) = true then (ob1 (f2_isAtOrBelow fu k2 x1 σ) fun v7 => (if v7 = true then (ob1 (f4_note fu 2 (gi (zb (zb σ 208 k2 false) 215 k2 false) 200 k2) (zb (zb σ 208 k2 false) 215 k2 false)) fun σ12 => (f7_takeAway_j74 fu x1 (x2 + 1) x3 σ12)) else (f7_takeAway_j74 fu x1 x2 x3 σ))) else (f7_takeAway_j74 fu x1 x2 x3 σ)))

def f7_takeAway (fu : Nat) (a1 : (Option Nat)) (σ : St) : Option (Int32 × St) :=
  lp (fun s8 => f7_takeAway_b12 fu a1 s8.1 s8.2.1 s8.2.2) fu (0, ((nI (gl σ 0).length) - 1), σ)

def f7_unplug_b25 (fu : Nat) (x2 : (Option Nat)) (x3 : Int32) (σ : St) : Option ((Int32 × St) ⊕ ((Except Nat Int32) × St)) :=
  if (nI (gl σ 1).length) ≤ x3 then (oinr (ob2 (f7_unbindTheLeaving fu σ) fun v11 σ12 => (ob2 (f7_takeAway fu x2 σ12) fun v14 σ15 => (ob1 (f7_bindWhatCanBe fu σ15) fun σ18 => (some ((.ok v14), σ18)))))) else (lg σ 1 x3 fun k20 => (ob1 (f2_isAtOrBelow fu k20 x2 σ) fun v24 => (some (.inl ((x3 + 1), (zb σ 217 k20 v24))))))

def f7_unplug (fu : Nat) (a1 : Int32) (σ : St) : Option ((Except Nat Int32) × St) :=
  xb1 (f7_known fu a1 σ) (fun e => some (.error e, σ)) fun v1 => (dr (gn σ 2) v1 fun i6 => (if (gb σ 208 i6) = true then (lp (fun s8 => f7_unplug_b25 fu (some i6) s8.1 s8.2) fu (0, σ)) else (some (.error 3, σ))))

def f3_init (fu : Nat) (a0 : Nat) (a1 : Int32) (a2 : Int32) (a3 : Int32) (a4 : Int32) (a5 : Bool) (σ : St) : Option St :=
  ck (decide (a0 < gn σ 3)) (some (zb (zi (zi (zi (zi σ 300 a0 a1) 301 a0 a2) 302 a0 a3) 303 a0 a4) 304 a0 a5))

noncomputable def f7_driver (fu : Nat) (a1 : Int32) (a2 : Int32) (a3 : Int32) (a4 : Bool) (σ : St) : Option ((Except Nat Int32) × St) :=
  ob1 (f7_isWithin fu a2 0 9 σ) fun v1 => (if v1 = true then (ob1 (f7_isWithin fu a3 0 9 σ) fun v5 => (if v5 = true then (if (nI (gl σ 2).length) < 8 then (ckP (inR σ) (lt (gn σ 3) fun n11 => (ck (decide (n11 < gn (zw σ 3) 3)) (ob1 (f3_init fu n11 (nI (gl (zw σ 3) 2).length) a1 a2 a3 a4 (zw σ 3)) fun σ16 => (ck (decide (n11 < gn σ16 3)) (ck (decide ((gl σ16 2).length < 150)) (ck (okl σ16 2) (ob1 (f7_bindWhatCanBe fu (ladd σ16 2 n11)) fun σ22 => (ck (decide (n11 < gn σ22 3)) (some (.ok (gi σ22 300 n11), σ22))))))))))) else (some (.error 3, σ))) else (some (.error 2, σ)))) else (some (.error 2, σ)))

def f7_load (fu : Nat) (a1 : Int32) (a2 : Int32) (σ : St) : Option ((Except Nat Int32) × St) :=
  if a1 < 0 then (some (.error 1, σ)) else (if a1 < (nI (gl σ 2).length) then (ob1 (f7_isWithin fu a2 0 9 σ) fun v3 => (if v3 = true then (lg σ 2 a1 fun k7 => (ob1 (f7_bindWhatCanBe fu (zi σ 305 k7 a2)) fun σ12 => (some ((.ok (gi σ 305 k7)), σ12)))) else (some (.error 2, σ)))) else (some (.error 1, σ)))

def f7_unbind (fu : Nat) (a1 : Int32) (σ : St) : Option ((Except Nat Int32) × St) :=
  xb1 (f7_known fu a1 σ) (fun e => some (.error e, σ)) fun v1 => (dr (gn σ 2) v1 fun i6 => (ob1 (f2_isBound fu i6 σ) fun v9 => (if v9 = true then (ob2 (f7_unbindTheLeaving fu (zb (zb σ 209 i6 true) 217 i6 true)) fun v13 σ14 => (ob1 (f7_bindWhatCanBe fu σ14) fun σ17 => (some ((.ok v13), σ17)))) else (some (.error 3, σ)))))

def f7_bind (fu : Nat) (a1 : Int32) (σ : St) : Option ((Except Nat Int32) × St) :=
  xb1 (f7_known fu a1 σ) (fun e => some (.error e, σ)) fun v1 => (dr (gn σ 2) v1 fun i6 => (if (gb σ 208 i6) = true then (if (gb σ 209 i6) = true then (ob1 (f7_bindWhatCanBe fu (zb σ 209 i6 false)) fun σ12 => (ck (decide (i6 < gn σ12 2)) (ob1 (f2_isBound fu i6 σ12) fun v15 => (if v15 = true then (some ((.ok 0), σ12)) else (ob1 (f7_refusalOf fu (some i6) σ12) fun v19 => (some ((.ok v19), σ12))))))) else (some (.error 3, σ))) else (some (.error 3, σ))))

def f7_reset (fu : Nat) (a1 : Int32) (σ : St) : Option ((Except Nat Int32) × St) :=
  xb1 (f7_known fu a1 σ) (fun e => some (.error e, σ)) fun v1 => (dr (gn σ 2) v1 fun i6 => (ob1 (f2_isBound fu i6 σ) fun v9 => (if v9 = true then (if (gb σ 709 0) = true then (some (.error 3, σ)) else (ob2 (f7_abortCallsOf fu (some i6) σ) fun v14 σ15 => (ob1 (f7_letMapsGo fu (some i6) σ15) fun σ18 => (ck (decide (i6 < gn σ18 2)) (some ((.ok v14), (zb (zi σ18 213 i6 0) 215 i6 false))))))) else (some (.error 3, σ)))))

def f5_init (fu : Nat) (a0 : Nat) (a1 : (Option Nat)) (σ : St) : Option St :=
  ck (decide (a0 < gn σ 5)) (some (zp (zb σ 501 a0 true) 500 a0 a1))

noncomputable def f7_open (fu : Nat) (a1 : Int32) (σ : St) : Option ((Except Nat Int32) × St) :=
  xb1 (f7_known fu a1 σ) (fun e => some (.error e, σ)) fun v1 => (dr (gn σ 2) v1 fun i6 => (ob1 (f2_isBound fu i6 σ) fun v9 => (if v9 = true then (if (gb σ 709 0) = true then (some (.error 3, σ)) else (if (nI (gl σ 3).length) < 40 then (ckP (inR σ) (lt (gn σ 5) fun n16 => (ck (decide (n16 < gn (zw σ 5) 5)) (ob1 (f5_init fu n16 (some i6) (zw σ 5)) fun σ21 => (ck (decide (n16 < gn σ21 5)) (ck (decide ((gl σ21 3).length < 150)) (ck (okl σ21 3) (some (.ok (nI (gl σ 3).length), (ladd σ21 3 n16)))))))))) else (some (.error 3, σ)))) else (some (.error 3, σ)))))

def f7_knownHandle (fu : Nat) (a1 : Int32) (σ : St) : Option (Except Nat (Option Nat)) :=
  if a1 < 0 then (some (.error 1)) else (if a1 < (nI (gl σ 3).length) then (lg σ 3 a1 fun k3 => (some (.ok (some k3)))) else (some (.error 1)))

def f7_close_j69 (fu : Nat) (x2 : (Option Nat)) (x3 : Int32) (σ : St) : Option ((Int32 × St) ⊕ ((Except Nat Bool) × St)) :=
  some (.inl ((x3 + 1), σ))

def f7_close_b30 (fu : Nat) (x2 : (Option Nat)) (x3 : Int32) (σ : St) : Option ((Int32 × St) ⊕ ((Except Nat Bool) × St)) :=
  if (nI (gl σ 4).length) ≤ x3 then (oinr (dr (gn σ 5) x2 fun i11 => (some ((.ok (gb σ 502 i11)), σ)))) else (lg σ 4 x3 fun k14 => (lt (gp σ 100 k14) fun p18 => (ck (okr (gn σ 5) p18) (ck (okr (gn σ 5) x2) (if p18 = x2 then (ob2 (f1_abortIfGoing fu k14 σ) fun v23 σ24 => (f7_close_j69 fu x2 x3 σ24)) else (f7_close_j69 fu x2 x3 σ))))))

def f7_close (fu : Nat) (a1 : Int32) (σ : St) : Option ((Except Nat Bool) × St) :=
  xb1 (f7_knownHandle fu a1 σ) (fun e => some (.error e, σ)) fun v1 => (dr (gn σ 5) v1 fun i6 => (if (gb σ 501 i6) = true then (lp (fun s8 => f7_close_b30 fu (some i6) s8.1 s8.2) fu (0, (zb σ 501 i6 false))) else (some (.error 3, σ))))

def f5_isAlive (fu : Nat) (a0 : Nat) (σ : St) : Option Bool :=
  ck (decide (a0 < gn σ 5)) (if (gb σ 501 a0) = true then (if (gb σ 502 a0) = true then (some false) else (some true)) else (some false))

def f7_canUse (fu : Nat) (a1 : (Option Nat)) (σ : St) : Option Bool :=
  dr (gn σ 5) a1 fun i1 => (ob1 (f5_isAlive fu i1 σ) fun v4 => (if v4 = true then (if (gb σ 709 0) = true then (some false) else (some true)) else (some false)))

def f7_wakeForUse (fu : Nat) (a1 : (Option Nat)) (σ : St) : Option St :=
  ob1 (f7_wake fu a1 0 σ) fun σ2 => (dr (gn σ2 2) a1 fun i4 => (some (zi σ2 214 i4 (gi σ2 708 0))))

def f1_init (fu : Nat) (a0 : Nat) (a1 : (Option Nat)) (a2 : Int32) (σ : St) : Option St :=
  ck (decide (a0 < gn σ 1)) (some (zi (zp (zi σ 102 a0 0) 100 a0 a1) 101 a0 a2))

noncomputable def f7_call (fu : Nat) (a1 : Int32) (a2 : Int32) (σ : St) : Option ((Except Nat Int32) × St) :=
  xb1 (f7_knownHandle fu a1 σ) (fun e => some (.error e, σ)) fun v1 => (ob1 (f7_isWithin fu a2 1 20 σ) fun v6 => (if v6 = true then (ob1 (f7_canUse fu v1 σ) fun v10 => (if v10 = true then (if (nI (gl σ 4).length) < 100 then (dr (gn σ 5) v1 fun i15 => (lt (gp σ 500 i15) fun p18 => (ob1 (f7_wakeForUse fu p18 σ) fun σ21 => (ck (decide (i15 < gn σ21 5)) (ckP (inR σ21) (lt (gn σ21 1) fun n25 => (ck (decide (n25 < gn (zw σ21 1) 1)) (ob1 (f1_init fu n25 (some i15) ((gi (zw σ21 1) 708 0) + a2) (zw σ21 1)) fun σ30 => (ck (decide (n25 < gn σ30 1)) (ck (decide ((gl σ30 4).length < 150)) (ck (okl σ30 4) (some (.ok (nI (gl σ21 4).length), (ladd σ30 4 n25)))))))))))))) else (some (.error 3, σ))) else (some (.error 3, σ)))) else (some (.error 2, σ))))

def f7_set (fu : Nat) (a1 : Int32) (a2 : Int32) (σ : St) : Option ((Except Nat Int32) × St) :=
  xb1 (f7_knownHandle fu a1 σ) (fun e => some (.error e, σ)) fun v1 => (ob1 (f7_isWithin fu a2 0 99 σ) fun v6 => (if v6 = true then (ob1 (f7_canUse fu v1 σ) fun v10 => (if v10 = true then (dr (gn σ 5) v1 fun i14 => (lt (gp σ 500 i14) fun p17 => (ob1 (f7_wakeForUse fu p17 σ) fun σ20 => (ck (decide (i14 < gn σ20 5)) (lt (gp σ20 500 i14) fun p23 => (dr (gn σ20 2) p23 fun i25 => (lt (gp σ20 500 i14) fun p28 => (dr (gn σ20 2) p28 fun i30 => (some ((.ok (gi σ20 213 i25)), (zi σ20 213 i30 a2))))))))))) else (some (.error 3, σ)))) else (some (.error 2, σ))))

def f7_get (fu : Nat) (a1 : Int32) (σ : St) : Option ((Except Nat Int32) × St) :=
  xb1 (f7_knownHandle fu a1 σ) (fun e => some (.error e, σ)) fun v1 => (ob1 (f7_canUse fu v1 σ) fun v6 => (if v6 = true then (dr (gn σ 5) v1 fun i10 => (lt (gp σ 500 i10) fun p13 => (ob1 (f7_wakeForUse fu p13 σ) fun σ16 => (ck (decide (i10 < gn σ16 5)) (lt (gp σ16 500 i10) fun p19 => (dr (gn σ16 2) p19 fun i21 => (some ((.ok (gi σ16 213 i21)), σ16)))))))) else (some (.error 3, σ))))

def f7_lowestFreeSlot_b2 (fu : Nat) (x1 : Int32) (σ : St) : Option (Int32 ⊕ Int32) :=
  if (nI (gl σ 5).length) ≤ x1 then (oinr (some (-1))) else (lg σ 5 x1 fun k2 => (lt (gp σ 600 k2) fun p6 => (if p6 = none then (oinr (some x1)) else (some (.inl (x1 + 1))))))

def f7_lowestFreeSlot (fu : Nat) (σ : St) : Option Int32 :=
  lp (fun s8 => f7_lowestFreeSlot_b2 fu s8 σ) fu 0

def f7_knownSlot (fu : Nat) (a1 : Int32) (σ : St) : Option (Except Nat (Option Nat)) :=
  if a1 < 0 then (some (.error 1)) else (if a1 < (nI (gl σ 5).length) then (lg σ 5 a1 fun k3 => (some (.ok (some k3)))) else (some (.error 1)))

def f7_map (fu : Nat) (a1 : Int32) (a2 : Int32) (σ : St) : Option ((Except Nat Int32) × St) :=
  xb1 (f7_knownHandle fu a1 σ) (fun e => some (.error e, σ)) fun v1 => (ob1 (f7_isWithin fu a2 0 31 σ) fun v6 => (if v6 = true then (ob1 (f7_lowestFreeSlot fu σ) fun v10 => (ob1 (f7_canUse fu v1 σ) fun v13 => (if v13 = true then (if v10 = (-1) then (some (.error 3, σ)) else (xb1 (f7_knownSlot fu v10 σ) (fun e => some (.error e, σ)) fun v18 => (dr (gn σ 5) v1 fun i23 => (lt (gp σ 500 i23) fun p26 => (dr (16) v18 fun i28 => (some ((.ok v10), (zi (zp σ 600 i28 p26) 601 i28 a2)))))))) else (some (.error 3, σ))))) else (some (.error 2, σ))))

def f7_unmap (fu : Nat) (a1 : Int32) (a2 : Int32) (σ : St) : Option ((Except Nat Int32) × St) :=
  xb1 (f7_knownHandle fu a1 σ) (fun e => some (.error e, σ)) fun v1 => (xb1 (f7_knownSlot fu a2 σ) (fun e => some (.error e, σ)) fun v6 => (dr (gn σ 5) v1 fun i11 => (ob1 (f5_isAlive fu i11 σ) fun v14 => (if v14 = true then (dr (16) v6 fun i18 => (lt (gp σ 600 i18) fun p21 => (lt (gp σ 500 i11) fun p23 => (ck (okr (gn σ 2) p21) (ck (okr (gn σ 2) p23) (if p21 = p23 then (some ((.ok (gi (zp σ 600 i18 none) 601 i18)), (zp σ 600 i18 none))) else (some (.error 3, σ)))))))) else (some (.error 3, σ))))))

def f7_access_j46 (fu : Nat) (σ : St) : Option ((Except Nat Int32) × St) :=
  some ((.ok (-1)), (zi σ 710 0 ((gi σ 710 0) + 1)))

def f7_access (fu : Nat) (a1 : Int32) (a2 : Int32) (σ : St) : Option ((Except Nat Int32) × St) :=
  xb1 (f7_known fu a1 σ) (fun e => some (.error e, σ)) fun v1 => (xb1 (f7_knownSlot fu a2 σ) (fun e => some (.error e, σ)) fun v6 => (dr (gn σ 2) v1 fun i11 => (if (gb σ 208 i11) = true then (if (gb σ 212 i11) = true then (dr (16) v6 fun i16 => (lt (gp σ 600 i16) fun p19 => (ck (okr (gn σ 2) p19) (ck (okr (gn σ 2) (some i11)) (if p19 = (some i11) then (some ((.ok (gi σ 601 i16)), σ)) else (f7_access_j46 fu σ)))))) else (f7_access_j46 fu σ)) else (some (.error 3, σ)))))

def f7_finishCalls_j48 (fu : Nat) (x1 : Int32) (σ : St) : Option ((Int32 × St) ⊕ St) :=
  some (.inl ((x1 + 1), σ))

def f7_finishCalls_b2 (fu : Nat) (x1 : Int32) (σ : St) : Option ((Int32 × St) ⊕ St) :=
  if (nI (gl σ 4).length) ≤ x1 then (oinr (some σ)) else (lg σ 4 x1 fun k2 => (if (gi σ 102 k2) = 0 then (if (gi σ 708 0) < (gi σ 101 k2) then (f7_finishCalls_j48 fu x1 σ) else (f7_finishCalls_j48 fu x1 (zi σ 102 k2 1))) else (f7_finishCalls_j48 fu x1 σ)))

def f7_finishCalls (fu : Nat) (σ : St) : Option St :=
  lp (fun s8 => f7_finishCalls_b2 fu s8.1 s8.2) fu (0, σ)

def f7_touch (fu : Nat) (a1 : (Option Nat)) (σ : St) : Option St :=
  if a1 = none then (some σ) else (dr (gn σ 2) a1 fun i2 => (some (zi σ 214 i2 (gi σ 708 0))))

def f7_touchTheHeld_j108 (fu : Nat) (x1 : Int32) (σ : St) : Option ((Int32 × St) ⊕ St) :=
  some (.inl ((x1 + 1), σ))

def f7_touchTheHeld_b54 (fu : Nat) (x1 : Int32) (σ : St) : Option ((Int32 × St) ⊕ St) :=
  if (nI (gl σ 1).length) ≤ x1 then (oinr (some σ)) else (lg σ 1 x1 fun k3 => (if (gb σ 212 k3) = true then (lt (gp σ 205 k3) fun p8 => (ob1 (f7_touch fu p8 σ) fun σ11 => (ck (decide (k3 < gn σ11 2)) (lt (gp σ11 206 k3) fun p14 => (ob1 (f7_touch fu p14 σ11) fun σ17 => (ck (decide (k3 < gn σ17 2)) (lt (gp σ17 207 k3) fun p20 => (ob1 (f7_touch fu p20 σ17) fun σ23 => (f7_touchTheHeld_j108 fu x1 σ23))))))))) else (f7_touchTheHeld_j108 fu x1 σ)))

def f7_touchTheHeld_j46 (fu : Nat) (x1 : Int32) (σ : St) : Option ((Int32 × St) ⊕ St) :=
  some (.inl ((x1 + 1), σ))

def f7_touchTheHeld_b2 (fu : Nat) (x1 : Int32) (σ : St) : Option ((Int32 × St) ⊕ St) :=
  if (nI (gl σ 4).length) ≤ x1 then (oinr (lp (fun s8 => f7_touchTheHeld_b54 fu s8.1 s8.2) fu (0, σ))) else (lg σ 4 x1 fun k25 => (if (gi σ 102 k25) = 0 then (lt (gp σ 100 k25) fun p30 => (dr (gn σ 5) p30 fun i32 => (lt (gp σ 500 i32) fun p35 => (dr (gn σ 2) p35 fun i37 => (f7_touchTheHeld_j46 fu x1 (zi σ 214 i37 (gi σ 708 0))))))) else (f7_touchTheHeld_j46 fu x1 σ)))

def f7_touchTheHeld (fu : Nat) (σ : St) : Option St :=
  lp (fun s8 => f7_touchTheHeld_b2 fu s8.1 s8.2) fu (0, σ)

def f7_fallAsleep (fu : Nat) (a1 : (Option Nat)) (σ : St) : Option St :=
  dr (gn σ 2) a1 fun i1 => (ob1 (f4_note fu 3 (gi (zb σ 212 i1 false) 200 i1) (zb σ 212 i1 false)) fun σ5 => (some σ5))

def f7_putIdleToSleep_j51 (fu : Nat) (x1 : Int32) (σ : St) : Option ((Int32 × St) ⊕ St) :=
  some (.inl ((x1 + (-1)), σ))

def f7_putIdleToSleep_b10 (fu : Nat) (x1 : Int32) (σ : St) : Option ((Int32 × St) ⊕ St) :=
  if x1 < 0 then (oinr (some σ)) else (lg σ 1 x1 fun k2 => (if (gb σ 212 k2) = true then (if ((gi σ 708 0) - (gi σ 214 k2)) < 5 then (f7_putIdleToSleep_j51 fu x1 σ) else (ob1 (f7_fallAsleep fu (some k2) σ) fun σ9 => (f7_putIdleToSleep_j51 fu x1 σ9))) else (f7_putIdleToSleep_j51 fu x1 σ)))

def f7_putIdleToSleep (fu : Nat) (σ : St) : Option St :=
  lp (fun s8 => f7_putIdleToSleep_b10 fu s8.1 s8.2) fu (((nI (gl σ 1).length) - 1), σ)

def f7_pass_b40 (fu : Nat) (x1 : Int32) (x2 : Int32) (σ : St) : Option ((Int32 × St) ⊕ ((Except Nat Int32) × St)) :=
  if x1 ≤ x2 then (oinr (some ((.ok (gi σ 708 0)), σ))) else (ob1 (f7_finishCalls fu (zi σ 708 0 ((gi σ 708 0) + 1))) fun σ8 => (ob1 (f7_touchTheHeld fu σ8) fun σ11 => (ob1 (f7_putIdleToSleep fu σ11) fun σ14 => (some (.inl ((x2 + 1), σ14))))))

def f7_pass (fu : Nat) (a1 : Int32) (σ : St) : Option ((Except Nat Int32) × St) :=
  ob1 (f7_isWithin fu a1 1 50 σ) fun v1 => (if v1 = true then (if (gb σ 709 0) = true then (some (.error 3, σ)) else (lp (fun s8 => f7_pass_b40 fu a1 s8.1 s8.2) fu (0, σ))) else (some (.error 2, σ)))

def f7_hasCallGoing_j45 (fu : Nat) (x1 : (Option Nat)) (x2 : Int32) (σ : St) : Option (Int32 ⊕ Bool) :=
  some (.inl (x2 + 1))

def f7_hasCallGoing_b2 (fu : Nat) (x1 : (Option Nat)) (x2 : Int32) (σ : St) : Option (Int32 ⊕ Bool) :=
  if (nI (gl σ 4).length) ≤ x2 then (oinr (some false)) else (lg σ 4 x2 fun k2 => (if (gi σ 102 k2) = 0 then (lt (gp σ 100 k2) fun p7 => (dr (gn σ 5) p7 fun i9 => (lt (gp σ 500 i9) fun p12 => (ck (okr (gn σ 2) p12) (ck (okr (gn σ 2) x1) (if p12 = x1 then (oinr (some true)) else (f7_hasCallGoing_j45 fu x1 x2 σ))))))) else (f7_hasCallGoing_j45 fu x1 x2 σ)))

def f7_hasCallGoing (fu : Nat) (a1 : (Option Nat)) (σ : St) : Option Bool :=
  lp (fun s8 => f7_hasCallGoing_b2 fu a1 s8 σ) fu 0

def f7_wakeTheSuspended_j48 (fu : Nat) (x1 : Int32) (x2 : Int32) (σ : St) : Option ((Int32 × Int32 × St) ⊕ (Int32 × St)) :=
  some (.inl (x1, (x2 + 1), σ))

def f7_wakeTheSuspended_b4 (fu : Nat) (x1 : Int32) (x2 : Int32) (σ : St) : Option ((Int32 × Int32 × St) ⊕ (Int32 × St)) :=
  if (nI (gl σ 1).length) ≤ x2 then (oinr (some (x1, σ))) else (lg σ 1 x2 fun k2 => (if (gb σ 216 k2) = true then (ob1 (f7_wake fu (some k2) 0 (zb σ 216 k2 false)) fun σ8 => (f7_wakeTheSuspended_j48 fu (x1 + 1) x2 σ8)) else (f7_wakeTheSuspended_j48 fu x1 x2 σ)))

def f7_wakeTheSuspended (fu : Nat) (σ : St) : Option (Int32 × St) :=
  lp (fun s8 => f7_wakeTheSuspended_b4 fu s8.1 s8.2.1 s8.2.2) fu (0, 0, σ)

def f7_suspend_j86 (fu : Nat) (x1 : Int32) (σ : St) : Option ((Int32 × St) ⊕ ((Except Nat Int32) × St)) :=
  some (.inl ((x1 + (-1)), σ))

def f7_suspend_j69 (fu : Nat) (x1 : Int32) (x2 : Nat) (σ : St) : Option ((Int32 × St) ⊕ ((Except Nat Int32) × St)) :=
  ck (decide (x2 < gn σ 2)) (if (gb σ 212 x2) = true then (ob1 (f7_fallAsleep fu (some x2) σ) fun σ11 => (ck (decide (x2 < gn σ11 2)) (f7_suspend_j86 fu x1 (zb σ11 216 x2 true)))) else (f7_suspend_j86 fu x1 σ))

def f7_suspend_b28 (fu : Nat) (x1 : Int32) (σ : St) : Option ((Int32 × St) ⊕ ((Except Nat Int32) × St)) :=
  if x1 < 0 then (oinr (some ((.ok (-1)), (zb σ 709 0 true)))) else (lg σ 1 x1 fun k3 => (if (gb σ 212 k3) = true then (ob1 (f7_hasCallGoing fu (some k3) σ) fun v14 => (if v14 = true then (oinr (ob2 (f7_wakeTheSuspended fu σ) fun v18 σ19 => (ck (decide (k3 < gn σ19 2)) (some ((.ok (gi σ19 200 k3)), σ19))))) else (f7_suspend_j69 fu x1 k3 σ))) else (f7_suspend_j69 fu x1 k3 σ)))

def f7_suspend (fu : Nat) (σ : St) : Option ((Except Nat Int32) × St) :=
  if (gb σ 709 0) = true then (some (.error 3, σ)) else (lp (fun s8 => f7_suspend_b28 fu s8.1 s8.2) fu (((nI (gl σ 1).length) - 1), σ))

def f7_checkLine (fu : Nat) (a0 : Int32) (σ : St) : Option (Except Nat Unit) :=
  if a0 < 0 then (some (.error 1)) else (if a0 < 8 then (some (.ok ())) else (some (.error 1)))

def f7_strikes (fu : Nat) (a1 : Int32) (σ : St) : Option (Except Nat Int32) :=
  xb1 (f7_checkLine fu a1 σ) (fun e => some (.error e)) fun v1 => (ar 8 a1 fun j6 => (some (.ok (gi σ 706 j6))))

def f7_isShut (fu : Nat) (a1 : Int32) (σ : St) : Option (Except Nat Bool) :=
  xb1 (f7_strikes fu a1 σ) (fun e => some (.error e)) fun v1 => (if v1 < 3 then (some (.ok false)) else (some (.ok true)))

def f7_ask_j77 (fu : Nat) (x1 : Int32) (x2 : Int32) (x3 : Int32) (σ : St) : Option ((Int32 × Int32 × St) ⊕ (Int32 × St)) :=
  some (.inl (x2, (x3 + 1), σ))

def f7_ask_j61 (fu : Nat) (x1 : Int32) (x2 : Int32) (x3 : Int32) (x4 : Nat) (σ : St) : Option ((Int32 × Int32 × St) ⊕ (Int32 × St)) :=
  ob1 (f7_wake fu (some x4) 0 σ) fun σ10 => (ck (decide (x4 < gn σ10 2)) (f7_ask_j77 fu x1 (x2 + 1) x3 (zb σ10 215 x4 false)))

def f7_ask_b4 (fu : Nat) (x1 : Int32) (x2 : Int32) (x3 : Int32) (σ : St) : Option ((Int32 × Int32 × St) ⊕ (Int32 × St)) :=
  if (nI (gl σ 1).length) ≤ x3 then (oinr (some (x2, σ))) else (lg σ 1 x3 fun k2 => (if (gi σ 203 k2) = x1 then (if (gb σ 215 k2) = true then (if (gb σ 212 k2) = true then (f7_ask_j61 fu x1 x2 x3 k2 σ) else (ob1 (f2_isSaved fu k2 σ) fun v13 => (if v13 = true then (f7_ask_j61 fu x1 x2 x3 k2 σ) else (f7_ask_j77 fu x1 x2 x3 σ)))) else (f7_ask_j77 fu x1 x2 x3 σ)) else (f7_ask_j77 fu x1 x2 x3 σ)))

def f7_ask (fu : Nat) (a1 : Int32) (σ : St) : Option (Int32 × St) :=
  lp (fun s8 => f7_ask_b4 fu a1 s8.1 s8.2.1 s8.2.2) fu (0, 0, σ)

def f7_resume_j50 (fu : Nat) (x1 : Int32) (x2 : Int32) (σ : St) : Option ((Int32 × St) ⊕ ((Except Nat Int32) × St)) :=
  some (.inl ((x2 + 1), σ))

def f7_resume_b30 (fu : Nat) (x1 : Int32) (x2 : Int32) (σ : St) : Option ((Int32 × St) ⊕ ((Except Nat Int32) × St)) :=
  if 8 ≤ x2 then (oinr (ob1 (f7_bindWhatCanBe fu σ) fun σ7 => (some ((.ok x1), σ7)))) else (xb1 (f7_isShut fu x2 σ) (fun e => oinr (some (.error e, σ))) fun v9 => (if v9 = true then (f7_resume_j50 fu x1 x2 σ) else (ob2 (f7_ask fu x2 σ) fun v15 σ16 => (f7_resume_j50 fu x1 x2 σ16))))

def f7_resume (fu : Nat) (σ : St) : Option ((Except Nat Int32) × St) :=
  if (gb σ 709 0) = true then (ob2 (f7_wakeTheSuspended fu (zb σ 709 0 false)) fun v2 σ3 => (lp (fun s8 => f7_resume_b30 fu v2 s8.1 s8.2) 9 (0, σ3))) else (some (.error 3, σ))

def f7_countStrike (fu : Nat) (a1 : Int32) (a2 : Bool) (σ : St) : Option ((Except Nat Unit) × St) :=
  xb1 (f7_checkLine fu a1 σ) (fun e => some (.error e, σ)) fun v1 => (if a2 = true then (ar 8 a1 fun j20 => (some (.ok (), (zi σ 706 j20 0)))) else (ar 8 a1 fun j7 => (ar 8 a1 fun j9 => (xb1 (f7_isShut fu a1 (zi σ 706 j9 ((gi σ 706 j7) + 1))) (fun e => some (.error e, (zi σ 706 j9 ((gi σ 706 j7) + 1)))) fun v11 => (if v11 = true then (ob1 (f4_note fu 5 a1 (zi σ 706 j9 ((gi σ 706 j7) + 1))) fun σ18 => (some (.ok (), σ18))) else (some (.ok (), (zi σ 706 j9 ((gi σ 706 j7) + 1)))))))))

def f7_raise_j80 (fu : Nat) (x3 : Int32) (y1 : Int32) (y2 : Bool) (σ : St) : Option ((Except Nat Int32) × St) :=
  xb2 (f7_countStrike fu y1 y2 σ) (fun e σ24 => some (.error e, σ24)) fun v23 σ24 => (some ((.ok x3), σ24))

def f7_raise (fu : Nat) (a1 : Int32) (σ : St) : Option ((Except Nat Int32) × St) :=
  xb1 (f7_known fu a1 σ) (fun e => some (.error e, σ)) fun v1 => (dr (gn σ 2) v1 fun i6 => (if (gb σ 208 i6) = true then (if (gi σ 203 i6) = (-1) then (some (.error 3, σ)) else (if (gb (zb σ 215 i6 true) 709 0) = true then (some ((.ok 0), (zb σ 215 i6 true))) else (xb1 (f7_isShut fu (gi (zb σ 215 i6 true) 203 i6) (zb σ 215 i6 true)) (fun e => some (.error e, (zb σ 215 i6 true))) fun v12 => (if v12 = true then (some ((.ok 0), (zb σ 215 i6 true))) else (ob2 (f7_ask fu (gi (zb σ 215 i6 true) 203 i6) (zb σ 215 i6 true)) fun v18 σ19 => (ck (decide (i6 < gn σ19 2)) (if v18 ≤ 0 then (f7_raise_j80 fu v18 (gi σ19 203 i6) false σ19) else (f7_raise_j80 fu v18 (gi σ19 203 i6) true σ19)))))))) else (some (.error 3, σ))))

def f7_openLine (fu : Nat) (a1 : Int32) (σ : St) : Option ((Except Nat Int32) × St) :=
  xb1 (f7_checkLine fu a1 σ) (fun e => some (.error e, σ)) fun v1 => (ar 8 a1 fun j6 => (if (gb (zi σ 706 j6 0) 709 0) = true then (some ((.ok 0), (zi σ 706 j6 0))) else (ob2 (f7_ask fu a1 (zi σ 706 j6 0)) fun v9 σ10 => (some ((.ok v9), σ10)))))

def f7_isThere (fu : Nat) (a1 : Int32) (σ : St) : Option (Except Nat Bool) :=
  xb1 (f7_known fu a1 σ) (fun e => some (.error e)) fun v1 => (dr (gn σ 2) v1 fun i6 => (some (.ok (gb σ 208 i6))))

def f7_reason (fu : Nat) (a1 : Int32) (σ : St) : Option (Except Nat Int32) :=
  xb1 (f7_known fu a1 σ) (fun e => some (.error e)) fun v1 => (dr (gn σ 2) v1 fun i6 => (if (gb σ 208 i6) = true then (ob1 (f2_isBound fu i6 σ) fun v10 => (if v10 = true then (some (.ok 0)) else (ob1 (f7_refusalOf fu (some i6) σ) fun v14 => (if v14 = 0 then (some (.ok (-1))) else (some (.ok v14)))))) else (some (.ok 8))))

def f7_driverOf_j37 (fu : Nat) (y0 : (Option Nat)) (σ : St) : Option (Except Nat Int32) :=
  if y0 = none then (some (.ok (-1))) else (dr (gn σ 3) y0 fun i18 => (some (.ok (gi σ 300 i18))))

def f7_driverOf (fu : Nat) (a1 : Int32) (σ : St) : Option (Except Nat Int32) :=
  xb1 (f7_known fu a1 σ) (fun e => some (.error e)) fun v1 => (dr (gn σ 2) v1 fun i6 => (if (gb σ 208 i6) = true then (ob1 (f2_isBound fu i6 σ) fun v10 => (if v10 = true then (lt (gp σ 210 i6) fun p21 => (f7_driverOf_j37 fu p21 σ)) else (ob1 (f7_bestDriver fu (gi σ 201 i6) σ) fun v14 => (f7_driverOf_j37 fu v14 σ)))) else (some (.ok (-1)))))

def f7_window (fu : Nat) (a1 : Int32) (σ : St) : Option (Except Nat Int32) :=
  xb1 (f7_known fu a1 σ) (fun e => some (.error e)) fun v1 => (dr (gn σ 2) v1 fun i6 => (some (.ok (gi σ 211 i6))))

def f7_isOn (fu : Nat) (a1 : Int32) (σ : St) : Option (Except Nat Bool) :=
  xb1 (f7_known fu a1 σ) (fun e => some (.error e)) fun v1 => (dr (gn σ 2) v1 fun i6 => (some (.ok (gb σ 212 i6))))

def f7_isPending (fu : Nat) (a1 : Int32) (σ : St) : Option (Except Nat Bool) :=
  xb1 (f7_known fu a1 σ) (fun e => some (.error e)) fun v1 => (dr (gn σ 2) v1 fun i6 => (some (.ok (gb σ 215 i6))))

def f7_handles_j57 (fu : Nat) (x2 : (Option Nat)) (x3 : Int32) (x4 : Int32) (σ : St) : Option ((Int32 × Int32) ⊕ (Except Nat Int32)) :=
  some (.inl (x3, (x4 + 1)))

def f7_handles_b11 (fu : Nat) (x2 : (Option Nat)) (x3 : Int32) (x4 : Int32) (σ : St) : Option ((Int32 × Int32) ⊕ (Except Nat Int32)) :=
  if (nI (gl σ 3).length) ≤ x4 then (oinr (some (.ok x3))) else (lg σ 3 x4 fun k7 => (if (gb σ 501 k7) = true then (lt (gp σ 500 k7) fun p12 => (ck (okr (gn σ 2) p12) (ck (okr (gn σ 2) x2) (if p12 = x2 then (f7_handles_j57 fu x2 (x3 + 1) x4 σ) else (f7_handles_j57 fu x2 x3 x4 σ))))) else (f7_handles_j57 fu x2 x3 x4 σ)))

def f7_handles (fu : Nat) (a1 : Int32) (σ : St) : Option (Except Nat Int32) :=
  xb1 (f7_known fu a1 σ) (fun e => some (.error e)) fun v1 => (lp (fun s8 => f7_handles_b11 fu v1 s8.1 s8.2 σ) fu (0, 0))

def f7_callState (fu : Nat) (a1 : Int32) (σ : St) : Option (Except Nat Int32) :=
  if a1 < 0 then (some (.error 1)) else (if a1 < (nI (gl σ 4).length) then (lg σ 4 a1 fun k3 => (some (.ok (gi σ 102 k3)))) else (some (.error 1)))

def f7_faults (fu : Nat) (σ : St) : Option Int32 :=
  some (gi σ 710 0)

def f7_countPlaces_j41 (fu : Nat) (x1 : Int32) (x2 : Int32) (σ : St) : Option ((Int32 × Int32) ⊕ Int32) :=
  some (.inl (x1, (x2 + 1)))

def f7_countPlaces_b4 (fu : Nat) (x1 : Int32) (x2 : Int32) (σ : St) : Option ((Int32 × Int32) ⊕ Int32) :=
  if (nI (gl σ 1).length) ≤ x2 then (oinr (some x1)) else (lg σ 1 x2 fun k2 => (ob1 (f2_space fu k2 σ) fun v6 => (if v6 = none then (f7_countPlaces_j41 fu (x1 + (gi σ 202 k2)) x2 σ) else (f7_countPlaces_j41 fu x1 x2 σ))))

def f7_countPlaces (fu : Nat) (σ : St) : Option Int32 :=
  lp (fun s8 => f7_countPlaces_b4 fu s8.1 s8.2 σ) fu (0, 0)

def f91_bitCount (fu : Nat) (a0 : Int32) (σ : St) : Option Int32 :=
  lt (a0 - (((Int32.toUInt32 a0 >>> (Int32.toUInt32 1 &&& Int32.toUInt32 31)).toInt32) &&& 1431655765)) fun w1 => (lt ((w1 &&& 858993459) + (((Int32.toUInt32 w1 >>> (Int32.toUInt32 2 &&& Int32.toUInt32 31)).toInt32) &&& 858993459)) fun w3 => (lt ((w3 + ((Int32.toUInt32 w3 >>> (Int32.toUInt32 4 &&& Int32.toUInt32 31)).toInt32)) &&& 252645135) fun w5 => (lt (w5 + ((Int32.toUInt32 w5 >>> (Int32.toUInt32 8 &&& Int32.toUInt32 31)).toInt32)) fun w7 => (lt (w7 + ((Int32.toUInt32 w7 >>> (Int32.toUInt32 16 &&& Int32.toUInt32 31)).toInt32)) fun w9 => (some (w9 &&& 63))))))

def f7_countLines_j41 (fu : Nat) (x1 : Int32) (x2 : Int32) (σ : St) : Option ((Int32 × Int32) ⊕ Int32) :=
  some (.inl (x1, (x2 + 1)))

def f7_countLines_b4 (fu : Nat) (x1 : Int32) (x2 : Int32) (σ : St) : Option ((Int32 × Int32) ⊕ Int32) :=
  if (nI (gl σ 1).length) ≤ x2 then (oinr (ob1 (f91_bitCount fu x1 σ) fun v2 => (some v2))) else (lg σ 1 x2 fun k5 => (if (gi σ 203 k5) = (-1) then (f7_countLines_j41 fu x1 x2 σ) else (f7_countLines_j41 fu (x1 ||| (1 <<< ((gi σ 203 k5) &&& 31))) x2 σ)))

def f7_countLines (fu : Nat) (σ : St) : Option Int32 :=
  lp (fun s8 => f7_countLines_b4 fu s8.1 s8.2 σ) fu (0, 0)

def f7_countSlots_j35 (fu : Nat) (x1 : Int32) (x2 : Int32) (σ : St) : Option ((Int32 × Int32) ⊕ Int32) :=
  some (.inl (x1, (x2 + 1)))

def f7_countSlots_b4 (fu : Nat) (x1 : Int32) (x2 : Int32) (σ : St) : Option ((Int32 × Int32) ⊕ Int32) :=
  if (nI (gl σ 5).length) ≤ x2 then (oinr (some x1)) else (lg σ 5 x2 fun k2 => (lt (gp σ 600 k2) fun p6 => (if p6 = none then (f7_countSlots_j35 fu x1 x2 σ) else (f7_countSlots_j35 fu (x1 + 1) x2 σ))))

def f7_countSlots (fu : Nat) (σ : St) : Option Int32 :=
  lp (fun s8 => f7_countSlots_b4 fu s8.1 s8.2 σ) fu (0, 0)

def f7_given (fu : Nat) (a1 : Int32) (σ : St) : Option (Except Nat Int32) :=
  if a1 = 0 then (ob1 (f7_countPlaces fu σ) fun v1 => (some (.ok v1))) else (if a1 = 1 then (ob1 (f7_countLines fu σ) fun v4 => (some (.ok v4))) else (if a1 = 2 then (ob1 (f7_countSlots fu σ) fun v7 => (some (.ok v7))) else (if a1 = 3 then (some (.ok (nI (gl σ 1).length))) else (some (.error 2)))))

def f7_events (fu : Nat) (σ : St) : Option Int32 :=
  some (gi σ 402 0)

def f4_keeps (fu : Nat) (a1 : Int32) (σ : St) : Option Bool :=
  if a1 < 0 then (some false) else (if (gi σ 402 0) ≤ a1 then (some false) else (if a1 < ((gi σ 402 0) - 20) then (some false) else (some true)))

def f4_kindAt (fu : Nat) (a1 : Int32) (σ : St) : Option Int32 :=
  ob1 (f90_floorMod fu a1 20 σ) fun v1 => (ar 20 v1 fun j4 => (some (gi σ 400 j4)))

def f7_eventKind (fu : Nat) (a1 : Int32) (σ : St) : Option (Except Nat Int32) :=
  ob1 (f4_keeps fu a1 σ) fun v1 => (if v1 = true then (ob1 (f4_kindAt fu a1 σ) fun v5 => (some (.ok v5))) else (some (.error 1)))

def f4_subjectAt (fu : Nat) (a1 : Int32) (σ : St) : Option Int32 :=
  ob1 (f90_floorMod fu a1 20 σ) fun v1 => (ar 20 v1 fun j4 => (some (gi σ 401 j4)))

def f7_eventOf (fu : Nat) (a1 : Int32) (σ : St) : Option (Except Nat Int32) :=
  ob1 (f4_keeps fu a1 σ) fun v1 => (if v1 = true then (ob1 (f4_subjectAt fu a1 σ) fun v5 => (some (.ok v5))) else (some (.error 1)))

