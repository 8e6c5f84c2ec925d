def f8_thrown (fu : Nat) (σ : St) : Option Int32 :=
  some (gi σ 800 0)

def f8_in (fu : Nat) (a0 : Int32) (a1 : Int32) (a2 : Int32) (σ : St) : Option Bool :=
  if a0 < a1 then (some false) else (if a2 < a0 then (some false) else (some true))

def f8_isDevice (fu : Nat) (a1 : Int32) (σ : St) : Option Bool :=
  ob1 (f8_in fu a1 0 ((gi σ 803 0) - 1) σ) fun v1 => (some v1)

def f8_isBound (fu : Nat) (a1 : Int32) (σ : St) : Option Bool :=
  ar 24 a1 fun j1 => (if (gi σ 812 j1) = (-1) then (some false) else (some true))

def f8_event (fu : Nat) (a1 : Int32) (a2 : Int32) (σ : St) : Option St :=
  ar 20 ((gi σ 842 0) - (gi σ 842 0) / 20 * 20) fun j1 => (ar 20 ((gi (zi σ 843 j1 a1) 842 0) - (gi (zi σ 843 j1 a1) 842 0) / 20 * 20) fun j3 => (some (zi (zi (zi σ 843 j1 a1) 844 j3 a2) 842 0 ((gi (zi (zi σ 843 j1 a1) 844 j3 a2) 842 0) + 1))))

def f8_driverFor_j63 (fu : Nat) (x1 : Int32) (x3 : Int32) (y0 : Int32) (σ : St) : Option ((Int32 × Int32) ⊕ Int32) :=
  some (.inl (y0, (x3 + 1)))

def f8_driverFor_j62 (fu : Nat) (x1 : Int32) (x2 : Int32) (x3 : Int32) (σ : St) : Option ((Int32 × Int32) ⊕ Int32) :=
  f8_driverFor_j63 fu x1 x3 x2 σ

def f8_driverFor_j58 (fu : Nat) (x1 : Int32) (x3 : Int32) (σ : St) : Option ((Int32 × Int32) ⊕ Int32) :=
  f8_driverFor_j63 fu x1 x3 x3 σ

def f8_driverFor_j31 (fu : Nat) (x1 : Int32) (x2 : Int32) (x3 : Int32) (y0 : Bool) (σ : St) : Option ((Int32 × Int32) ⊕ Int32) :=
  if y0 = true then (if x2 = (-1) then (f8_driverFor_j58 fu x1 x3 σ) else (ar 8 x3 fun j7 => (ar 8 x2 fun j9 => (if (gi σ 826 j7) ≤ (gi σ 826 j9) then (f8_driverFor_j62 fu x1 x2 x3 σ) else (f8_driverFor_j58 fu x1 x3 σ))))) else (f8_driverFor_j62 fu x1 x2 x3 σ)

def f8_driverFor_b4 (fu : Nat) (x1 : Int32) (x2 : Int32) (x3 : Int32) (σ : St) : Option ((Int32 × Int32) ⊕ Int32) :=
  if (gi σ 824 0) ≤ x3 then (oinr (some x2)) else (ar 8 x3 fun j2 => (if (((gi σ 825 j2) >>> (x1 &&& 31)) &&& 1) = 1 then (f8_driverFor_j31 fu x1 x2 x3 true σ) else (f8_driverFor_j31 fu x1 x2 x3 false σ)))

def f8_driverFor (fu : Nat) (a1 : Int32) (σ : St) : Option Int32 :=
  lp (fun s8 => f8_driverFor_b4 fu a1 s8.1 s8.2 σ) fu ((-1), 0)

def f8_spaceOf_j31 (fu : Nat) (x2 : Int32) (σ : St) : Option Int32 :=
  some x2

def f8_spaceOf_b7 (fu : Nat) (x2 : Int32) (σ : St) : Option (Int32 ⊕ Int32) :=
  if x2 = (-1) then (oinr (f8_spaceOf_j31 fu x2 σ)) else (ar 24 x2 fun j4 => (if (gi σ 806 j4) = 0 then (ar 24 x2 fun j7 => (some (.inl (gi σ 804 j7)))) else (oinr (f8_spaceOf_j31 fu x2 σ))))

def f8_spaceOf (fu : Nat) (a1 : Int32) (σ : St) : Option Int32 :=
  ar 24 a1 fun j1 => (lp (fun s8 => f8_spaceOf_b7 fu s8 σ) fu (gi σ 804 j1))

def f8_isRoom_j111 (fu : Nat) (x1 : Int32) (x2 : Int32) (x4 : Int32) (y0 : Bool) (σ : St) : Option ((Bool × Int32) ⊕ Bool) :=
  some (.inl (y0, (x4 + 1)))

def f8_isRoom_j95 (fu : Nat) (x1 : Int32) (x2 : Int32) (x3 : Bool) (x4 : Int32) (y0 : Bool) (σ : St) : Option ((Bool × Int32) ⊕ Bool) :=
  if x3 = true then (if y0 = true then (f8_isRoom_j111 fu x1 x2 x4 false σ) else (f8_isRoom_j111 fu x1 x2 x4 true σ)) else (f8_isRoom_j111 fu x1 x2 x4 false σ)

def f8_isRoom_b5 (fu : Nat) (x1 : Int32) (x2 : Int32) (x3 : Bool) (x4 : Int32) (σ : St) : Option ((Bool × Int32) ⊕ Bool) :=
  if (gi σ 803 0) ≤ x4 then (oinr (some x3)) else (if x4 = x1 then (f8_isRoom_j95 fu x1 x2 x3 x4 false σ) else (ob1 (f8_isBound fu x4 σ) fun v5 => (if v5 = true then (ar 24 x4 fun j9 => (if (gi σ 806 j9) ≤ 0 then (f8_isRoom_j95 fu x1 x2 x3 x4 false σ) else (ob1 (f8_spaceOf fu x4 σ) fun v12 => (ob1 (f8_spaceOf fu x1 σ) fun v15 => (if v12 = v15 then (ar 24 x4 fun j19 => (ar 24 x4 fun j21 => (if ((gi σ 814 j19) + (gi σ 806 j21)) ≤ x2 then (f8_isRoom_j95 fu x1 x2 x3 x4 false σ) else (ar 24 x4 fun j24 => (ar 24 x1 fun j26 => (if (x2 + (gi σ 806 j26)) ≤ (gi σ 814 j24) then (f8_isRoom_j95 fu x1 x2 x3 x4 false σ) else (f8_isRoom_j95 fu x1 x2 x3 x4 true σ))))))) else (f8_isRoom_j95 fu x1 x2 x3 x4 false σ)))))) else (f8_isRoom_j95 fu x1 x2 x3 x4 false σ))))

def f8_isRoom (fu : Nat) (a1 : Int32) (a2 : Int32) (σ : St) : Option Bool :=
  lp (fun s8 => f8_isRoom_b5 fu a1 a2 s8.1 s8.2 σ) fu (true, 0)

def f8_roomFor_j83 (fu : Nat) (x1 : Int32) (x3 : Int32) (x4 : Int32) (x5 : Int32) (σ : St) : Option (Int32 ⊕ Int32) :=
  ar 24 x1 fun j16 => (some (.inl (x5 + (gi σ 806 j16))))

def f8_roomFor_b50 (fu : Nat) (x1 : Int32) (x3 : Int32) (x4 : Int32) (x5 : Int32) (σ : St) : Option (Int32 ⊕ Int32) :=
  ar 24 x1 fun j12 => (if x4 < (x5 + (gi σ 806 j12)) then (oinr (some (-1))) else (if x5 < x3 then (f8_roomFor_j83 fu x1 x3 x4 x5 σ) else (ob1 (f8_isRoom fu x1 x5 σ) fun v18 => (if v18 = true then (oinr (some x5)) else (f8_roomFor_j83 fu x1 x3 x4 x5 σ)))))

def f8_roomFor_j45 (fu : Nat) (x1 : Int32) (x3 : Int32) (y0 : Int32) (σ : St) : Option Int32 :=
  lp (fun s8 => f8_roomFor_b50 fu x1 x3 y0 s8 σ) fu 0

def f8_roomFor_j21 (fu : Nat) (x1 : Int32) (x2 : Int32) (y0 : Int32) (σ : St) : Option Int32 :=
  if x2 = (-1) then (f8_roomFor_j45 fu x1 y0 64 σ) else (ar 24 x2 fun j8 => (ar 24 x2 fun j10 => (f8_roomFor_j45 fu x1 y0 ((gi σ 814 j8) + (gi σ 806 j10)) σ)))

def f8_roomFor (fu : Nat) (a1 : Int32) (σ : St) : Option Int32 :=
  ob1 (f8_spaceOf fu a1 σ) fun v1 => (if v1 = (-1) then (f8_roomFor_j21 fu a1 v1 0 σ) else (ar 24 v1 fun j5 => (f8_roomFor_j21 fu a1 v1 (gi σ 814 j5) σ)))

def f8_isLineFree_j62 (fu : Nat) (x1 : Int32) (x3 : Int32) (y0 : Bool) (σ : St) : Option ((Bool × Int32) ⊕ Bool) :=
  some (.inl (y0, (x3 + 1)))

def f8_isLineFree_b4 (fu : Nat) (x1 : Int32) (x2 : Bool) (x3 : Int32) (σ : St) : Option ((Bool × Int32) ⊕ Bool) :=
  if (gi σ 803 0) ≤ x3 then (oinr (if x2 = true then (some true) else (ar 24 x1 fun j3 => (if (gi σ 807 j3) = (-1) then (some true) else (some false))))) else (if x2 = true then (ob1 (f8_isBound fu x3 σ) fun v7 => (if v7 = true then (ar 24 x3 fun j11 => (ar 24 x1 fun j13 => (if (gi σ 807 j11) = (gi σ 807 j13) then (ar 24 x3 fun j16 => (if (gb σ 808 j16) = true then (ar 24 x1 fun j19 => (if (gb σ 808 j19) = true then (f8_isLineFree_j62 fu x1 x3 true σ) else (f8_isLineFree_j62 fu x1 x3 false σ))) else (f8_isLineFree_j62 fu x1 x3 false σ))) else (f8_isLineFree_j62 fu x1 x3 true σ)))) else (f8_isLineFree_j62 fu x1 x3 true σ))) else (f8_isLineFree_j62 fu x1 x3 false σ))

def f8_isLineFree (fu : Nat) (a1 : Int32) (σ : St) : Option Bool :=
  lp (fun s8 => f8_isLineFree_b4 fu a1 s8.1 s8.2 σ) fu (true, 0)

def f8_isOpen (fu : Nat) (a1 : Int32) (σ : St) : Option Bool :=
  if a1 = (-1) then (some true) else (ob1 (f8_isBound fu a1 σ) fun v2 => (if v2 = true then (some true) else (some false)))

def f8_refused_j98 (fu : Nat) (x1 : Int32) (σ : St) : Option Int32 :=
  ob1 (f8_isLineFree fu x1 σ) fun v33 => (if v33 = true then (ar 24 x1 fun j37 => (if (gb σ 818 j37) = true then (some 7) else (some 0))) else (some 6))

def f8_refused (fu : Nat) (a1 : Int32) (σ : St) : Option Int32 :=
  ar 24 a1 fun j1 => (ob1 (f8_driverFor fu (gi σ 805 j1) σ) fun v3 => (if v3 = (-1) then (some 1) else (ar 24 a1 fun j7 => (ob1 (f8_isOpen fu (gi σ 804 j7) σ) fun v9 => (if v9 = true then (ar 24 a1 fun j13 => (ob1 (f8_isOpen fu (gi σ 809 j13) σ) fun v15 => (if v15 = true then (ar 24 a1 fun j19 => (ob1 (f8_isOpen fu (gi σ 810 j19) σ) fun v21 => (if v21 = true then (ar 8 v3 fun j25 => (ar 8 v3 fun j27 => (if (gi σ 827 j27) ≤ (gi σ 829 j25) then (ar 24 a1 fun j30 => (if (gi σ 806 j30) ≤ 0 then (f8_refused_j98 fu a1 σ) else (ob1 (f8_roomFor fu a1 σ) fun v40 => (if v40 = (-1) then (some 5) else (f8_refused_j98 fu a1 σ))))) else (some 4)))) else (some 3)))) else (some 3)))) else (some 2))))))

def f8_wake_j190 (fu : Nat) (x2 : Int32) (x3 : Int32) (y1 : Int32) (y2 : Int32) (σ : St) : Option ((Int32 × St) ⊕ St) :=
  ar 24 y1 fun j31 => (ar 24 x3 fun j33 => (ob1 (f8_event fu 4 x3 (zb (zi σ 815 j31 y2) 822 j33 false)) fun σ36 => (some (.inl ((x2 + (-1)), (zi σ36 847 0 ((gi σ36 847 0) + 1)))))))

def f8_wake_j70 (fu : Nat) (x2 : Int32) (x3 : Int32) (y0 : Int32) (σ : St) : Option ((Int32 × St) ⊕ St) :=
  ar 24 x3 fun j16 => (if (gb σ 813 j16) = true then (some (.inl ((x2 + (-1)), σ))) else (ar 25 x2 fun j19 => (if 3 ≤ (gi σ 846 j19) then (ar 24 x3 fun j22 => (ar 24 x3 fun j24 => (ar 24 x3 fun j26 => (ar 8 (gi (zi (zb σ 813 j22 true) 821 j24 (gi (zb σ 813 j22 true) 801 0)) 812 j26) fun j28 => (if (gb (zi (zb σ 813 j22 true) 821 j24 (gi (zb σ 813 j22 true) 801 0)) 828 j28) = true then (ar 24 x3 fun j38 => (f8_wake_j190 fu x2 x3 x3 (gi (zi (zb σ 813 j22 true) 821 j24 (gi (zb σ 813 j22 true) 801 0)) 816 j38) (zi (zb σ 813 j22 true) 821 j24 (gi (zb σ 813 j22 true) 801 0)))) else (f8_wake_j190 fu x2 x3 x3 0 (zi (zb σ 813 j22 true) 821 j24 (gi (zb σ 813 j22 true) 801 0)))))))) else (ar 25 x2 fun j40 => (ar 25 x2 fun j42 => (if y0 = (-1) then (some (.inl (x2, (zi σ 846 j42 ((gi σ 846 j40) + 1))))) else (ar 24 y0 fun j45 => (if (gb (zi σ 846 j42 ((gi σ 846 j40) + 1)) 813 j45) = true then (some (.inl (x2, (zi σ 846 j42 ((gi σ 846 j40) + 1))))) else (ar 25 (x2 + 1) fun j48 => (ar 25 (x2 + 1) fun j50 => (some (.inl ((x2 + 1), (zi (zi (zi σ 846 j42 ((gi σ 846 j40) + 1)) 845 j48 y0) 846 j50 0))))))))))))))

def f8_wake_b16 (fu : Nat) (x2 : Int32) (σ : St) : Option ((Int32 × St) ⊕ St) :=
  if x2 < 0 then (oinr (some σ)) else (ar 25 x2 fun j6 => (ar 25 x2 fun j8 => (if (gi σ 846 j8) = 0 then (ar 24 (gi σ 845 j6) fun j54 => (f8_wake_j70 fu x2 (gi σ 845 j6) (gi σ 804 j54) σ)) else (ar 25 x2 fun j11 => (if (gi σ 846 j11) = 1 then (ar 24 (gi σ 845 j6) fun j52 => (f8_wake_j70 fu x2 (gi σ 845 j6) (gi σ 809 j52) σ)) else (ar 24 (gi σ 845 j6) fun j14 => (f8_wake_j70 fu x2 (gi σ 845 j6) (gi σ 810 j14) σ)))))))

def f8_wake (fu : Nat) (a1 : Int32) (σ : St) : Option St :=
  ar 25 0 fun j1 => (ar 25 0 fun j3 => (lp (fun s8 => f8_wake_b16 fu s8.1 s8.2) fu (0, (zi (zi σ 845 j1 a1) 846 j3 0))))

def f8_fallsAsleep (fu : Nat) (a1 : Int32) (σ : St) : Option St :=
  ar 24 a1 fun j1 => (ar 24 a1 fun j3 => (ar 24 a1 fun j5 => (ob1 (f8_event fu 3 a1 (zi (zb σ 813 j1 false) 816 j5 (gi (zb σ 813 j1 false) 815 j3))) fun σ8 => (some σ8))))

def f8_bindNow_j83 (fu : Nat) (x1 : Int32) (y1 : Int32) (y2 : Int32) (σ : St) : Option St :=
  ar 24 y1 fun j13 => (ar 24 x1 fun j15 => (ob1 (f8_driverFor fu (gi (zi σ 814 j13 y2) 805 j15) (zi σ 814 j13 y2)) fun v17 => (ar 24 x1 fun j20 => (ar 24 x1 fun j22 => (ar 24 x1 fun j24 => (ar 24 x1 fun j26 => (ar 24 x1 fun j28 => (ar 24 x1 fun j30 => (ar 24 x1 fun j32 => (ob1 (f8_event fu 0 x1 (zi (zi (zi (zb (zi (zi (zb (zi (zi σ 814 j13 y2) 812 j20 v17) 813 j22 true) 815 j24 0) 816 j26 0) 817 j28 false) 821 j30 (gi (zb (zi (zi (zb (zi (zi σ 814 j13 y2) 812 j20 v17) 813 j22 true) 815 j24 0) 816 j26 0) 817 j28 false) 801 0)) 820 j32 (gi (zi (zb (zi (zi (zb (zi (zi σ 814 j13 y2) 812 j20 v17) 813 j22 true) 815 j24 0) 816 j26 0) 817 j28 false) 821 j30 (gi (zb (zi (zi (zb (zi (zi σ 814 j13 y2) 812 j20 v17) 813 j22 true) 815 j24 0) 816 j26 0) 817 j28 false) 801 0)) 823 0)) 823 0 ((gi (zi (zi (zb (zi (zi (zb (zi (zi σ 814 j13 y2) 812 j20 v17) 813 j22 true) 815 j24 0) 816 j26 0) 817 j28 false) 821 j30 (gi (zb (zi (zi (zb (zi (zi σ 814 j13 y2) 812 j20 v17) 813 j22 true) 815 j24 0) 816 j26 0) 817 j28 false) 801 0)) 820 j32 (gi (zi (zb (zi (zi (zb (zi (zi σ 814 j13 y2) 812 j20 v17) 813 j22 true) 815 j24 0) 816 j26 0) 817 j28 false) 821 j30 (gi (zb (zi (zi (zb (zi (zi σ 814 j13 y2) 812 j20 v17) 813 j22 true) 815 j24 0) 816 j26 0) 817 j28 false) 801 0)) 823 0)) 823 0) + 1))) fun σ35 => (some σ35)))))))))))

def f8_bindNow_j60 (fu : Nat) (x1 : Int32) (σ : St) : Option St :=
  ar 24 x1 fun j10 => (if (gi σ 806 j10) ≤ 0 then (f8_bindNow_j83 fu x1 x1 (-1) σ) else (ob1 (f8_roomFor fu x1 σ) fun v37 => (f8_bindNow_j83 fu x1 x1 v37 σ)))

def f8_bindNow_j40 (fu : Nat) (x1 : Int32) (σ : St) : Option St :=
  ar 24 x1 fun j7 => (if (gi σ 810 j7) = (-1) then (f8_bindNow_j60 fu x1 σ) else (ar 24 x1 fun j40 => (ob1 (f8_wake fu (gi σ 810 j40) σ) fun σ43 => (f8_bindNow_j60 fu x1 σ43))))

def f8_bindNow_j20 (fu : Nat) (x1 : Int32) (σ : St) : Option St :=
  ar 24 x1 fun j4 => (if (gi σ 809 j4) = (-1) then (f8_bindNow_j40 fu x1 σ) else (ar 24 x1 fun j45 => (ob1 (f8_wake fu (gi σ 809 j45) σ) fun σ48 => (f8_bindNow_j40 fu x1 σ48))))

def f8_bindNow (fu : Nat) (a1 : Int32) (σ : St) : Option St :=
  ar 24 a1 fun j1 => (if (gi σ 804 j1) = (-1) then (f8_bindNow_j20 fu a1 σ) else (ar 24 a1 fun j50 => (ob1 (f8_wake fu (gi σ 804 j50) σ) fun σ53 => (f8_bindNow_j20 fu a1 σ53))))

def f8_settle_j73 (fu : Nat) (x1 : Bool) (x2 : Int32) (σ : St) : Option ((Bool × Int32 × St) ⊕ ((Bool × St) ⊕ St)) :=
  some (.inl (x1, (x2 + 1), σ))

def f8_settle_j63 (fu : Nat) (x2 : Int32) (y0 : Bool) (σ : St) : Option ((Bool × Int32 × St) ⊕ ((Bool × St) ⊕ St)) :=
  if y0 = true then (ob1 (f8_bindNow fu x2 σ) fun σ10 => (f8_settle_j73 fu y0 x2 σ10)) else (f8_settle_j73 fu y0 x2 σ)

def f8_settle_b21 (fu : Nat) (x1 : Bool) (x2 : Int32) (σ : St) : Option ((Bool × Int32 × St) ⊕ ((Bool × St) ⊕ St)) :=
  if (gi σ 803 0) ≤ x2 then (oinr (some (.inl (x1, σ)))) else (if x1 = true then (oinr (some (.inl (x1, σ)))) else (ar 24 x2 fun j5 => (if (gb σ 811 j5) = true then (ob1 (f8_isBound fu x2 σ) fun v12 => (if v12 = true then (f8_settle_j63 fu x2 false σ) else (ob1 (f8_refused fu x2 σ) fun v16 => (if v16 = 0 then (f8_settle_j63 fu x2 true σ) else (f8_settle_j63 fu x2 false σ))))) else (f8_settle_j63 fu x2 false σ))))

def f8_settle_b13 (fu : Nat) (x1 : Bool) (σ : St) : Option ((Bool × St) ⊕ St) :=
  if x1 = true then (lp (fun s8 => f8_settle_b21 fu s8.1 s8.2.1 s8.2.2) fu (false, 0, σ)) else (oinr (some σ))

def f8_settle_j12 (fu : Nat) (y0 : Bool) (σ : St) : Option St :=
  lp (fun s8 => f8_settle_b13 fu s8.1 s8.2) fu (y0, σ)

def f8_settle (fu : Nat) (σ : St) : Option St :=
  if (gb σ 802 0) = true then (f8_settle_j12 fu false σ) else (f8_settle_j12 fu true σ)

def f8_has (fu : Nat) (a0 : Int32) (a1 : Int32) (σ : St) : Option Bool :=
  if a1 = (-1) then (some false) else (if ((a0 >>> (a1 &&& 31)) &&& 1) = 1 then (some true) else (some false))

def f8_endCalls_j46 (fu : Nat) (x1 : Int32) (x2 : Int32) (x3 : Int32) (σ : St) : Option ((Int32 × Int32 × St) ⊕ (Int32 × St)) :=
  some (.inl (x2, (x3 + 1), σ))

def f8_endCalls_b4 (fu : Nat) (x1 : Int32) (x2 : Int32) (x3 : Int32) (σ : St) : Option ((Int32 × Int32 × St) ⊕ (Int32 × St)) :=
  if (gi σ 834 0) ≤ x3 then (oinr (some (x2, σ))) else (ar 100 x3 fun j2 => (if (gi σ 837 j2) = 0 then (ar 100 x3 fun j5 => (ar 40 (gi σ 835 j5) fun j7 => (if (gi σ 831 j7) = x1 then (ar 100 x3 fun j10 => (f8_endCalls_j46 fu x1 (x2 + 1) x3 (zi σ 837 j10 2))) else (f8_endCalls_j46 fu x1 x2 x3 σ)))) else (f8_endCalls_j46 fu x1 x2 x3 σ)))

def f8_endCalls (fu : Nat) (a1 : Int32) (σ : St) : Option (Int32 × St) :=
  lp (fun s8 => f8_endCalls_b4 fu a1 s8.1 s8.2.1 s8.2.2) fu (0, 0, σ)

def f8_letMaps_j33 (fu : Nat) (x1 : Int32) (x2 : Int32) (y1 : Int32) (y2 : Int32) (σ : St) : Option ((Int32 × St) ⊕ St) :=
  ar 16 y1 fun j7 => (some (.inl ((x2 + 1), (zi σ 839 j7 y2))))

def f8_letMaps_b2 (fu : Nat) (x1 : Int32) (x2 : Int32) (σ : St) : Option ((Int32 × St) ⊕ St) :=
  if 16 ≤ x2 then (oinr (some σ)) else (ar 16 x2 fun j2 => (if (gi σ 839 j2) = x1 then (f8_letMaps_j33 fu x1 x2 x2 (-1) σ) else (ar 16 x2 fun j5 => (f8_letMaps_j33 fu x1 x2 x2 (gi σ 839 j5) σ))))

def f8_letMaps (fu : Nat) (a1 : Int32) (σ : St) : Option St :=
  lp (fun s8 => f8_letMaps_b2 fu a1 s8.1 s8.2) fu (0, σ)

def f8_lastOf_j53 (fu : Nat) (x1 : Int32) (x3 : Int32) (y0 : Int32) (σ : St) : Option ((Int32 × Int32) ⊕ Int32) :=
  some (.inl (y0, (x3 + 1)))

def f8_lastOf_j52 (fu : Nat) (x1 : Int32) (x2 : Int32) (x3 : Int32) (σ : St) : Option ((Int32 × Int32) ⊕ Int32) :=
  f8_lastOf_j53 fu x1 x3 x2 σ

def f8_lastOf_j48 (fu : Nat) (x1 : Int32) (x3 : Int32) (σ : St) : Option ((Int32 × Int32) ⊕ Int32) :=
  f8_lastOf_j53 fu x1 x3 x3 σ

def f8_lastOf_b4 (fu : Nat) (x1 : Int32) (x2 : Int32) (x3 : Int32) (σ : St) : Option ((Int32 × Int32) ⊕ Int32) :=
  if (gi σ 803 0) ≤ x3 then (oinr (some x2)) else (ob1 (f8_has fu x1 x3 σ) fun v2 => (if v2 = true then (ob1 (f8_isBound fu x3 σ) fun v6 => (if v6 = true then (if x2 = (-1) then (f8_lastOf_j48 fu x1 x3 σ) else (ar 24 x3 fun j11 => (ar 24 x2 fun j13 => (if (gi σ 820 j11) ≤ (gi σ 820 j13) then (f8_lastOf_j52 fu x1 x2 x3 σ) else (f8_lastOf_j48 fu x1 x3 σ))))) else (f8_lastOf_j52 fu x1 x2 x3 σ))) else (f8_lastOf_j52 fu x1 x2 x3 σ)))

def f8_lastOf (fu : Nat) (a1 : Int32) (σ : St) : Option Int32 :=
  lp (fun s8 => f8_lastOf_b4 fu a1 s8.1 s8.2 σ) fu ((-1), 0)

def f8_unbindAll_b76 (fu : Nat) (x2 : Int32) (x3 : Int32) (x4 : Int32) (σ : St) : Option ((Int32 × Int32 × St) ⊕ (Int32 × St)) :=
  if x4 = (-1) then (oinr (some (x3, σ))) else (ob2 (f8_endCalls fu x4 σ) fun v6 σ7 => (ob1 (f8_letMaps fu x4 σ7) fun σ10 => (ar 24 x4 fun j12 => (ar 24 x4 fun j14 => (ar 24 x4 fun j16 => (ar 24 x4 fun j18 => (ar 24 x4 fun j20 => (ar 24 x4 fun j22 => (ar 24 x4 fun j24 => (ob1 (f8_event fu 1 x4 (zi (zb (zb (zi (zb (zi σ10 812 j12 (-1)) 813 j14 false) 814 j16 (-1)) 822 j18 false) 817 j20 false) 819 j24 ((gi (zb (zb (zi (zb (zi σ10 812 j12 (-1)) 813 j14 false) 814 j16 (-1)) 822 j18 false) 817 j20 false) 819 j22) + 1))) fun σ27 => (ob1 (f8_lastOf fu x2 σ27) fun v29 => (some (.inl ((x3 + 1), v29, σ27))))))))))))))

def f8_unbindAll_j59 (fu : Nat) (x3 : Int32) (y0 : Int32) (y1 : Int32) (σ : St) : Option ((Int32 × Int32) ⊕ (Int32 × St)) :=
  some (.inl ((y0 ||| y1), (x3 + 1)))

def f8_unbindAll_j52 (fu : Nat) (x3 : Int32) (y0 : Int32) (σ : St) : Option ((Int32 × Int32) ⊕ (Int32 × St)) :=
  f8_unbindAll_j59 fu x3 y0 (1 <<< (x3 &&& 31)) σ

def f8_unbindAll_b4 (fu : Nat) (x2 : Int32) (x3 : Int32) (σ : St) : Option ((Int32 × Int32) ⊕ (Int32 × St)) :=
  if (gi σ 803 0) ≤ x3 then (oinr (ob1 (f8_lastOf fu x2 σ) fun v2 => (lp (fun s8 => f8_unbindAll_b76 fu x2 s8.1 s8.2.1 s8.2.2) fu (0, v2, σ)))) else (ar 24 x3 fun j32 => (ob1 (f8_has fu x2 (gi σ 804 j32) σ) fun v34 => (if v34 = true then (f8_unbindAll_j52 fu x3 x2 σ) else (ar 24 x3 fun j38 => (ob1 (f8_has fu x2 (gi σ 809 j38) σ) fun v40 => (if v40 = true then (f8_unbindAll_j52 fu x3 x2 σ) else (ar 24 x3 fun j44 => (ob1 (f8_has fu x2 (gi σ 810 j44) σ) fun v46 => (if v46 = true then (f8_unbindAll_j52 fu x3 x2 σ) else (f8_unbindAll_j59 fu x3 x2 0 σ))))))))))

def f8_unbindAll (fu : Nat) (a1 : Int32) (σ : St) : Option (Int32 × St) :=
  lp (fun s8 => f8_unbindAll_b4 fu s8.1 s8.2 σ) fu (a1, 0)

def f8_isNeeded (fu : Nat) (a1 : Int32) (σ : St) : Option Bool :=
  if a1 = (-1) then (some true) else (ob1 (f8_isDevice fu a1 σ) fun v2 => (if v2 = true then (ar 24 a1 fun j6 => (if (gb σ 811 j6) = true then (some true) else (some false))) else (some false)))

def f8_plug_j115 (fu : Nat) (x1 : Int32) (x2 : Int32) (x3 : Int32) (x4 : Int32) (x5 : Bool) (x6 : Int32) (x7 : Int32) (y1 : Int32) (σ : St) : Option (Int32 × St) :=
  if (gi (zi σ 800 0 y1) 800 0) = 0 then (ar 24 (gi (zi σ 800 0 y1) 803 0) fun j10 => (ar 24 (gi (zi σ 800 0 y1) 803 0) fun j12 => (ar 24 (gi (zi σ 800 0 y1) 803 0) fun j14 => (ar 24 (gi (zi σ 800 0 y1) 803 0) fun j16 => (ar 24 (gi (zi σ 800 0 y1) 803 0) fun j18 => (ar 24 (gi (zi σ 800 0 y1) 803 0) fun j20 => (ar 24 (gi (zi σ 800 0 y1) 803 0) fun j22 => (ar 24 (gi (zi σ 800 0 y1) 803 0) fun j24 => (ob1 (f8_settle fu (zb (zi (zi (zb (zi (zi (zi (zi (zi (zi σ 800 0 y1) 803 0 ((gi (zi σ 800 0 y1) 803 0) + 1)) 804 j10 x1) 805 j12 x2) 806 j14 x3) 807 j16 x4) 808 j18 x5) 809 j20 x6) 810 j22 x7) 811 j24 true)) fun σ27 => (some ((gi (zi σ 800 0 y1) 803 0), σ27))))))))))) else (some (0, (zi σ 800 0 y1)))

def f8_plug_j59 (fu : Nat) (x1 : Int32) (x2 : Int32) (x3 : Int32) (x4 : Int32) (x5 : Bool) (x6 : Int32) (x7 : Int32) (y0 : Bool) (σ : St) : Option (Int32 × St) :=
  ob1 (f8_isNeeded fu x1 σ) fun v5 => (if v5 = true then (ob1 (f8_isNeeded fu x6 σ) fun v29 => (if v29 = true then (ob1 (f8_isNeeded fu x7 σ) fun v33 => (if v33 = true then (if y0 = true then (if (gi σ 803 0) = 24 then (f8_plug_j115 fu x1 x2 x3 x4 x5 x6 x7 3 σ) else (f8_plug_j115 fu x1 x2 x3 x4 x5 x6 x7 0 σ)) else (f8_plug_j115 fu x1 x2 x3 x4 x5 x6 x7 2 σ)) else (f8_plug_j115 fu x1 x2 x3 x4 x5 x6 x7 1 σ))) else (f8_plug_j115 fu x1 x2 x3 x4 x5 x6 x7 1 σ))) else (f8_plug_j115 fu x1 x2 x3 x4 x5 x6 x7 1 σ))

def f8_plug_j30 (fu : Nat) (x1 : Int32) (x2 : Int32) (x3 : Int32) (x4 : Int32) (x5 : Bool) (x6 : Int32) (x7 : Int32) (σ : St) : Option (Int32 × St) :=
  ob1 (f8_in fu x4 (-1) 7 σ) fun v43 => (if v43 = true then (if x6 = (-1) then (f8_plug_j59 fu x1 x2 x3 x4 x5 x6 x7 true σ) else (if x6 = x7 then (f8_plug_j59 fu x1 x2 x3 x4 x5 x6 x7 false σ) else (f8_plug_j59 fu x1 x2 x3 x4 x5 x6 x7 true σ))) else (f8_plug_j59 fu x1 x2 x3 x4 x5 x6 x7 false σ))

def f8_plug (fu : Nat) (a1 : Int32) (a2 : Int32) (a3 : Int32) (a4 : Int32) (a5 : Bool) (a6 : Int32) (a7 : Int32) (σ : St) : Option (Int32 × St) :=
  ob1 (f8_in fu a2 0 31 σ) fun v1 => (if v1 = true then (ob1 (f8_in fu a3 0 2 σ) fun v39 => (if v39 = true then (f8_plug_j30 fu a1 a2 a3 a4 a5 a6 a7 σ) else (if a3 = 4 then (f8_plug_j30 fu a1 a2 a3 a4 a5 a6 a7 σ) else (if a3 = 8 then (f8_plug_j30 fu a1 a2 a3 a4 a5 a6 a7 σ) else (f8_plug_j59 fu a1 a2 a3 a4 a5 a6 a7 false σ))))) else (f8_plug_j59 fu a1 a2 a3 a4 a5 a6 a7 false σ))

def f8_unplug_j149 (fu : Nat) (x2 : Int32) (x3 : Int32) (x4 : Int32) (σ : St) : Option ((Int32 × Int32 × St) ⊕ (Int32 × St)) :=
  some (.inl (x3, (x4 + (-1)), σ))

def f8_unplug_b109 (fu : Nat) (x2 : Int32) (x3 : Int32) (x4 : Int32) (σ : St) : Option ((Int32 × Int32 × St) ⊕ (Int32 × St)) :=
  if x4 < 0 then (oinr (ob1 (f8_settle fu σ) fun σ15 => (some (x3, σ15)))) else (ob1 (f8_has fu x2 x4 σ) fun v17 => (if v17 = true then (ar 24 x4 fun j21 => (ar 24 x4 fun j23 => (ob1 (f8_event fu 2 x4 (zb (zb σ 811 j21 false) 817 j23 false)) fun σ26 => (f8_unplug_j149 fu x2 (x3 + 1) x4 σ26)))) else (f8_unplug_j149 fu x2 x3 x4 σ)))

def f8_unplug_j85 (fu : Nat) (x3 : Int32) (y0 : Int32) (y1 : Int32) (σ : St) : Option ((Int32 × Int32) ⊕ (Int32 × St)) :=
  some (.inl ((y0 ||| y1), (x3 + 1)))

def f8_unplug_b47 (fu : Nat) (x2 : Int32) (x3 : Int32) (σ : St) : Option ((Int32 × Int32) ⊕ (Int32 × St)) :=
  if (gi σ 803 0) ≤ x3 then (oinr (ob2 (f8_unbindAll fu x2 σ) fun v10 σ11 => (lp (fun s8 => f8_unplug_b109 fu x2 s8.1 s8.2.1 s8.2.2) fu (0, ((gi σ11 803 0) - 1), σ11)))) else (ar 24 x3 fun j28 => (if (gb σ 811 j28) = true then (ar 24 x3 fun j31 => (ob1 (f8_has fu x2 (gi σ 804 j31) σ) fun v33 => (if v33 = true then (f8_unplug_j85 fu x3 x2 (1 <<< (x3 &&& 31)) σ) else (f8_unplug_j85 fu x3 x2 0 σ)))) else (f8_unplug_j85 fu x3 x2 0 σ)))

def f8_unplug_j27 (fu : Nat) (x1 : Int32) (y1 : Int32) (σ : St) : Option (Int32 × St) :=
  if (gi (zi σ 800 0 y1) 800 0) = 0 then (lp (fun s8 => f8_unplug_b47 fu s8.1 s8.2 (zi σ 800 0 y1)) fu ((1 <<< (x1 &&& 31)), (x1 + 1))) else (some (0, (zi σ 800 0 y1)))

def f8_unplug (fu : Nat) (a1 : Int32) (σ : St) : Option (Int32 × St) :=
  ob1 (f8_isDevice fu a1 σ) fun v1 => (if v1 = true then (ar 24 a1 fun j5 => (if (gb σ 811 j5) = true then (f8_unplug_j27 fu a1 0 σ) else (f8_unplug_j27 fu a1 2 σ))) else (f8_unplug_j27 fu a1 1 σ))

def f8_driver_j39 (fu : Nat) (x1 : Int32) (x2 : Int32) (x3 : Int32) (x4 : Bool) (y1 : Int32) (σ : St) : Option (Int32 × St) :=
  if (gi (zi σ 800 0 y1) 800 0) = 0 then (ar 8 (gi (zi σ 800 0 y1) 824 0) fun j6 => (ar 8 (gi (zi σ 800 0 y1) 824 0) fun j8 => (ar 8 (gi (zi σ 800 0 y1) 824 0) fun j10 => (ar 8 (gi (zi σ 800 0 y1) 824 0) fun j12 => (ob1 (f8_settle fu (zb (zi (zi (zi (zi (zi σ 800 0 y1) 824 0 ((gi (zi σ 800 0 y1) 824 0) + 1)) 825 j6 x1) 826 j8 x2) 827 j10 x3) 828 j12 x4)) fun σ15 => (some ((gi (zi σ 800 0 y1) 824 0), σ15))))))) else (some (0, (zi σ 800 0 y1)))

def f8_driver (fu : Nat) (a1 : Int32) (a2 : Int32) (a3 : Int32) (a4 : Bool) (σ : St) : Option (Int32 × St) :=
  ob1 (f8_in fu a2 0 9 σ) fun v1 => (if v1 = true then (ob1 (f8_in fu a3 0 9 σ) fun v17 => (if v17 = true then (if (gi σ 824 0) = 8 then (f8_driver_j39 fu a1 a2 a3 a4 2 σ) else (f8_driver_j39 fu a1 a2 a3 a4 0 σ)) else (f8_driver_j39 fu a1 a2 a3 a4 1 σ))) else (f8_driver_j39 fu a1 a2 a3 a4 1 σ))

def f8_load_j34 (fu : Nat) (x1 : Int32) (x2 : Int32) (y1 : Int32) (σ : St) : Option (Int32 × St) :=
  if (gi (zi σ 800 0 y1) 800 0) = 0 then (ar 8 x1 fun j10 => (ar 8 x1 fun j12 => (ob1 (f8_settle fu (zi (zi σ 800 0 y1) 829 j12 x2)) fun σ15 => (some ((gi (zi σ 800 0 y1) 829 j10), σ15))))) else (some (0, (zi σ 800 0 y1)))

def f8_load (fu : Nat) (a1 : Int32) (a2 : Int32) (σ : St) : Option (Int32 × St) :=
  ob1 (f8_in fu a1 0 ((gi σ 824 0) - 1) σ) fun v1 => (if v1 = true then (ob1 (f8_in fu a2 0 9 σ) fun v5 => (if v5 = true then (f8_load_j34 fu a1 a2 0 σ) else (f8_load_j34 fu a1 a2 2 σ))) else (f8_load_j34 fu a1 a2 1 σ))

def f8_unbind_j26 (fu : Nat) (x1 : Int32) (y1 : Int32) (σ : St) : Option (Int32 × St) :=
  if (gi (zi σ 800 0 y1) 800 0) = 0 then (ob2 (f8_unbindAll fu (1 <<< (x1 &&& 31)) (zi σ 800 0 y1)) fun v10 σ11 => (ar 24 x1 fun j13 => (ob1 (f8_settle fu (zb σ11 818 j13 true)) fun σ16 => (some (v10, σ16))))) else (some (0, (zi σ 800 0 y1)))

def f8_unbind (fu : Nat) (a1 : Int32) (σ : St) : Option (Int32 × St) :=
  ob1 (f8_isDevice fu a1 σ) fun v1 => (if v1 = true then (ob1 (f8_isBound fu a1 σ) fun v5 => (if v5 = true then (f8_unbind_j26 fu a1 0 σ) else (f8_unbind_j26 fu a1 2 σ))) else (f8_unbind_j26 fu a1 1 σ))

def f8_bind_j36 (fu : Nat) (x1 : Int32) (y1 : Int32) (σ : St) : Option (Int32 × St) :=
  if (gi (zi σ 800 0 y1) 800 0) = 0 then (ar 24 x1 fun j9 => (ob1 (f8_refused fu x1 (zb (zi σ 800 0 y1) 818 j9 false)) fun v11 => (ob1 (f8_settle fu (zb (zi σ 800 0 y1) 818 j9 false)) fun σ15 => (some (v11, σ15))))) else (some (0, (zi σ 800 0 y1)))

def f8_bind (fu : Nat) (a1 : Int32) (σ : St) : Option (Int32 × St) :=
  ob1 (f8_isDevice fu a1 σ) fun v1 => (if v1 = true then (ar 24 a1 fun j5 => (if (gb σ 818 j5) = true then (ar 24 a1 fun j17 => (if (gb σ 811 j17) = true then (f8_bind_j36 fu a1 0 σ) else (f8_bind_j36 fu a1 2 σ))) else (f8_bind_j36 fu a1 2 σ))) else (f8_bind_j36 fu a1 1 σ))

def f8_reset_j33 (fu : Nat) (x1 : Int32) (y1 : Int32) (σ : St) : Option (Int32 × St) :=
  if (gi (zi σ 800 0 y1) 800 0) = 0 then (ob2 (f8_endCalls fu x1 (zi σ 800 0 y1)) fun v10 σ11 => (ob1 (f8_letMaps fu x1 σ11) fun σ14 => (ar 24 x1 fun j16 => (ar 24 x1 fun j18 => (ar 24 x1 fun j20 => (ob1 (f8_settle fu (zb (zi (zi σ14 815 j16 0) 816 j18 0) 817 j20 false)) fun σ23 => (some (v10, σ23)))))))) else (some (0, (zi σ 800 0 y1)))

def f8_reset (fu : Nat) (a1 : Int32) (σ : St) : Option (Int32 × St) :=
  ob1 (f8_isDevice fu a1 σ) fun v1 => (if v1 = true then (ob1 (f8_isBound fu a1 σ) fun v5 => (if v5 = true then (if (gb σ 802 0) = true then (f8_reset_j33 fu a1 2 σ) else (f8_reset_j33 fu a1 0 σ)) else (f8_reset_j33 fu a1 2 σ))) else (f8_reset_j33 fu a1 1 σ))

def f8_isHandle (fu : Nat) (a1 : Int32) (σ : St) : Option Bool :=
  ob1 (f8_in fu a1 0 ((gi σ 830 0) - 1) σ) fun v1 => (some v1)

def f8_isDead (fu : Nat) (a1 : Int32) (σ : St) : Option Bool :=
  ar 40 a1 fun j1 => (ar 24 (gi σ 831 j1) fun j3 => (ar 40 a1 fun j5 => (if (gi σ 819 j3) = (gi σ 832 j5) then (some false) else (some true))))

def f8_isUsable (fu : Nat) (a1 : Int32) (σ : St) : Option Bool :=
  ar 40 a1 fun j1 => (if (gb σ 833 j1) = true then (some false) else (ob1 (f8_isDead fu a1 σ) fun v4 => (if v4 = true then (some false) else (some true))))

def f8_open_j42 (fu : Nat) (x1 : Int32) (y1 : Int32) (σ : St) : Option (Int32 × St) :=
  if (gi (zi σ 800 0 y1) 800 0) = 0 then (ar 40 (gi (zi σ 800 0 y1) 830 0) fun j10 => (ar 24 x1 fun j12 => (ar 40 (gi (zi (zi σ 800 0 y1) 831 j10 x1) 830 0) fun j14 => (ob1 (f8_settle fu (zi (zi (zi (zi σ 800 0 y1) 831 j10 x1) 832 j14 (gi (zi (zi σ 800 0 y1) 831 j10 x1) 819 j12)) 830 0 ((gi (zi (zi (zi σ 800 0 y1) 831 j10 x1) 832 j14 (gi (zi (zi σ 800 0 y1) 831 j10 x1) 819 j12)) 830 0) + 1))) fun σ17 => (some (((gi σ17 830 0) - 1), σ17)))))) else (some (0, (zi σ 800 0 y1)))

def f8_open (fu : Nat) (a1 : Int32) (σ : St) : Option (Int32 × St) :=
  ob1 (f8_isDevice fu a1 σ) fun v1 => (if v1 = true then (ob1 (f8_isBound fu a1 σ) fun v5 => (if v5 = true then (if (gb σ 802 0) = true then (f8_open_j42 fu a1 2 σ) else (if (gi σ 830 0) = 40 then (f8_open_j42 fu a1 2 σ) else (f8_open_j42 fu a1 0 σ))) else (f8_open_j42 fu a1 2 σ))) else (f8_open_j42 fu a1 1 σ))

def f8_close_j96 (fu : Nat) (x1 : Int32) (x2 : Bool) (x3 : Int32) (y1 : Int32) (y2 : Int32) (σ : St) : Option ((Int32 × St) ⊕ (Bool × St)) :=
  ar 100 y1 fun j23 => (some (.inl ((x3 + 1), (zi σ 837 j23 y2))))

def f8_close_j90 (fu : Nat) (x1 : Int32) (x2 : Bool) (x3 : Int32) (y1 : Int32) (σ : St) : Option ((Int32 × St) ⊕ (Bool × St)) :=
  ar 100 x3 fun j21 => (f8_close_j96 fu x1 x2 x3 y1 (gi σ 837 j21) σ)

def f8_close_b54 (fu : Nat) (x1 : Int32) (x2 : Bool) (x3 : Int32) (σ : St) : Option ((Int32 × St) ⊕ (Bool × St)) :=
  if (gi σ 834 0) ≤ x3 then (oinr (ob1 (f8_settle fu σ) fun σ16 => (some (x2, σ16)))) else (ar 100 x3 fun j18 => (if (gi σ 837 j18) = 0 then (ar 100 x3 fun j25 => (if (gi σ 835 j25) = x1 then (f8_close_j96 fu x1 x2 x3 x3 2 σ) else (f8_close_j90 fu x1 x2 x3 x3 σ))) else (f8_close_j90 fu x1 x2 x3 x3 σ)))

def f8_close_j27 (fu : Nat) (x1 : Int32) (y1 : Int32) (σ : St) : Option (Bool × St) :=
  if (gi (zi σ 800 0 y1) 800 0) = 0 then (ob1 (f8_isDead fu x1 (zi σ 800 0 y1)) fun v9 => (ar 40 x1 fun j12 => (lp (fun s8 => f8_close_b54 fu x1 v9 s8.1 s8.2) fu (0, (zb (zi σ 800 0 y1) 833 j12 true))))) else (some (false, (zi σ 800 0 y1)))

def f8_close (fu : Nat) (a1 : Int32) (σ : St) : Option (Bool × St) :=
  ob1 (f8_isHandle fu a1 σ) fun v1 => (if v1 = true then (ar 40 a1 fun j5 => (if (gb σ 833 j5) = true then (f8_close_j27 fu a1 2 σ) else (f8_close_j27 fu a1 0 σ))) else (f8_close_j27 fu a1 1 σ))

def f8_touch (fu : Nat) (a1 : Int32) (σ : St) : Option St :=
  ob1 (f8_wake fu a1 σ) fun σ2 => (ar 24 a1 fun j4 => (some (zi σ2 821 j4 (gi σ2 801 0))))

def f8_call_j56 (fu : Nat) (x1 : Int32) (x2 : Int32) (y1 : Int32) (σ : St) : Option (Int32 × St) :=
  if (gi (zi σ 800 0 y1) 800 0) = 0 then (ar 40 x1 fun j14 => (ob1 (f8_touch fu (gi (zi σ 800 0 y1) 831 j14) (zi σ 800 0 y1)) fun σ17 => (ar 100 (gi σ17 834 0) fun j19 => (ar 100 (gi (zi σ17 835 j19 x1) 834 0) fun j21 => (ar 100 (gi (zi (zi σ17 835 j19 x1) 836 j21 ((gi (zi σ17 835 j19 x1) 801 0) + x2)) 834 0) fun j23 => (ob1 (f8_settle fu (zi (zi (zi (zi σ17 835 j19 x1) 836 j21 ((gi (zi σ17 835 j19 x1) 801 0) + x2)) 837 j23 0) 834 0 ((gi (zi (zi (zi σ17 835 j19 x1) 836 j21 ((gi (zi σ17 835 j19 x1) 801 0) + x2)) 837 j23 0) 834 0) + 1))) fun σ26 => (some (((gi σ26 834 0) - 1), σ26)))))))) else (some (0, (zi σ 800 0 y1)))

def f8_call (fu : Nat) (a1 : Int32) (a2 : Int32) (σ : St) : Option (Int32 × St) :=
  ob1 (f8_isHandle fu a1 σ) fun v1 => (if v1 = true then (ob1 (f8_in fu a2 1 20 σ) fun v5 => (if v5 = true then (ob1 (f8_isUsable fu a1 σ) fun v9 => (if v9 = true then (if (gb σ 802 0) = true then (f8_call_j56 fu a1 a2 3 σ) else (if (gi σ 834 0) = 100 then (f8_call_j56 fu a1 a2 3 σ) else (f8_call_j56 fu a1 a2 0 σ))) else (f8_call_j56 fu a1 a2 3 σ))) else (f8_call_j56 fu a1 a2 2 σ))) else (f8_call_j56 fu a1 a2 1 σ))

def f8_set_j47 (fu : Nat) (x1 : Int32) (x2 : Int32) (y1 : Int32) (σ : St) : Option (Int32 × St) :=
  if (gi (zi σ 800 0 y1) 800 0) = 0 then (ar 40 x1 fun j14 => (ob1 (f8_touch fu (gi (zi σ 800 0 y1) 831 j14) (zi σ 800 0 y1)) fun σ17 => (ar 24 (gi (zi σ 800 0 y1) 831 j14) fun j19 => (ar 24 (gi (zi σ 800 0 y1) 831 j14) fun j21 => (ob1 (f8_settle fu (zi σ17 815 j21 x2)) fun σ24 => (some ((gi σ17 815 j19), σ24))))))) else (some (0, (zi σ 800 0 y1)))

def f8_set (fu : Nat) (a1 : Int32) (a2 : Int32) (σ : St) : Option (Int32 × St) :=
  ob1 (f8_isHandle fu a1 σ) fun v1 => (if v1 = true then (ob1 (f8_in fu a2 0 99 σ) fun v5 => (if v5 = true then (ob1 (f8_isUsable fu a1 σ) fun v9 => (if v9 = true then (if (gb σ 802 0) = true then (f8_set_j47 fu a1 a2 3 σ) else (f8_set_j47 fu a1 a2 0 σ)) else (f8_set_j47 fu a1 a2 3 σ))) else (f8_set_j47 fu a1 a2 2 σ))) else (f8_set_j47 fu a1 a2 1 σ))

def f8_get_j33 (fu : Nat) (x1 : Int32) (y1 : Int32) (σ : St) : Option (Int32 × St) :=
  if (gi (zi σ 800 0 y1) 800 0) = 0 then (ar 40 x1 fun j10 => (ob1 (f8_touch fu (gi (zi σ 800 0 y1) 831 j10) (zi σ 800 0 y1)) fun σ13 => (ob1 (f8_settle fu σ13) fun σ16 => (ar 40 x1 fun j18 => (ar 24 (gi σ16 831 j18) fun j20 => (some ((gi σ16 815 j20), σ16))))))) else (some (0, (zi σ 800 0 y1)))

def f8_get (fu : Nat) (a1 : Int32) (σ : St) : Option (Int32 × St) :=
  ob1 (f8_isHandle fu a1 σ) fun v1 => (if v1 = true then (ob1 (f8_isUsable fu a1 σ) fun v5 => (if v5 = true then (if (gb σ 802 0) = true then (f8_get_j33 fu a1 2 σ) else (f8_get_j33 fu a1 0 σ)) else (f8_get_j33 fu a1 2 σ))) else (f8_get_j33 fu a1 1 σ))

def f8_map_j77 (fu : Nat) (x1 : Int32) (x2 : Int32) (x3 : Int32) (y1 : Int32) (σ : St) : Option (Int32 × St) :=
  if (gi (zi σ 800 0 y1) 800 0) = 0 then (ar 40 x1 fun j15 => (ar 16 x3 fun j17 => (ar 16 x3 fun j19 => (ob1 (f8_settle fu (zi (zi (zi σ 800 0 y1) 839 j17 (gi (zi σ 800 0 y1) 831 j15)) 840 j19 x2)) fun σ22 => (some (x3, σ22)))))) else (some (0, (zi σ 800 0 y1)))

def f8_map_j24 (fu : Nat) (x1 : Int32) (x2 : Int32) (x3 : Int32) (σ : St) : Option (Int32 × St) :=
  ob1 (f8_isHandle fu x1 σ) fun v2 => (if v2 = true then (ob1 (f8_in fu x2 0 31 σ) fun v6 => (if v6 = true then (ob1 (f8_isUsable fu x1 σ) fun v10 => (if v10 = true then (if (gb σ 802 0) = true then (f8_map_j77 fu x1 x2 x3 3 σ) else (if x3 = 16 then (f8_map_j77 fu x1 x2 x3 3 σ) else (f8_map_j77 fu x1 x2 x3 0 σ))) else (f8_map_j77 fu x1 x2 x3 3 σ))) else (f8_map_j77 fu x1 x2 x3 2 σ))) else (f8_map_j77 fu x1 x2 x3 1 σ))

def f8_map_b2 (fu : Nat) (x1 : Int32) (x2 : Int32) (x3 : Int32) (σ : St) : Option (Int32 ⊕ (Int32 × St)) :=
  if 16 ≤ x3 then (oinr (f8_map_j24 fu x1 x2 x3 σ)) else (ar 16 x3 fun j26 => (if (gi σ 839 j26) = (-1) then (oinr (f8_map_j24 fu x1 x2 x3 σ)) else (some (.inl (x3 + 1)))))

def f8_map (fu : Nat) (a1 : Int32) (a2 : Int32) (σ : St) : Option (Int32 × St) :=
  lp (fun s8 => f8_map_b2 fu a1 a2 s8 σ) fu 0

def f8_unmap_j51 (fu : Nat) (x2 : Int32) (y1 : Int32) (σ : St) : Option (Int32 × St) :=
  if (gi (zi σ 800 0 y1) 800 0) = 0 then (ar 16 x2 fun j6 => (ob1 (f8_settle fu (zi (zi σ 800 0 y1) 839 j6 (-1))) fun σ9 => (ar 16 x2 fun j11 => (some ((gi σ9 840 j11), σ9))))) else (some (0, (zi σ 800 0 y1)))

def f8_unmap (fu : Nat) (a1 : Int32) (a2 : Int32) (σ : St) : Option (Int32 × St) :=
  ob1 (f8_isHandle fu a1 σ) fun v1 => (if v1 = true then (ob1 (f8_in fu a2 0 15 σ) fun v13 => (if v13 = true then (ob1 (f8_isUsable fu a1 σ) fun v17 => (if v17 = true then (ar 16 a2 fun j21 => (ar 40 a1 fun j23 => (if (gi σ 839 j21) = (gi σ 831 j23) then (f8_unmap_j51 fu a2 0 σ) else (f8_unmap_j51 fu a2 2 σ)))) else (f8_unmap_j51 fu a2 2 σ))) else (f8_unmap_j51 fu a2 1 σ))) else (f8_unmap_j51 fu a2 1 σ))

def f8_access_j88 (fu : Nat) (x2 : Int32) (x3 : Bool) (y1 : Int32) (y2 : Bool) (σ : St) : Option (Int32 × St) :=
  ob1 (f8_settle fu (zi σ 841 0 (y1 + (b2i y2)))) fun σ11 => (if x3 = true then (ar 16 x2 fun j14 => (some ((gi σ11 840 j14), σ11))) else (some ((-1), σ11)))

def f8_access_j73 (fu : Nat) (x2 : Int32) (y0 : Bool) (σ : St) : Option (Int32 × St) :=
  if y0 = true then (f8_access_j88 fu x2 y0 (gi σ 841 0) false σ) else (f8_access_j88 fu x2 y0 (gi σ 841 0) true σ)

def f8_access_j37 (fu : Nat) (x1 : Int32) (x2 : Int32) (y1 : Int32) (σ : St) : Option (Int32 × St) :=
  if (gi (zi σ 800 0 y1) 800 0) = 0 then (ar 24 x1 fun j6 => (if (gb (zi σ 800 0 y1) 813 j6) = true then (ar 16 x2 fun j16 => (if (gi (zi σ 800 0 y1) 839 j16) = x1 then (f8_access_j73 fu x2 true (zi σ 800 0 y1)) else (f8_access_j73 fu x2 false (zi σ 800 0 y1)))) else (f8_access_j73 fu x2 false (zi σ 800 0 y1)))) else (some (0, (zi σ 800 0 y1)))

def f8_access (fu : Nat) (a1 : Int32) (a2 : Int32) (σ : St) : Option (Int32 × St) :=
  ob1 (f8_isDevice fu a1 σ) fun v1 => (if v1 = true then (ob1 (f8_in fu a2 0 15 σ) fun v19 => (if v19 = true then (ar 24 a1 fun j23 => (if (gb σ 811 j23) = true then (f8_access_j37 fu a1 a2 0 σ) else (f8_access_j37 fu a1 a2 2 σ))) else (f8_access_j37 fu a1 a2 1 σ))) else (f8_access_j37 fu a1 a2 1 σ))

def f8_hasCall_j45 (fu : Nat) (x1 : Int32) (x3 : Int32) (y0 : Bool) (σ : St) : Option ((Bool × Int32) ⊕ Bool) :=
  some (.inl (y0, (x3 + 1)))

def f8_hasCall_b4 (fu : Nat) (x1 : Int32) (x2 : Bool) (x3 : Int32) (σ : St) : Option ((Bool × Int32) ⊕ Bool) :=
  if (gi σ 834 0) ≤ x3 then (oinr (some x2)) else (if x2 = true then (f8_hasCall_j45 fu x1 x3 true σ) else (ar 100 x3 fun j3 => (if (gi σ 837 j3) = 0 then (ar 100 x3 fun j6 => (ar 40 (gi σ 835 j6) fun j8 => (if (gi σ 831 j8) = x1 then (f8_hasCall_j45 fu x1 x3 true σ) else (f8_hasCall_j45 fu x1 x3 false σ)))) else (f8_hasCall_j45 fu x1 x3 false σ))))

def f8_hasCall (fu : Nat) (a1 : Int32) (σ : St) : Option Bool :=
  lp (fun s8 => f8_hasCall_b4 fu a1 s8.1 s8.2 σ) fu (false, 0)

def f8_isHeld_j66 (fu : Nat) (x1 : Int32) (x3 : Int32) (y0 : Bool) (σ : St) : Option ((Bool × Int32) ⊕ Bool) :=
  some (.inl (y0, (x3 + 1)))

def f8_isHeld_b10 (fu : Nat) (x1 : Int32) (x2 : Bool) (x3 : Int32) (σ : St) : Option ((Bool × Int32) ⊕ Bool) :=
  if (gi σ 803 0) ≤ x3 then (oinr (some x2)) else (if x2 = true then (f8_isHeld_j66 fu x1 x3 true σ) else (ar 24 x3 fun j6 => (if (gb σ 813 j6) = true then (ar 24 x3 fun j9 => (if (gi σ 804 j9) = x1 then (f8_isHeld_j66 fu x1 x3 true σ) else (ar 24 x3 fun j12 => (if (gi σ 809 j12) = x1 then (f8_isHeld_j66 fu x1 x3 true σ) else (ar 24 x3 fun j15 => (if (gi σ 810 j15) = x1 then (f8_isHeld_j66 fu x1 x3 true σ) else (f8_isHeld_j66 fu x1 x3 false σ))))))) else (f8_isHeld_j66 fu x1 x3 false σ))))

def f8_isHeld (fu : Nat) (a1 : Int32) (σ : St) : Option Bool :=
  ob1 (f8_hasCall fu a1 σ) fun v1 => (lp (fun s8 => f8_isHeld_b10 fu a1 s8.1 s8.2 σ) fu (v1, (a1 + 1)))

def f8_tick_b158 (fu : Nat) (x1 : Int32) (x2 : Int32) (σ : St) : Option ((Int32 × Int32 × St) ⊕ St) :=
  if x2 = (-1) then (oinr (some σ)) else (ob1 (f8_fallsAsleep fu x2 σ) fun σ8 => (ob1 (f8_lastOf fu (x1 &&& ((1 <<< (x2 &&& 31)) ^^^ (-1))) σ8) fun v10 => (some (.inl ((x1 &&& ((1 <<< (x2 &&& 31)) ^^^ (-1))), v10, σ8)))))

def f8_tick_j144 (fu : Nat) (x2 : Int32) (y0 : Int32) (y1 : Int32) (σ : St) : Option ((Int32 × Int32 × St) ⊕ St) :=
  some (.inl ((y0 ||| y1), (x2 + 1), σ))

def f8_tick_j111 (fu : Nat) (x1 : Int32) (x2 : Int32) (y1 : Int32) (y2 : Int32) (σ : St) : Option ((Int32 × Int32 × St) ⊕ St) :=
  ar 24 y1 fun j18 => (ar 24 x2 fun j20 => (if (gb (zi σ 821 j18 y2) 813 j20) = true then (ar 24 x2 fun j23 => (if ((gi (zi σ 821 j18 y2) 801 0) - (gi (zi σ 821 j18 y2) 821 j23)) < 5 then (f8_tick_j144 fu x2 x1 0 (zi σ 821 j18 y2)) else (f8_tick_j144 fu x2 x1 (1 <<< (x2 &&& 31)) (zi σ 821 j18 y2)))) else (f8_tick_j144 fu x2 x1 0 (zi σ 821 j18 y2))))

def f8_tick_j105 (fu : Nat) (x1 : Int32) (x2 : Int32) (y1 : Int32) (σ : St) : Option ((Int32 × Int32 × St) ⊕ St) :=
  ar 24 x2 fun j16 => (f8_tick_j111 fu x1 x2 y1 (gi σ 821 j16) σ)

def f8_tick_b68 (fu : Nat) (x1 : Int32) (x2 : Int32) (σ : St) : Option ((Int32 × Int32 × St) ⊕ St) :=
  if (gi σ 803 0) ≤ x2 then (oinr (ob1 (f8_lastOf fu x1 σ) fun v3 => (lp (fun s8 => f8_tick_b158 fu s8.1 s8.2.1 s8.2.2) fu (x1, v3, σ)))) else (ar 24 x2 fun j13 => (if (gb σ 813 j13) = true then (ob1 (f8_isHeld fu x2 σ) fun v26 => (if v26 = true then (f8_tick_j111 fu x1 x2 x2 (gi σ 801 0) σ) else (f8_tick_j105 fu x1 x2 x2 σ))) else (f8_tick_j105 fu x1 x2 x2 σ)))

def f8_tick_j57 (fu : Nat) (x1 : Int32) (y1 : Int32) (y2 : Int32) (σ : St) : Option ((Int32 × St) ⊕ St) :=
  ar 100 y1 fun j35 => (some (.inl ((x1 + 1), (zi σ 837 j35 y2))))

def f8_tick_j51 (fu : Nat) (x1 : Int32) (y1 : Int32) (σ : St) : Option ((Int32 × St) ⊕ St) :=
  ar 100 x1 fun j33 => (f8_tick_j57 fu x1 y1 (gi σ 837 j33) σ)

def f8_tick_b12 (fu : Nat) (x1 : Int32) (σ : St) : Option ((Int32 × St) ⊕ St) :=
  if (gi σ 834 0) ≤ x1 then (oinr (lp (fun s8 => f8_tick_b68 fu s8.1 s8.2.1 s8.2.2) fu (0, 0, σ))) else (ar 100 x1 fun j30 => (if (gi σ 837 j30) = 0 then (ar 100 x1 fun j37 => (if (gi σ 836 j37) = (gi σ 801 0) then (f8_tick_j57 fu x1 x1 1 σ) else (f8_tick_j51 fu x1 x1 σ))) else (f8_tick_j51 fu x1 x1 σ)))

def f8_tick (fu : Nat) (σ : St) : Option St :=
  lp (fun s8 => f8_tick_b12 fu s8.1 s8.2) fu (0, (zi σ 801 0 ((gi σ 801 0) + 1)))

def f8_pass_b41 (fu : Nat) (x1 : Int32) (x2 : Int32) (σ : St) : Option ((Int32 × St) ⊕ (Int32 × St)) :=
  if x1 ≤ x2 then (oinr (ob1 (f8_settle fu σ) fun σ9 => (some ((gi σ9 801 0), σ9)))) else (ob1 (f8_tick fu σ) fun σ12 => (some (.inl ((x2 + 1), σ12))))

def f8_pass_j27 (fu : Nat) (x1 : Int32) (y1 : Int32) (σ : St) : Option (Int32 × St) :=
  if (gi (zi σ 800 0 y1) 800 0) = 0 then (lp (fun s8 => f8_pass_b41 fu x1 s8.1 s8.2) fu (0, (zi σ 800 0 y1))) else (some (0, (zi σ 800 0 y1)))

def f8_pass (fu : Nat) (a1 : Int32) (σ : St) : Option (Int32 × St) :=
  ob1 (f8_in fu a1 1 50 σ) fun v1 => (if v1 = true then (if (gb σ 802 0) = true then (f8_pass_j27 fu a1 2 σ) else (f8_pass_j27 fu a1 0 σ)) else (f8_pass_j27 fu a1 1 σ))

def f8_allOn_j29 (fu : Nat) (x2 : Int32) (y0 : Int32) (y1 : Int32) (σ : St) : Option ((Int32 × Int32) ⊕ Int32) :=
  some (.inl ((y0 ||| y1), (x2 + 1)))

def f8_allOn_b4 (fu : Nat) (x1 : Int32) (x2 : Int32) (σ : St) : Option ((Int32 × Int32) ⊕ Int32) :=
  if (gi σ 803 0) ≤ x2 then (oinr (some x1)) else (ar 24 x2 fun j2 => (if (gb σ 813 j2) = true then (f8_allOn_j29 fu x2 x1 (1 <<< (x2 &&& 31)) σ) else (f8_allOn_j29 fu x2 x1 0 σ)))

def f8_allOn (fu : Nat) (σ : St) : Option Int32 :=
  lp (fun s8 => f8_allOn_b4 fu s8.1 s8.2 σ) fu (0, 0)

def f8_firstSlept_j46 (fu : Nat) (x2 : Int32) (y0 : Int32) (σ : St) : Option ((Int32 × Int32) ⊕ Int32) :=
  some (.inl (y0, (x2 + 1)))

def f8_firstSlept_j45 (fu : Nat) (x1 : Int32) (x2 : Int32) (σ : St) : Option ((Int32 × Int32) ⊕ Int32) :=
  f8_firstSlept_j46 fu x2 x1 σ

def f8_firstSlept_j41 (fu : Nat) (x2 : Int32) (σ : St) : Option ((Int32 × Int32) ⊕ Int32) :=
  f8_firstSlept_j46 fu x2 x2 σ

def f8_firstSlept_b4 (fu : Nat) (x1 : Int32) (x2 : Int32) (σ : St) : Option ((Int32 × Int32) ⊕ Int32) :=
  if (gi σ 803 0) ≤ x2 then (oinr (some x1)) else (ar 24 x2 fun j2 => (if (gb σ 822 j2) = true then (if x1 = (-1) then (f8_firstSlept_j41 fu x2 σ) else (ar 24 x2 fun j6 => (ar 24 x1 fun j8 => (if (gi σ 820 j8) ≤ (gi σ 820 j6) then (f8_firstSlept_j45 fu x1 x2 σ) else (f8_firstSlept_j41 fu x2 σ))))) else (f8_firstSlept_j45 fu x1 x2 σ)))

def f8_firstSlept (fu : Nat) (σ : St) : Option Int32 :=
  lp (fun s8 => f8_firstSlept_b4 fu s8.1 s8.2 σ) fu ((-1), 0)

def f8_suspend_j140 (fu : Nat) (x2 : Int32) (σ : St) : Option (Int32 × St) :=
  ob1 (f8_settle fu σ) fun σ16 => (some (x2, σ16))

def f8_suspend_b115 (fu : Nat) (x2 : Int32) (x3 : Int32) (σ : St) : Option ((Int32 × St) ⊕ (Int32 × St)) :=
  if x3 = (-1) then (oinr (f8_suspend_j140 fu x2 σ)) else (if (gb σ 802 0) = true then (oinr (f8_suspend_j140 fu x2 σ)) else (ob1 (f8_wake fu x3 σ) fun σ20 => (ob1 (f8_firstSlept fu σ20) fun v22 => (some (.inl (v22, σ20))))))

def f8_suspend_j107 (fu : Nat) (x2 : Int32) (y1 : Bool) (σ : St) : Option (Int32 × St) :=
  ob1 (f8_firstSlept fu (zb σ 802 0 y1)) fun v11 => (lp (fun s8 => f8_suspend_b115 fu x2 s8.1 s8.2) fu (v11, (zb σ 802 0 y1)))

def f8_suspend_j96 (fu : Nat) (x2 : Int32) (σ : St) : Option (Int32 × St) :=
  if x2 = (-1) then (f8_suspend_j107 fu x2 true σ) else (f8_suspend_j107 fu x2 false σ)

def f8_suspend_j87 (fu : Nat) (x1 : Int32) (x2 : Int32) (σ : St) : Option ((Int32 × Int32 × Int32 × St) ⊕ (Int32 × St)) :=
  ob1 (f8_lastOf fu x1 σ) fun v31 => (some (.inl (x1, x2, v31, σ)))

def f8_suspend_j61 (fu : Nat) (x1 : Int32) (x3 : Int32) (y0 : Int32) (σ : St) : Option ((Int32 × Int32 × Int32 × St) ⊕ (Int32 × St)) :=
  if y0 = (-1) then (ob1 (f8_fallsAsleep fu x3 σ) fun σ35 => (ar 24 x3 fun j37 => (f8_suspend_j87 fu (x1 &&& ((1 <<< (x3 &&& 31)) ^^^ (-1))) y0 (zb σ35 822 j37 true)))) else (f8_suspend_j87 fu x1 y0 σ)

def f8_suspend_b38 (fu : Nat) (x1 : Int32) (x2 : Int32) (x3 : Int32) (σ : St) : Option ((Int32 × Int32 × Int32 × St) ⊕ (Int32 × St)) :=
  if x3 = (-1) then (oinr (f8_suspend_j96 fu x2 σ)) else (if x2 = (-1) then (ob1 (f8_hasCall fu x3 σ) fun v26 => (if v26 = true then (f8_suspend_j61 fu x1 x3 x3 σ) else (f8_suspend_j61 fu x1 x3 (-1) σ))) else (oinr (f8_suspend_j96 fu x2 σ)))

def f8_suspend_j13 (fu : Nat) (y1 : Bool) (σ : St) : Option (Int32 × St) :=
  if (gi (zi σ 800 0 (b2i y1)) 800 0) = 0 then (ob1 (f8_allOn fu (zi σ 800 0 (b2i y1))) fun v3 => (ob1 (f8_lastOf fu v3 (zi σ 800 0 (b2i y1))) fun v6 => (lp (fun s8 => f8_suspend_b38 fu s8.1 s8.2.1 s8.2.2.1 s8.2.2.2) fu (v3, (-1), v6, (zi σ 800 0 (b2i y1)))))) else (some (0, (zi σ 800 0 (b2i y1))))

def f8_suspend (fu : Nat) (σ : St) : Option (Int32 × St) :=
  if (gb σ 802 0) = true then (f8_suspend_j13 fu true σ) else (f8_suspend_j13 fu false σ)

def f8_firstOf_j53 (fu : Nat) (x1 : Int32) (x3 : Int32) (y0 : Int32) (σ : St) : Option ((Int32 × Int32) ⊕ Int32) :=
  some (.inl (y0, (x3 + 1)))

def f8_firstOf_j52 (fu : Nat) (x1 : Int32) (x2 : Int32) (x3 : Int32) (σ : St) : Option ((Int32 × Int32) ⊕ Int32) :=
  f8_firstOf_j53 fu x1 x3 x2 σ

def f8_firstOf_j48 (fu : Nat) (x1 : Int32) (x3 : Int32) (σ : St) : Option ((Int32 × Int32) ⊕ Int32) :=
  f8_firstOf_j53 fu x1 x3 x3 σ

def f8_firstOf_b4 (fu : Nat) (x1 : Int32) (x2 : Int32) (x3 : Int32) (σ : St) : Option ((Int32 × Int32) ⊕ Int32) :=
  if (gi σ 803 0) ≤ x3 then (oinr (some x2)) else (ob1 (f8_has fu x1 x3 σ) fun v2 => (if v2 = true then (ob1 (f8_isBound fu x3 σ) fun v6 => (if v6 = true then (if x2 = (-1) then (f8_firstOf_j48 fu x1 x3 σ) else (ar 24 x3 fun j11 => (ar 24 x2 fun j13 => (if (gi σ 820 j13) ≤ (gi σ 820 j11) then (f8_firstOf_j52 fu x1 x2 x3 σ) else (f8_firstOf_j48 fu x1 x3 σ))))) else (f8_firstOf_j52 fu x1 x2 x3 σ))) else (f8_firstOf_j52 fu x1 x2 x3 σ)))

def f8_firstOf (fu : Nat) (a1 : Int32) (σ : St) : Option Int32 :=
  lp (fun s8 => f8_firstOf_b4 fu a1 s8.1 s8.2 σ) fu ((-1), 0)

def f8_ask_j122 (fu : Nat) (x2 : Int32) (x3 : Int32) (σ : St) : Option ((Int32 × Int32 × Int32 × St) ⊕ (Int32 × St)) :=
  ob1 (f8_firstOf fu x2 σ) fun v9 => (some (.inl (x2, x3, v9, σ)))

def f8_ask_j105 (fu : Nat) (x2 : Int32) (x3 : Int32) (x4 : Int32) (σ : St) : Option ((Int32 × Int32 × Int32 × St) ⊕ (Int32 × St)) :=
  ob1 (f8_wake fu x4 σ) fun σ16 => (ar 24 x4 fun j18 => (f8_ask_j122 fu x2 (x3 + 1) (zb σ16 817 j18 false)))

def f8_ask_b55 (fu : Nat) (x2 : Int32) (x3 : Int32) (x4 : Int32) (σ : St) : Option ((Int32 × Int32 × Int32 × St) ⊕ (Int32 × St)) :=
  if x4 = (-1) then (oinr (some (x3, σ))) else (ar 24 x4 fun j6 => (if (gb σ 817 j6) = true then (ar 24 x4 fun j12 => (if (gb σ 813 j12) = true then (f8_ask_j105 fu (x2 &&& ((1 <<< (x4 &&& 31)) ^^^ (-1))) x3 x4 σ) else (ar 24 x4 fun j20 => (ar 8 (gi σ 812 j20) fun j22 => (if (gb σ 828 j22) = true then (f8_ask_j105 fu (x2 &&& ((1 <<< (x4 &&& 31)) ^^^ (-1))) x3 x4 σ) else (f8_ask_j122 fu (x2 &&& ((1 <<< (x4 &&& 31)) ^^^ (-1))) x3 σ)))))) else (f8_ask_j122 fu (x2 &&& ((1 <<< (x4 &&& 31)) ^^^ (-1))) x3 σ)))

def f8_ask_j38 (fu : Nat) (x1 : Int32) (x3 : Int32) (y0 : Int32) (y1 : Int32) (σ : St) : Option ((Int32 × Int32) ⊕ (Int32 × St)) :=
  some (.inl ((y0 ||| y1), (x3 + 1)))

def f8_ask_b4 (fu : Nat) (x1 : Int32) (x2 : Int32) (x3 : Int32) (σ : St) : Option ((Int32 × Int32) ⊕ (Int32 × St)) :=
  if (gi σ 803 0) ≤ x3 then (oinr (ob1 (f8_firstOf fu x2 σ) fun v2 => (lp (fun s8 => f8_ask_b55 fu s8.1 s8.2.1 s8.2.2.1 s8.2.2.2) fu (x2, 0, v2, σ)))) else (ob1 (f8_isBound fu x3 σ) fun v25 => (if v25 = true then (ar 24 x3 fun j29 => (if (gi σ 807 j29) = x1 then (f8_ask_j38 fu x1 x3 x2 (1 <<< (x3 &&& 31)) σ) else (f8_ask_j38 fu x1 x3 x2 0 σ))) else (f8_ask_j38 fu x1 x3 x2 0 σ)))

def f8_ask (fu : Nat) (a1 : Int32) (σ : St) : Option (Int32 × St) :=
  lp (fun s8 => f8_ask_b4 fu a1 s8.1 s8.2 σ) fu (0, 0)

def f8_resume_j90 (fu : Nat) (x1 : Int32) (x2 : Int32) (y0 : Int32) (σ : St) : Option ((Int32 × St) ⊕ (Int32 × St)) :=
  some (.inl ((x2 + 1), σ))

def f8_resume_b65 (fu : Nat) (x1 : Int32) (x2 : Int32) (σ : St) : Option ((Int32 × St) ⊕ (Int32 × St)) :=
  if 8 ≤ x2 then (oinr (ob1 (f8_settle fu σ) fun σ9 => (some (x1, σ9)))) else (ar 8 x2 fun j11 => (if 3 ≤ (gi σ 838 j11) then (f8_resume_j90 fu x1 x2 0 σ) else (ob2 (f8_ask fu x2 σ) fun v14 σ15 => (f8_resume_j90 fu x1 x2 v14 σ15))))

def f8_resume_b40 (fu : Nat) (x1 : Int32) (σ : St) : Option ((Int32 × St) ⊕ (Int32 × St)) :=
  if x1 = (-1) then (oinr (lp (fun s8 => f8_resume_b65 fu (gi σ 847 0) s8.1 s8.2) fu (0, σ))) else (ob1 (f8_wake fu x1 σ) fun σ18 => (ob1 (f8_firstSlept fu σ18) fun v20 => (some (.inl (v20, σ18)))))

def f8_resume_j13 (fu : Nat) (y1 : Bool) (σ : St) : Option (Int32 × St) :=
  if (gi (zi σ 800 0 (b2i y1)) 800 0) = 0 then (ob1 (f8_firstSlept fu (zi (zb (zi σ 800 0 (b2i y1)) 802 0 false) 847 0 0)) fun v3 => (lp (fun s8 => f8_resume_b40 fu s8.1 s8.2) fu (v3, (zi (zb (zi σ 800 0 (b2i y1)) 802 0 false) 847 0 0)))) else (some (0, (zi σ 800 0 (b2i y1))))

def f8_resume (fu : Nat) (σ : St) : Option (Int32 × St) :=
  if (gb σ 802 0) = true then (f8_resume_j13 fu false σ) else (f8_resume_j13 fu true σ)

def f8_raise_j126 (fu : Nat) (x3 : Int32) (σ : St) : Option (Int32 × St) :=
  ob1 (f8_settle fu σ) fun σ15 => (some (x3, σ15))

def f8_raise_j109 (fu : Nat) (x2 : Int32) (x3 : Int32) (y1 : Int32) (y2 : Int32) (σ : St) : Option (Int32 × St) :=
  ar 8 y1 fun j26 => (ar 8 x2 fun j28 => (if (gi (zi σ 838 j26 y2) 838 j28) = 3 then (ob1 (f8_event fu 5 x2 (zi σ 838 j26 y2)) fun σ32 => (f8_raise_j126 fu x3 σ32)) else (f8_raise_j126 fu x3 (zi σ 838 j26 y2))))

def f8_raise_j37 (fu : Nat) (x1 : Int32) (y1 : Int32) (σ : St) : Option (Int32 × St) :=
  if (gi (zi σ 800 0 y1) 800 0) = 0 then (ar 24 x1 fun j9 => (ar 24 x1 fun j11 => (if (gb (zb (zi σ 800 0 y1) 817 j11 true) 802 0) = true then (f8_raise_j126 fu 0 (zb (zi σ 800 0 y1) 817 j11 true)) else (ar 8 (gi (zi σ 800 0 y1) 807 j9) fun j17 => (if 3 ≤ (gi (zb (zi σ 800 0 y1) 817 j11 true) 838 j17) then (f8_raise_j126 fu 0 (zb (zi σ 800 0 y1) 817 j11 true)) else (ob2 (f8_ask fu (gi (zi σ 800 0 y1) 807 j9) (zb (zi σ 800 0 y1) 817 j11 true)) fun v20 σ21 => (if v20 ≤ 0 then (ar 8 (gi (zi σ 800 0 y1) 807 j9) fun j24 => (f8_raise_j109 fu (gi (zi σ 800 0 y1) 807 j9) v20 (gi (zi σ 800 0 y1) 807 j9) ((gi σ21 838 j24) + 1) σ21)) else (f8_raise_j109 fu (gi (zi σ 800 0 y1) 807 j9) v20 (gi (zi σ 800 0 y1) 807 j9) 0 σ21)))))))) else (some (0, (zi σ 800 0 y1)))

def f8_raise (fu : Nat) (a1 : Int32) (σ : St) : Option (Int32 × St) :=
  ob1 (f8_isDevice fu a1 σ) fun v1 => (if v1 = true then (ar 24 a1 fun j5 => (if (gb σ 811 j5) = true then (ar 24 a1 fun j34 => (if (gi σ 807 j34) = (-1) then (f8_raise_j37 fu a1 2 σ) else (f8_raise_j37 fu a1 0 σ))) else (f8_raise_j37 fu a1 2 σ))) else (f8_raise_j37 fu a1 1 σ))

def f8_openLine_j51 (fu : Nat) (y0 : Int32) (σ : St) : Option (Int32 × St) :=
  ob1 (f8_settle fu σ) fun σ13 => (some (y0, σ13))

def f8_openLine_j16 (fu : Nat) (x1 : Int32) (y1 : Bool) (σ : St) : Option (Int32 × St) :=
  if (gi (zi σ 800 0 (b2i y1)) 800 0) = 0 then (ar 8 x1 fun j6 => (if (gb (zi (zi σ 800 0 (b2i y1)) 838 j6 0) 802 0) = true then (f8_openLine_j51 fu 0 (zi (zi σ 800 0 (b2i y1)) 838 j6 0)) else (ob2 (f8_ask fu x1 (zi (zi σ 800 0 (b2i y1)) 838 j6 0)) fun v9 σ10 => (f8_openLine_j51 fu v9 σ10)))) else (some (0, (zi σ 800 0 (b2i y1))))

def f8_openLine (fu : Nat) (a1 : Int32) (σ : St) : Option (Int32 × St) :=
  ob1 (f8_in fu a1 0 7 σ) fun v1 => (if v1 = true then (f8_openLine_j16 fu a1 false σ) else (f8_openLine_j16 fu a1 true σ))

def f8_isThere_j14 (fu : Nat) (x1 : Int32) (y1 : Bool) (σ : St) : Option (Bool × St) :=
  if (gi (zi σ 800 0 (b2i y1)) 800 0) = 0 then (ar 24 x1 fun j6 => (if (gb (zi σ 800 0 (b2i y1)) 811 j6) = true then (some (true, (zi σ 800 0 (b2i y1)))) else (some (false, (zi σ 800 0 (b2i y1)))))) else (some (false, (zi σ 800 0 (b2i y1))))

def f8_isThere (fu : Nat) (a1 : Int32) (σ : St) : Option (Bool × St) :=
  ob1 (f8_isDevice fu a1 σ) fun v1 => (if v1 = true then (f8_isThere_j14 fu a1 false σ) else (f8_isThere_j14 fu a1 true σ))

def f8_reason_j74 (fu : Nat) (x2 : Int32) (σ : St) : Option (Int32 × St) :=
  some (x2, σ)

def f8_reason_j57 (fu : Nat) (x1 : Int32) (y0 : Int32) (σ : St) : Option (Int32 × St) :=
  if y0 = 0 then (ob1 (f8_isBound fu x1 σ) fun v17 => (if v17 = true then (f8_reason_j74 fu y0 σ) else (some ((-1), σ)))) else (f8_reason_j74 fu y0 σ)

def f8_reason_j14 (fu : Nat) (x1 : Int32) (y1 : Bool) (σ : St) : Option (Int32 × St) :=
  if (gi (zi σ 800 0 (b2i y1)) 800 0) = 0 then (ar 24 x1 fun j6 => (if (gb (zi σ 800 0 (b2i y1)) 811 j6) = true then (ob1 (f8_isBound fu x1 (zi σ 800 0 (b2i y1))) fun v9 => (if v9 = true then (f8_reason_j57 fu x1 0 (zi σ 800 0 (b2i y1))) else (ob1 (f8_refused fu x1 (zi σ 800 0 (b2i y1))) fun v13 => (f8_reason_j57 fu x1 v13 (zi σ 800 0 (b2i y1)))))) else (f8_reason_j57 fu x1 8 (zi σ 800 0 (b2i y1))))) else (some (0, (zi σ 800 0 (b2i y1))))

def f8_reason (fu : Nat) (a1 : Int32) (σ : St) : Option (Int32 × St) :=
  ob1 (f8_isDevice fu a1 σ) fun v1 => (if v1 = true then (f8_reason_j14 fu a1 false σ) else (f8_reason_j14 fu a1 true σ))

def f8_driverOf_j14 (fu : Nat) (x1 : Int32) (y1 : Bool) (σ : St) : Option (Int32 × St) :=
  if (gi (zi σ 800 0 (b2i y1)) 800 0) = 0 then (ar 24 x1 fun j6 => (if (gb (zi σ 800 0 (b2i y1)) 811 j6) = true then (ob1 (f8_isBound fu x1 (zi σ 800 0 (b2i y1))) fun v9 => (if v9 = true then (ar 24 x1 fun j18 => (some ((gi (zi σ 800 0 (b2i y1)) 812 j18), (zi σ 800 0 (b2i y1))))) else (ar 24 x1 fun j13 => (ob1 (f8_driverFor fu (gi (zi σ 800 0 (b2i y1)) 805 j13) (zi σ 800 0 (b2i y1))) fun v15 => (some (v15, (zi σ 800 0 (b2i y1)))))))) else (some ((-1), (zi σ 800 0 (b2i y1)))))) else (some (0, (zi σ 800 0 (b2i y1))))

def f8_driverOf (fu : Nat) (a1 : Int32) (σ : St) : Option (Int32 × St) :=
  ob1 (f8_isDevice fu a1 σ) fun v1 => (if v1 = true then (f8_driverOf_j14 fu a1 false σ) else (f8_driverOf_j14 fu a1 true σ))

def f8_window_j14 (fu : Nat) (x1 : Int32) (y1 : Bool) (σ : St) : Option (Int32 × St) :=
  if (gi (zi σ 800 0 (b2i y1)) 800 0) = 0 then (ar 24 x1 fun j6 => (some ((gi (zi σ 800 0 (b2i y1)) 814 j6), (zi σ 800 0 (b2i y1))))) else (some (0, (zi σ 800 0 (b2i y1))))

def f8_window (fu : Nat) (a1 : Int32) (σ : St) : Option (Int32 × St) :=
  ob1 (f8_isDevice fu a1 σ) fun v1 => (if v1 = true then (f8_window_j14 fu a1 false σ) else (f8_window_j14 fu a1 true σ))

def f8_isOn_j14 (fu : Nat) (x1 : Int32) (y1 : Bool) (σ : St) : Option (Bool × St) :=
  if (gi (zi σ 800 0 (b2i y1)) 800 0) = 0 then (ar 24 x1 fun j6 => (if (gb (zi σ 800 0 (b2i y1)) 813 j6) = true then (some (true, (zi σ 800 0 (b2i y1)))) else (some (false, (zi σ 800 0 (b2i y1)))))) else (some (false, (zi σ 800 0 (b2i y1))))

def f8_isOn (fu : Nat) (a1 : Int32) (σ : St) : Option (Bool × St) :=
  ob1 (f8_isDevice fu a1 σ) fun v1 => (if v1 = true then (f8_isOn_j14 fu a1 false σ) else (f8_isOn_j14 fu a1 true σ))

def f8_isPending_j14 (fu : Nat) (x1 : Int32) (y1 : Bool) (σ : St) : Option (Bool × St) :=
  if (gi (zi σ 800 0 (b2i y1)) 800 0) = 0 then (ar 24 x1 fun j6 => (if (gb (zi σ 800 0 (b2i y1)) 817 j6) = true then (some (true, (zi σ 800 0 (b2i y1)))) else (some (false, (zi σ 800 0 (b2i y1)))))) else (some (false, (zi σ 800 0 (b2i y1))))

def f8_isPending (fu : Nat) (a1 : Int32) (σ : St) : Option (Bool × St) :=
  ob1 (f8_isDevice fu a1 σ) fun v1 => (if v1 = true then (f8_isPending_j14 fu a1 false σ) else (f8_isPending_j14 fu a1 true σ))

def f8_strikes_j16 (fu : Nat) (x1 : Int32) (y1 : Bool) (σ : St) : Option (Int32 × St) :=
  if (gi (zi σ 800 0 (b2i y1)) 800 0) = 0 then (ar 8 x1 fun j6 => (some ((gi (zi σ 800 0 (b2i y1)) 838 j6), (zi σ 800 0 (b2i y1))))) else (some (0, (zi σ 800 0 (b2i y1))))

def f8_strikes (fu : Nat) (a1 : Int32) (σ : St) : Option (Int32 × St) :=
  ob1 (f8_in fu a1 0 7 σ) fun v1 => (if v1 = true then (f8_strikes_j16 fu a1 false σ) else (f8_strikes_j16 fu a1 true σ))

def f8_handles_j69 (fu : Nat) (x2 : Int32) (σ : St) : Option (Int32 × St) :=
  some (x2, σ)

def f8_handles_j61 (fu : Nat) (x1 : Int32) (x3 : Int32) (y0 : Int32) (y1 : Bool) (σ : St) : Option ((Int32 × Int32) ⊕ (Int32 × St)) :=
  some (.inl ((y0 + (b2i y1)), (x3 + 1)))

def f8_handles_b21 (fu : Nat) (x1 : Int32) (x2 : Int32) (x3 : Int32) (σ : St) : Option ((Int32 × Int32) ⊕ (Int32 × St)) :=
  if (gi σ 830 0) ≤ x3 then (oinr (f8_handles_j69 fu x2 σ)) else (if (gi σ 800 0) = 0 then (ar 40 x3 fun j7 => (if (gi σ 831 j7) = x1 then (ar 40 x3 fun j10 => (if (gb σ 833 j10) = true then (f8_handles_j61 fu x1 x3 x2 false σ) else (f8_handles_j61 fu x1 x3 x2 true σ))) else (f8_handles_j61 fu x1 x3 x2 false σ))) else (oinr (f8_handles_j69 fu x2 σ)))

def f8_handles_j14 (fu : Nat) (x1 : Int32) (y1 : Bool) (σ : St) : Option (Int32 × St) :=
  lp (fun s8 => f8_handles_b21 fu x1 s8.1 s8.2 (zi σ 800 0 (b2i y1))) fu (0, 0)

def f8_handles (fu : Nat) (a1 : Int32) (σ : St) : Option (Int32 × St) :=
  ob1 (f8_isDevice fu a1 σ) fun v1 => (if v1 = true then (f8_handles_j14 fu a1 false σ) else (f8_handles_j14 fu a1 true σ))

def f8_callState_j20 (fu : Nat) (x1 : Int32) (y1 : Bool) (σ : St) : Option (Int32 × St) :=
  if (gi (zi σ 800 0 (b2i y1)) 800 0) = 0 then (ar 100 x1 fun j6 => (some ((gi (zi σ 800 0 (b2i y1)) 837 j6), (zi σ 800 0 (b2i y1))))) else (some (0, (zi σ 800 0 (b2i y1))))

def f8_callState (fu : Nat) (a1 : Int32) (σ : St) : Option (Int32 × St) :=
  ob1 (f8_in fu a1 0 ((gi σ 834 0) - 1) σ) fun v1 => (if v1 = true then (f8_callState_j20 fu a1 false σ) else (f8_callState_j20 fu a1 true σ))

def f8_faults (fu : Nat) (σ : St) : Option Int32 :=
  some (gi σ 841 0)

def f8_given_j172 (fu : Nat) (x1 : Int32) (x3 : Int32) (x4 : Int32) (y0 : Int32) (y1 : Int32) (σ : St) : Option ((Int32 × Int32) ⊕ (Int32 × St)) :=
  some (.inl ((y0 + y1), (x4 + 1)))

def f8_given_j154 (fu : Nat) (x1 : Int32) (x3 : Int32) (x4 : Int32) (y0 : Int32) (y1 : Bool) (σ : St) : Option ((Int32 × Int32) ⊕ (Int32 × St)) :=
  if x1 = 1 then (f8_given_j172 fu x1 x3 x4 (y0 + (b2i y1)) ((x3 >>> (x4 &&& 31)) &&& 1) σ) else (f8_given_j172 fu x1 x3 x4 (y0 + (b2i y1)) 0 σ)

def f8_given_b125 (fu : Nat) (x1 : Int32) (x3 : Int32) (x2 : Int32) (x4 : Int32) (σ : St) : Option ((Int32 × Int32) ⊕ (Int32 × St)) :=
  if 16 ≤ x4 then (oinr (some (x2, σ))) else (if x1 = 2 then (ar 16 x4 fun j10 => (if (gi σ 839 j10) = (-1) then (f8_given_j154 fu x1 x3 x4 x2 false σ) else (f8_given_j154 fu x1 x3 x4 x2 true σ))) else (f8_given_j154 fu x1 x3 x4 x2 false σ))

def f8_given_j116 (fu : Nat) (x1 : Int32) (x2 : Int32) (x3 : Int32) (x4 : Int32) (σ : St) : Option ((Int32 × Int32 × Int32) ⊕ (Int32 × St)) :=
  some (.inl (x2, x3, (x4 + 1)))

def f8_given_j114 (fu : Nat) (x1 : Int32) (x2 : Int32) (x4 : Int32) (y0 : Int32) (y1 : Int32) (σ : St) : Option ((Int32 × Int32 × Int32) ⊕ (Int32 × St)) :=
  f8_given_j116 fu x1 x2 (y0 ||| y1) x4 σ

def f8_given_j87 (fu : Nat) (x1 : Int32) (x3 : Int32) (x4 : Int32) (y0 : Int32) (y1 : Int32) (σ : St) : Option ((Int32 × Int32 × Int32) ⊕ (Int32 × St)) :=
  ar 24 x4 fun j19 => (if (gi σ 807 j19) = (-1) then (f8_given_j114 fu x1 (y0 + y1) x4 x3 0 σ) else (ar 24 x4 fun j22 => (f8_given_j114 fu x1 (y0 + y1) x4 x3 (1 <<< ((gi σ 807 j22) &&& 31)) σ)))

def f8_given_j77 (fu : Nat) (x1 : Int32) (x3 : Int32) (x4 : Int32) (y0 : Int32) (σ : St) : Option ((Int32 × Int32 × Int32) ⊕ (Int32 × St)) :=
  if x1 = 3 then (f8_given_j87 fu x1 x3 x4 y0 1 σ) else (f8_given_j87 fu x1 x3 x4 y0 0 σ)

def f8_given_b34 (fu : Nat) (x1 : Int32) (x2 : Int32) (x3 : Int32) (x4 : Int32) (σ : St) : Option ((Int32 × Int32 × Int32) ⊕ (Int32 × St)) :=
  if (gi σ 803 0) ≤ x4 then (oinr (lp (fun s8 => f8_given_b125 fu x1 x3 s8.1 s8.2 σ) fu (x2, 0))) else (ob1 (f8_isBound fu x4 σ) fun v13 => (if v13 = true then (if x1 = 0 then (ob1 (f8_spaceOf fu x4 σ) fun v24 => (if v24 = (-1) then (ar 24 x4 fun j28 => (f8_given_j87 fu x1 x3 x4 x2 (gi σ 806 j28) σ)) else (f8_given_j77 fu x1 x3 x4 x2 σ))) else (f8_given_j77 fu x1 x3 x4 x2 σ)) else (f8_given_j116 fu x1 x2 x3 x4 σ)))

def f8_given_j15 (fu : Nat) (x1 : Int32) (y1 : Bool) (σ : St) : Option (Int32 × St) :=
  if (gi (zi σ 800 0 (b2i y1)) 800 0) = 0 then (lp (fun s8 => f8_given_b34 fu x1 s8.1 s8.2.1 s8.2.2 (zi σ 800 0 (b2i y1))) fu (0, 0, 0)) else (some (0, (zi σ 800 0 (b2i y1))))

def f8_given (fu : Nat) (a1 : Int32) (σ : St) : Option (Int32 × St) :=
  ob1 (f8_in fu a1 0 3 σ) fun v1 => (if v1 = true then (f8_given_j15 fu a1 false σ) else (f8_given_j15 fu a1 true σ))

def f8_events (fu : Nat) (σ : St) : Option Int32 :=
  some (gi σ 842 0)

def f8_isKept (fu : Nat) (a1 : Int32) (σ : St) : Option Bool :=
  ob1 (f8_in fu a1 0 ((gi σ 842 0) - 1) σ) fun v1 => (if v1 = true then (if a1 < ((gi σ 842 0) - 20) then (some false) else (some true)) else (some false))

def f8_eventKind_j14 (fu : Nat) (x1 : Int32) (y1 : Bool) (σ : St) : Option (Int32 × St) :=
  if (gi (zi σ 800 0 (b2i y1)) 800 0) = 0 then (ar 20 (x1 - x1 / 20 * 20) fun j6 => (some ((gi (zi σ 800 0 (b2i y1)) 843 j6), (zi σ 800 0 (b2i y1))))) else (some (0, (zi σ 800 0 (b2i y1))))

def f8_eventKind (fu : Nat) (a1 : Int32) (σ : St) : Option (Int32 × St) :=
  ob1 (f8_isKept fu a1 σ) fun v1 => (if v1 = true then (f8_eventKind_j14 fu a1 false σ) else (f8_eventKind_j14 fu a1 true σ))

def f8_eventOf_j14 (fu : Nat) (x1 : Int32) (y1 : Bool) (σ : St) : Option (Int32 × St) :=
  if (gi (zi σ 800 0 (b2i y1)) 800 0) = 0 then (ar 20 (x1 - x1 / 20 * 20) fun j6 => (some ((gi (zi σ 800 0 (b2i y1)) 844 j6), (zi σ 800 0 (b2i y1))))) else (some (0, (zi σ 800 0 (b2i y1))))

def f8_eventOf (fu : Nat) (a1 : Int32) (σ : St) : Option (Int32 × St) :=
  ob1 (f8_isKept fu a1 σ) fun v1 => (if v1 = true then (f8_eventOf_j14 fu a1 false σ) else (f8_eventOf_j14 fu a1 true σ))

