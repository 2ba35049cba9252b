def f_X0_has (g0 : Nat) (i1 : Int32) (σ : Sg) : Option Bool :=
    (if i1 < 0 then
    (some false)
    else
    (if (gS σ (16 * g0 + 1)) ≤ i1 then
    (some false)
    else
    (if (nI (cLen g0)) ≤ i1 then
    (some false)
    else
    (some true))))
def f_X0_get (g0 : Nat) (i1 : Int32) (σ : Sg) : Option Int32 :=
    (if i1 < 0 then
    (some (0 : Int32))
    else
    (if (gS σ (16 * g0 + 1)) ≤ i1 then
    (some (0 : Int32))
    else
    (if (nI (cLen g0)) ≤ i1 then
    (some (0 : Int32))
    else
    (ck (inB i1 (cLen g0)) (some (gA σ g0 i1.toNatClampNeg))))))
def f_X0_set (g0 : Nat) (i1 : Int32) (i2 : Int32) (σ : Sg) : Option Sg :=
    (if i1 < 0 then
    (some σ)
    else
    (if (gS σ (16 * g0 + 1)) ≤ i1 then
    (some σ)
    else
    (if (nI (cLen g0)) ≤ i1 then
    (some σ)
    else
    (ck (inB i1 (cLen g0)) (nm (pA σ g0 (upd (gA σ g0) i1.toNatClampNeg i2)) (fun σ1 => (some σ1)))))))
def l_X0_fill_19 (b0 : Nat) (a2 : Int32) (k49 : Sg → Option Sg) : Nat → Int32 → Sg → Option Sg
  | 0, _, _ => none
  | N1 + 1, x3, σx =>
    (if (gS σx (16 * b0 + 1)) ≤ x3 then
    (k49 σx)
    else
    (if (nI (cLen b0)) ≤ x3 then
    (k49 σx)
    else
    (ck (inB x3 (cLen b0)) (nm (pA σx b0 (upd (gA σx b0) x3.toNatClampNeg a2)) (fun σ2 => (nm (x3 + (1 : Int32)) (fun y3 => (l_X0_fill_19 b0 a2 k49 N1 y3 σ2))))))))
def f_X0_fill (g0 : Nat) (i1 : Int32) (i2 : Int32) (σ : Sg) : Option Sg :=
    (nm (pS σ (16 * g0 + 1) (mmax (0 : Int32) (mmin i1 (nI (cLen g0))))) (fun σ1 => (l_X0_fill_19 g0 i2 
    (fun (σv49 : Sg) => (some σv49)) FU (0 : Int32) σ1)))
def f_X0_add (g0 : Nat) (i1 : Int32) (σ : Sg) : Option Sg :=
    (if (gS σ (16 * g0 + 1)) < 0 then
    (some σ)
    else
    (if (nI (cLen g0)) ≤ (gS σ (16 * g0 + 1)) then
    (some σ)
    else
    (ck (inB (gS σ (16 * g0 + 1)) (cLen g0)) (nm (pA σ g0 (upd (gA σ g0) (gS σ (16 * g0 + 1)).toNatClampNeg i1)) (fun σ1 => (nm (pS σ1 (16 * g0 + 1) ((gS σ1 (16 * g0 + 1)) + (1 : Int32))) (fun σ2 => (some σ2))))))))
def f_X0_cut (g0 : Nat) (i1 : Int32) (σ : Sg) : Option Sg :=
    (nm (pS σ (16 * g0 + 1) (mmin (gS σ (16 * g0 + 1)) (mmax (0 : Int32) i1))) (fun σ1 => (some σ1)))
def f_X0_drop (g0 : Nat) (σ : Sg) : Option Sg :=
    (nm (pS σ (16 * g0 + 1) (-1 : Int32)) (fun σ1 => (some σ1)))
def f_X0_spans (g0 : Nat) (i1 : Int32) (i2 : Int32) (σ : Sg) : Option Bool :=
    (if i1 < 0 then
    (some false)
    else
    (if i2 < 0 then
    (some false)
    else
    (if ((gS σ (16 * g0 + 1)) - i2) < i1 then
    (some false)
    else
    (if (nI (cLen g0)) < (gS σ (16 * g0 + 1)) then
    (some false)
    else
    (some true)))))
def f_X0_copyOut (g0 : Nat) (i1 : Int32) (g2 : Nat) (i3 : Int32) (i4 : Int32) (σ : Sg) : Option Sg :=
    (bnd (f_X0_spans g0 i1 i4 σ) (fun r1 => (bf r1
    (bnd (f_X0_spans g2 i3 i4 σ) (fun r2 => (bf r2
    (ck (acB i1 i3 i4 (cLen g0) (cLen g2)) (nm (pA σ g2 (va_cpy (gA σ g0) (gA σ g2) i1.toNatClampNeg i3.toNatClampNeg i4.toNatClampNeg)) (fun σ3 => (some σ3))))
    (some σ))))
    (some σ))))
def f_X0_takeFrom (g0 : Nat) (g1 : Nat) (σ : Sg) : Option Sg :=
    (bnd (f_X0_fill g0 (gS σ (16 * g1 + 1)) (0 : Int32) σ) (fun σ1 => (bnd (f_X0_copyOut g1 (0 : Int32) g0 (0 : Int32) (gS σ1 (16 * g0 + 1)) σ1) (fun σ2 => (some σ2)))))
def f_X1_byLetter (i0 : Int32) : Option Int32 :=
    (if i0 = (100 : Int32) then
    (some (3 : Int32))
    else
    (if i0 = (104 : Int32) then
    (some (0 : Int32))
    else
    (if i0 = (105 : Int32) then
    (some (4 : Int32))
    else
    (if i0 = (109 : Int32) then
    (some (5 : Int32))
    else
    (if i0 = (114 : Int32) then
    (some (2 : Int32))
    else
    (if i0 = (118 : Int32) then
    (some (1 : Int32))
    else
    (some (-9 : Int32))))))))
def f_X1_isOf (i0 : Int32) (i1 : Int32) : Option Bool :=
    (if i1 = (0 : Int32) then
    (some true)
    else
    (if i1 = (1 : Int32) then
    (if i0 = (1 : Int32) then
    (some true)
    else
    (if i0 = (4 : Int32) then
    (some true)
    else
    (some false)))
    else
    (if i1 = (2 : Int32) then
    (if i0 = (2 : Int32) then
    (some true)
    else
    (if i0 = (5 : Int32) then
    (some true)
    else
    (some false)))
    else
    (if i0 = i1 then
    (some true)
    else
    (some false)))))
def f_X1_taps (i0 : Int32) (i1 : Int32) (i2 : Int32) : Option Int32 :=
    (nm (fun (t0_26 : Bool) => (if i0 = (3 : Int32) then
    (some (-9 : Int32))
    else
    (bf t0_26
    (some (-9 : Int32))
    (nm (fun (t0_50 : Int32) => (if i0 = (1 : Int32) then
    (some ((2 : Int32) * t0_50))
    else
    (if i0 = (4 : Int32) then
    (some (((2 : Int32) * t0_50) + (1 : Int32)))
    else
    (some t0_50))))
    (fun k50 => (if (49 : Int32) < i1 then
    (k50 (1 : Int32))
    else
    (k50 (2 : Int32))))))))
    (fun k26 => (nm (k26 false)
    (fun k25 => (if i2 = 0 then
    k25
    else
    (if i1 < (40 : Int32) then
    k25
    else
    (if (49 : Int32) < i1 then
    k25
    else
    (if i0 = (5 : Int32) then
    k25
    else
    (k26 true)))))))))
def f_X1_fee (i0 : Int32) : Option Int32 :=
    (if i0 = (2 : Int32) then
    (some (2 : Int32))
    else
    (if i0 = (3 : Int32) then
    (some (0 : Int32))
    else
    (if i0 = (5 : Int32) then
    (some (5 : Int32))
    else
    (some (1 : Int32)))))
def f_X2_sign  (σ : Sg) : Option Int32 :=
    (oc (txO σ)
    (some (0 : Int32))
    (fun g1 => (oc (txO σ)
    none
    (fun g2 => (bnd (f_X0_get g2 (gS σ 17) σ) (fun r3 => (some r3)))))))
def f_X2_figure (i1 : Int32) (σ : Sg) : Option (Int32 × Sg) :=
    (bnd (f_X2_sign σ) (fun r1 => (nm (r1 - (48 : Int32)) (fun y2 => (nm (fun (t0_30 : Bool) => (nm (pS σ 18 (b2i t0_30)) (fun σ3 => (nm (fun (t0_50 : Bool) => (nm (pS σ3 17 ((gS σ3 17) + (b2i t0_50))) (fun σ4 => (if (gS σ4 18) = 0 then
    (some ((0 : Int32), σ4))
    else
    (some (y2, σ4))))))
    (fun k50 => (if (gS σ3 18) = 0 then
    (k50 false)
    else
    (k50 true)))))))
    (fun k30 => (nm (k30 false)
    (fun k29 => (if (gS σ 18) = 0 then
    k29
    else
    (if y2 < 0 then
    k29
    else
    (if i1 < y2 then
    k29
    else
    (k30 true))))))))))))
def f_X2_letter (i1 : Int32) (σ : Sg) : Option Sg :=
    (nm (fun (t0_21 : Bool) => (nm (pS σ 18 (b2i t0_21)) (fun σ1 => (if (gS σ1 18) = 0 then
    (nm (pS σ1 17 ((gS σ1 17) + (0 : Int32))) (fun σ2 => (some σ2)))
    else
    (nm (pS σ1 17 ((gS σ1 17) + (1 : Int32))) (fun σ3 => (some σ3)))))))
    (fun k21 => (nm (k21 false)
    (fun k20 => (if (gS σ 18) = 0 then
    k20
    else
    (bnd (f_X2_sign σ) (fun r4 => (if r4 = i1 then
    (k21 true)
    else
    k20))))))))
def f_X2_twoFigures  (σ : Sg) : Option (Int32 × Sg) :=
    (bnd2 (f_X2_figure (9 : Int32) σ) (fun r1 σ1 => (bnd2 (f_X2_figure (9 : Int32) σ1) (fun r2 σ2 => (some ((((10 : Int32) * r1) + r2), σ2))))))
def f_X4_build (g0 : Nat) (i1 : Int32) (i2 : Int32) (i3 : Int32) (σ : Sg) : Option Sg :=
    (bnd (f_X0_add (stI g0 0) i1 σ) (fun σ1 => (bnd (f_X0_add (stI g0 2) i2 σ1) (fun σ2 => (bnd (f_X0_add (stI g0 1) i3 σ2) (fun σ3 => (nm (pS σ3 (16 * g0 + 7) (gS σ3 (16 * (stI g0 0) + 1))) (fun σ4 => (some σ4)))))))))
def f_X2_readHouse (g1 : Nat) (σ : Sg) : Option Sg :=
    (bnd (f_X2_sign σ) (fun r1 => (bnd (f_X1_byLetter r1) (fun r2 => (nm (fun (t0_27 : Bool) => (nm (pS σ 18 (b2i t0_27)) (fun σ3 => (nm (fun (t0_47 : Bool) => (nm (pS σ3 17 ((gS σ3 17) + (b2i t0_47))) (fun σ4 => (bnd2 (f_X2_twoFigures σ4) (fun r5 σ5 => (bnd2 (f_X2_twoFigures σ5) (fun r6 σ6 => (if (gS σ6 18) = 0 then
    (some σ6)
    else
    (bnd (f_X4_build g1 r2 r5 r6 σ6) (fun σ7 => (some σ7)))))))))))
    (fun k47 => (if (gS σ3 18) = 0 then
    (k47 false)
    else
    (k47 true)))))))
    (fun k27 => (nm (k27 false)
    (fun k26 => (if (gS σ 18) = 0 then
    k26
    else
    (if r2 = (-9 : Int32) then
    k26
    else
    (k27 true)))))))))))
def l_X2_skipBlanks_2 (k33 : Sg → Option Sg) : Nat → Int32 → Sg → Option Sg
  | 0, _, _ => none
  | N1 + 1, x1, σx =>
    (if (60 : Int32) ≤ x1 then
    (k33 σx)
    else
    (bnd (f_X2_sign σx) (fun r1 => (if r1 = (32 : Int32) then
    (nm (pS σx 17 ((gS σx 17) + (1 : Int32))) (fun σ2 => (nm (x1 + (1 : Int32)) (fun y3 => (l_X2_skipBlanks_2 k33 N1 y3 σ2)))))
    else
    (k33 σx)))))
def f_X2_skipBlanks  (σ : Sg) : Option Sg :=
    (l_X2_skipBlanks_2 
    (fun (σv33 : Sg) => (some σv33)) FU (0 : Int32) σ)
def f_X4_begin (g0 : Nat) (i1 : Int32) (i2 : Int32) (σ : Sg) : Option Sg :=
    (nm (pS σ (16 * g0 + 7) (0 : Int32)) (fun σ1 => (nm (pS σ1 (16 * g0 + 9) i1) (fun σ2 => (nm (pS σ2 (16 * g0 + 8) i2) (fun σ3 => (bnd (f_X0_fill (stI g0 0) (0 : Int32) (0 : Int32) σ3) (fun σ4 => (bnd (f_X0_fill (stI g0 1) (0 : Int32) (0 : Int32) σ4) (fun σ5 => (bnd (f_X0_fill (stI g0 2) (0 : Int32) (0 : Int32) σ5) (fun σ6 => (some σ6)))))))))))))
def l_X2_read_43 (b1 : Nat) (b2 : Nat) : Nat → Int32 → Sg → Option (Int32 × Sg)
  | 0, _, _ => none
  | N1 + 1, x4, σx =>
    (if (6 : Int32) < x4 then
    (some ((gS σx 17), σx))
    else
    (if (gS σx 18) = 0 then
    (some ((gS σx 17), σx))
    else
    (bnd (f_X2_skipBlanks σx) (fun σ9 => (nm (fun (t0_77 : Bool) => (nm (nm (fun (t0_110 : Bool) => (nm (pS σ9 18 (b2i t0_110)) (fun σ10 => (bnd (f_X2_readHouse b2 σ10) (fun σ11 => (nm (x4 + (1 : Int32)) (fun y12 => (l_X2_read_43 b1 b2 N1 y12 σ11))))))))
    (fun k110 => (nm (k110 false)
    (fun k109 => (bf t0_77
    k109
    (if (6 : Int32) ≤ x4 then
    k109
    else
    (k110 true)))))))
    (fun k92 => (bf t0_77
    (if x4 ≤ 0 then
    k92
    else
    (some ((-9 : Int32), σ9)))
    k92))))
    (fun k77 => (if (gS σ9 17) < (gS σ9 (16 * b1 + 1)) then
    (k77 false)
    else
    (k77 true))))))))
def f_X2_read (g1 : Nat) (g2 : Nat) (σ : Sg) : Option (Int32 × Sg) :=
    (nm (pR σ 2 g1) (fun σ1 => (nm (pS σ1 17 (0 : Int32)) (fun σ2 => (nm (pS σ2 18 (b2i true)) (fun σ3 => (bnd (f_X2_skipBlanks σ3) (fun σ4 => (bnd (f_X2_letter (115 : Int32) σ4) (fun σ5 => (bnd2 (f_X2_figure (1 : Int32) σ5) (fun r6 σ6 => (bnd2 (f_X2_twoFigures σ6) (fun r7 σ7 => (bnd (f_X4_begin g2 r6 r7 σ7) (fun σ8 => (l_X2_read_43 g1 g2 FU (0 : Int32) σ8)))))))))))))))))
def f_X4_isHouse (g0 : Nat) (i1 : Int32) (σ : Sg) : Option Bool :=
    (if i1 < 0 then
    (some false)
    else
    (if (gS σ (16 * g0 + 7)) ≤ i1 then
    (some false)
    else
    (some true)))
def f_X4_isAwake (g0 : Nat) (i1 : Int32) (σ : Sg) : Option Bool :=
    (bnd (f_X4_isHouse g0 i1 σ) (fun r1 => (bf r1
    (bnd (f_X0_get (stI g0 5) i1 σ) (fun r2 => (if r2 = (-9 : Int32) then
    (some false)
    else
    (some true))))
    (some false))))
def f_X4_tapsFor (g0 : Nat) (i1 : Int32) (i2 : Int32) (σ : Sg) : Option Int32 :=
    (bnd (f_X0_get (stI g0 0) i1 σ) (fun r1 => (bnd (f_X1_taps r1 i2 (gS σ (16 * g0 + 10))) (fun r2 => (some r2)))))
def f_X4_more (g0 : Nat) (i1 : Int32) (σ : Sg) : Option Int32 :=
    (bnd (f_X4_isAwake g0 i1 σ) (fun r1 => (bf r1
    (some (0 : Int32))
    (bnd (f_X0_get (stI g0 3) i1 σ) (fun r2 => (bnd (f_X4_tapsFor g0 i1 r2 σ) (fun r3 => (if r3 = (-9 : Int32) then
    (some (-9 : Int32))
    else
    (bnd (f_X0_get (stI g0 4) i1 σ) (fun r4 => (some (mmax (1 : Int32) (r3 - r4)))))))))))))
def l_X3_start_26 (b1 : Nat) (k74 : Sg → Option Sg) : Nat → Int32 → Sg → Option Sg
  | 0, _, _ => none
  | N1 + 1, x2, σx =>
    (if (gS σx (16 * b1 + 7)) ≤ x2 then
    (k74 σx)
    else
    (bnd (f_X4_more b1 x2 σx) (fun r3 => (bnd (f_X0_set 35 x2 r3 σx) (fun σ4 => (bnd (f_X0_get (stI b1 1) x2 σ4) (fun r5 => (bnd (f_X0_set 36 x2 (r5 - (gS σ4 (16 * b1 + 11))) σ4) (fun σ6 => (nm (x2 + (1 : Int32)) (fun y7 => (l_X3_start_26 b1 k74 N1 y7 σ6))))))))))))
def f_X3_start (g1 : Nat) (σ : Sg) : Option Sg :=
    (bnd (f_X0_fill 35 (gS σ (16 * g1 + 7)) (0 : Int32) σ) (fun σ1 => (bnd (f_X0_fill 36 (gS σ1 (16 * g1 + 7)) (0 : Int32) σ1) (fun σ2 => (l_X3_start_26 g1 
    (fun (σv74 : Sg) => (some σv74)) FU (0 : Int32) σ2)))))
def f_X5_holds (i0 : Int32) (i1 : Int32) : Option Bool :=
    (if ((i0 >>> (i1 &&& 31)) &&& (1 : Int32)) = 0 then
    (some false)
    else
    (some true))
def l_X3_walkOver_8 (a0 : Int32) (a1 : Int32) (k40 : Int32 → Int32 → Option Int32) : Nat → Int32 → Int32 → Int32 → Option Int32
  | 0, _, _, _ => none
  | N1 + 1, x2, x3, x4 =>
    (if (6 : Int32) ≤ x4 then
    (k40 x2 x3)
    else
    (bnd (f_X5_holds a0 x4) (fun r1 => (nm (fun (u2_34 : Int32) (u3_34 : Int32) => (nm (x4 + (1 : Int32)) (fun y2 => (l_X3_walkOver_8 a0 a1 k40 N1 u2_34 u3_34 y2))))
    (fun k34 => (bf r1
    (nm (mmin x2 x4) (fun y3 => (k34 y3 x4)))
    (k34 x2 x3)))))))
def f_X3_walkOver (i0 : Int32) (i1 : Int32) : Option Int32 :=
    (l_X3_walkOver_8 i0 i1 
    (fun (v2_40 : Int32) (v3_40 : Int32) => (nm (mmin (mabs (i1 - v2_40)) (mabs (i1 - v3_40))) (fun y4 => (if i0 = 0 then
    (some (0 : Int32))
    else
    (some ((v3_40 - v2_40) + y4)))))) FU (6 : Int32) (0 : Int32) (0 : Int32))
def f_J6_bitCount_0f7a4 (i0 : Int32) : Option Int32 :=
    (nm (i0 - (((i0.toUInt32 >>> ((1 : Int32).toUInt32 &&& Int32.toUInt32 31)).toInt32) &&& (1431655765 : Int32))) (fun y1 => (nm ((y1 &&& (858993459 : Int32)) + (((y1.toUInt32 >>> ((2 : Int32).toUInt32 &&& Int32.toUInt32 31)).toInt32) &&& (858993459 : Int32))) (fun y2 => (nm ((y2 + ((y2.toUInt32 >>> ((4 : Int32).toUInt32 &&& Int32.toUInt32 31)).toInt32)) &&& (252645135 : Int32)) (fun y3 => (nm (y3 + ((y3.toUInt32 >>> ((8 : Int32).toUInt32 &&& Int32.toUInt32 31)).toInt32)) (fun y4 => (nm (y4 + ((y4.toUInt32 >>> ((16 : Int32).toUInt32 &&& Int32.toUInt32 31)).toInt32)) (fun y5 => (some (y5 &&& (63 : Int32)))))))))))))
def l_X3_seek_47 (self : Int32 → Int32 → Int32 → Int32 → Int32 → Sg → Option Sg) (a1 : Int32) (a2 : Int32) (a3 : Int32) (a4 : Int32) (a5 : Int32) (k143 : Sg → Option Sg) : Nat → Int32 → Sg → Option Sg
  | 0, _, _ => none
  | N1 + 1, x6, σx =>
    (if (6 : Int32) ≤ x6 then
    (k143 σx)
    else
    (nm (mabs (x6 - a3)) (fun y4 => (bnd (f_X0_get 35 x6 σx) (fun r5 => (nm ((a4 + y4) + r5) (fun y6 => (bnd (f_X5_holds a2 x6) (fun r7 => (nm (fun (σj137 : Sg) => (nm (x6 + (1 : Int32)) (fun y8 => (l_X3_seek_47 self a1 a2 a3 a4 a5 k143 N1 y8 σj137))))
    (fun k137 => (bf r7
    (bnd (f_X0_get 36 x6 σx) (fun r9 => (if r9 < y6 then
    (k137 σx)
    else
    (bnd (f_X0_set 34 a1 x6 σx) (fun σ10 => (bnd (self (a1 + (1 : Int32)) (a2 &&& (((1 : Int32) <<< (x6 &&& 31)) ^^^ (-1 : Int32))) x6 y6 (a5 + y4) σ10) (fun σ11 => (k137 σ11))))))))
    (k137 σx)))))))))))))
def f_X3_seek : Nat → Int32 → Int32 → Int32 → Int32 → Int32 → Sg → Option Sg
  | 0, _, _, _, _, _, _ => none
  | N0 + 1, i1, i2, i3, i4, i5, σ => (fun self => (if (6 : Int32) < i1 then
    (some σ)
    else
    (bnd (f_X3_walkOver i2 i3) (fun r1 => (if (i5 + r1) < (gS σ 37) then
    (if i2 = 0 then
    (nm (pS σ 37 i5) (fun σ2 => (bnd (f_X0_takeFrom 37 34 σ2) (fun σ3 => (some σ3)))))
    else
    (l_X3_seek_47 self i1 i2 i3 i4 i5 
    (fun (σv143 : Sg) => (some σv143)) FU (0 : Int32) σ))
    else
    (some σ)))))) (f_X3_seek N0)
def l_X4_tapsLeft_4 (b0 : Nat) (a1 : Int32) (σ : Sg) (k42 : Int32 → Option Int32) : Nat → Int32 → Int32 → Option Int32
  | 0, _, _ => none
  | N1 + 1, x2, x3 =>
    (if (gS σ (16 * b0 + 7)) ≤ x3 then
    (k42 x2)
    else
    (bnd (f_X5_holds a1 x3) (fun r1 => (nm (fun (t0_34 : Int32) => (nm (x2 + t0_34) (fun y2 => (nm (x3 + (1 : Int32)) (fun y3 => (l_X4_tapsLeft_4 b0 a1 σ k42 N1 y2 y3))))))
    (fun k34 => (bf r1
    (bnd (f_X4_more b0 x3 σ) (fun r4 => (k34 (mmax (0 : Int32) r4))))
    (k34 (0 : Int32))))))))
def f_X4_tapsLeft (g0 : Nat) (i1 : Int32) (σ : Sg) : Option Int32 :=
    (l_X4_tapsLeft_4 g0 i1 σ 
    (fun (v2_42 : Int32) => (some v2_42)) FU (0 : Int32) (0 : Int32))
def f_X3_fewest (g1 : Nat) (i2 : Int32) (σ : Sg) : Option (Int32 × Sg) :=
    (bnd (f_X3_start g1 σ) (fun σ1 => (bnd (f_X4_tapsLeft g1 i2 σ1) (fun r2 => (nm (pS σ1 37 (1000 : Int32)) (fun σ3 => (bnd (f_J6_bitCount_0f7a4 i2) (fun r4 => (bnd (f_X0_fill 34 r4 (0 : Int32) σ3) (fun σ5 => (bnd (f_X3_seek 9 (0 : Int32) i2 (gS σ5 (16 * g1 + 13)) (0 : Int32) (0 : Int32) σ5) (fun σ6 => (if (gS σ6 37) = (1000 : Int32) then
    (some ((-9 : Int32), σ6))
    else
    (some (((gS σ6 37) + r2), σ6)))))))))))))))
def l_X3_endAt_44 (a2 : Int32) (a4 : Int32) (σ : Sg) (k126 : Int32 → Option Int32) : Nat → Int32 → Int32 → Option Int32
  | 0, _, _ => none
  | N1 + 1, x5, x6 =>
    (if (6 : Int32) ≤ x6 then
    (k126 x5)
    else
    (bnd (f_X5_holds a4 x6) (fun r3 => (nm (fun (t0_81 : Int32) => (nm (t0_81 + (mabs (a2 - x6))) (fun y4 => (nm (fun (u5_120 : Int32) => (nm (x6 + (1 : Int32)) (fun y5 => (l_X3_endAt_44 a2 a4 σ k126 N1 u5_120 y5))))
    (fun k120 => (if t0_81 = (-9 : Int32) then
    (k120 x5)
    else
    (nm (k120 y4)
    (fun k116 => (if x5 = (-9 : Int32) then
    k116
    else
    (if x5 ≤ y4 then
    (k120 x5)
    else
    k116))))))))))
    (fun k81 => (bf r3
    (bnd (f_X0_get 33 ((a4 * (6 : Int32)) + x6) σ) (fun r6 => (k81 r6)))
    (k81 (-9 : Int32))))))))
def f_X3_endAt (i1 : Int32) (i2 : Int32) (i3 : Int32) (σ : Sg) : Option Int32 :=
    (bnd (f_X0_get 35 i2 σ) (fun r1 => (if 0 < r1 then
    (nm (i1 &&& (((1 : Int32) <<< (i2 &&& 31)) ^^^ (-1 : Int32))) (fun y2 => (nm (fun (t0_39 : Int32) => (l_X3_endAt_44 i2 y2 σ 
    (fun (v5_126 : Int32) => (nm (fun (t0_160 : Bool) => (bf t0_160
    (bnd (f_X0_get 35 i2 σ) (fun r7 => (some (v5_126 + r7))))
    (some (-9 : Int32))))
    (fun k160 => (nm (k160 false)
    (fun k159 => (if v5_126 = (-9 : Int32) then
    k159
    else
    (bnd (f_X0_get 35 i2 σ) (fun r8 => (bnd (f_X0_get 36 i2 σ) (fun r9 => (if r9 < (v5_126 + r8) then
    k159
    else
    (k160 true)))))))))))) FU t0_39 (0 : Int32)))
    (fun k39 => (if y2 = 0 then
    (k39 (mabs (i2 - i3)))
    else
    (k39 (-9 : Int32)))))))
    else
    (some (-9 : Int32)))))
def l_X3_greatest_41 (b1 : Nat) (a2 : Int32) (a3 : Int32) (k118 : Bool → Sg → Option (Int32 × Sg)) : Nat → Bool → Int32 → Sg → Option (Int32 × Sg)
  | 0, _, _, _ => none
  | N1 + 1, x4, x5, σx =>
    (if (gS σx (16 * b1 + 7)) ≤ x5 then
    (k118 x4 σx)
    else
    (bnd (f_X5_holds a3 x5) (fun r3 => (nm (fun (t0_75 : Int32) => (bnd (f_X0_set 33 ((a3 * (6 : Int32)) + x5) t0_75 σx) (fun σ4 => (nm (fun (t0_110 : Bool) => (nm (x5 + (1 : Int32)) (fun y5 => (l_X3_greatest_41 b1 a2 a3 k118 N1 t0_110 y5 σ4))))
    (fun k110 => (nm (k110 true)
    (fun k105 => (bf x4
    k105
    (if t0_75 = (-9 : Int32) then
    (k110 false)
    else
    k105)))))))))
    (fun k75 => (bf r3
    (bnd (f_X3_endAt a3 x5 (gS σx (16 * b1 + 13)) σx) (fun r6 => (k75 r6)))
    (k75 (-9 : Int32))))))))
def l_X3_greatest_25 (b1 : Nat) (k146 : Int32 → Sg → Option (Int32 × Sg)) : Nat → Int32 → Int32 → Sg → Option (Int32 × Sg)
  | 0, _, _, _ => none
  | N1 + 1, x2, x3, σx =>
    (if ((1 : Int32) <<< ((gS σx (16 * b1 + 7)) &&& 31)) ≤ x3 then
    (k146 x2 σx)
    else
    (l_X3_greatest_41 b1 x2 x3 
    (fun (v4_118 : Bool) (σv118 : Sg) => (nm (fun (t0_139 : Int32) => (nm (x3 + (1 : Int32)) (fun y7 => (l_X3_greatest_25 b1 k146 N1 t0_139 y7 σv118))))
    (fun k139 => (nm (k139 x2)
    (fun k138 => (bf v4_118
    (bnd (f_J6_bitCount_0f7a4 x3) (fun r8 => (bnd (f_J6_bitCount_0f7a4 x2) (fun r9 => (if r8 ≤ r9 then
    k138
    else
    (k139 x3))))))
    k138)))))) FU false (0 : Int32) σx))
def f_X3_greatest (g1 : Nat) (σ : Sg) : Option (Int32 × Sg) :=
    (bnd (f_X3_start g1 σ) (fun σ1 => (bnd (f_X0_fill 33 ((6 : Int32) <<< ((gS σ1 (16 * g1 + 7)) &&& 31)) (-9 : Int32) σ1) (fun σ2 => (l_X3_greatest_25 g1 
    (fun (v2_146 : Int32) (σv146 : Sg) => (some (v2_146, σv146))) FU (0 : Int32) (1 : Int32) σ2)))))
def f_X4_sleep (g0 : Nat) (σ : Sg) : Option Sg :=
    (bnd (f_X0_fill (stI g0 4) (gS σ (16 * g0 + 7)) (0 : Int32) σ) (fun σ1 => (bnd (f_X0_fill (stI g0 5) (gS σ1 (16 * g0 + 7)) (-9 : Int32) σ1) (fun σ2 => (nm (pS σ2 (16 * g0 + 11) (0 : Int32)) (fun σ3 => (nm (pS σ3 (16 * g0 + 13) (0 : Int32)) (fun σ4 => (some σ4)))))))))
def f_X4_fee (g0 : Nat) (i1 : Int32) (σ : Sg) : Option Int32 :=
    (bnd (f_X0_get (stI g0 0) i1 σ) (fun r1 => (bnd (f_X1_fee r1) (fun r2 => (some r2)))))
def f_X4_hear (g0 : Nat) (i1 : Int32) (σ : Sg) : Option Sg :=
    (bnd (f_X0_get (stI g0 4) i1 σ) (fun r1 => (bnd (f_X0_set (stI g0 4) i1 (r1 + (1 : Int32)) σ) (fun σ2 => (bnd (f_X0_get (stI g0 3) i1 σ2) (fun r3 => (bnd (f_X4_tapsFor g0 i1 r3 σ2) (fun r4 => (bnd (f_X4_isAwake g0 i1 σ2) (fun r5 => (bf r5
    (some σ2)
    (if r4 = (-9 : Int32) then
    (some σ2)
    else
    (bnd (f_X0_get (stI g0 4) i1 σ2) (fun r6 => (if r6 < r4 then
    (some σ2)
    else
    (bnd (f_X0_get (stI g0 3) i1 σ2) (fun r7 => (bnd (f_X0_set (stI g0 5) i1 r7 σ2) (fun σ8 => (bnd (f_X4_fee g0 i1 σ8) (fun r9 => (nm (pS σ8 (16 * g0 + 14) (mmin (9999 : Int32) ((gS σ8 (16 * g0 + 14)) + r9))) (fun σ10 => (some σ10))))))))))))))))))))))))
def f_X4_perform (g0 : Nat) (i1 : Int32) (σ : Sg) : Option Sg :=
    (nm ((i1 / (100 : Int32)) - (i1 / (100 : Int32)) / (10 : Int32) * (10 : Int32)) (fun y1 => (nm (i1 - i1 / (100 : Int32) * (100 : Int32)) (fun y2 => (if (i1 / (1000 : Int32)) = (0 : Int32) then
    (nm (pS σ (16 * g0 + 11) ((gS σ (16 * g0 + 11)) + (mabs (y1 - (gS σ (16 * g0 + 13)))))) (fun σ3 => (nm (pS σ3 (16 * g0 + 13) y1) (fun σ4 => (some σ4)))))
    else
    (if (i1 / (1000 : Int32)) = (1 : Int32) then
    (nm (pS σ (16 * g0 + 11) ((gS σ (16 * g0 + 11)) + (1 : Int32))) (fun σ5 => (bnd (f_X4_hear g0 (gS σ5 (16 * g0 + 13)) σ5) (fun σ6 => (some σ6)))))
    else
    (if (i1 / (1000 : Int32)) = (2 : Int32) then
    (bnd (f_X0_set (stI g0 3) y1 y2 σ) (fun σ7 => (bnd (f_X0_set (stI g0 4) y1 (0 : Int32) σ7) (fun σ8 => (some σ8)))))
    else
    (if (i1 / (1000 : Int32)) = (3 : Int32) then
    (nm (pS σ (16 * g0 + 10) y2) (fun σ9 => (some σ9)))
    else
    (nm (pS σ (16 * g0 + 12) ((gS σ (16 * g0 + 12)) + (1 : Int32))) (fun σ10 => (bnd (f_X4_sleep g0 σ10) (fun σ11 => (some σ11)))))))))))))
def l_X4_replay_35 (b0 : Nat) (k64 : Sg → Option Sg) : Nat → Int32 → Sg → Option Sg
  | 0, _, _ => none
  | N1 + 1, x1, σx =>
    (if (gS σx (16 * (stI b0 6) + 1)) ≤ x1 then
    (k64 σx)
    else
    (bnd (f_X0_get (stI b0 6) x1 σx) (fun r6 => (bnd (f_X4_perform b0 r6 σx) (fun σ7 => (nm (x1 + (1 : Int32)) (fun y8 => (l_X4_replay_35 b0 k64 N1 y8 σ7))))))))
def f_X4_replay (g0 : Nat) (σ : Sg) : Option Sg :=
    (bnd (f_X0_takeFrom (stI g0 3) (stI g0 2) σ) (fun σ1 => (nm (pS σ1 (16 * g0 + 10) (gS σ1 (16 * g0 + 9))) (fun σ2 => (nm (pS σ2 (16 * g0 + 12) (0 : Int32)) (fun σ3 => (nm (pS σ3 (16 * g0 + 14) (0 : Int32)) (fun σ4 => (bnd (f_X4_sleep g0 σ4) (fun σ5 => (l_X4_replay_35 g0 
    (fun (σv64 : Sg) => (some σv64)) FU (0 : Int32) σ5)))))))))))
def f_X4_does (g0 : Nat) (i1 : Int32) (i2 : Int32) (i3 : Int32) (σ : Sg) : Option Sg :=
    (nm (((i1 * (1000 : Int32)) + (i2 * (100 : Int32))) + i3) (fun y1 => (bnd (f_X0_add (stI g0 6) y1 σ) (fun σ2 => (bnd (f_X4_perform g0 y1 σ2) (fun σ3 => (some σ3)))))))
def f_X4_isSet (g0 : Nat) (i1 : Int32) (σ : Sg) : Option Bool :=
    (if i1 < 0 then
    (some false)
    else
    (if ((1 : Int32) <<< ((gS σ (16 * g0 + 7)) &&& 31)) ≤ i1 then
    (some false)
    else
    (some true)))
def f_X4_tell (g0 : Nat) (i1 : Int32) (i2 : Int32) (σ : Sg) : Option Int32 :=
    (if i2 = (0 : Int32) then
    (bnd (f_X0_get (stI g0 0) i1 σ) (fun r1 => (some r1)))
    else
    (if i2 = (1 : Int32) then
    (bnd (f_X0_get (stI g0 3) i1 σ) (fun r2 => (some r2)))
    else
    (if i2 = (2 : Int32) then
    (bnd (f_X0_get (stI g0 1) i1 σ) (fun r3 => (some r3)))
    else
    (if i2 = (3 : Int32) then
    (bnd (f_X0_get (stI g0 4) i1 σ) (fun r4 => (some r4)))
    else
    (if i2 = (4 : Int32) then
    (bnd (f_X0_get (stI g0 5) i1 σ) (fun r5 => (some r5)))
    else
    (bnd (f_X4_more g0 i1 σ) (fun r6 => (some r6))))))))
def l_X4_awakeSet_4 (b0 : Nat) (σ : Sg) (k32 : Int32 → Option Int32) : Nat → Int32 → Int32 → Option Int32
  | 0, _, _ => none
  | N1 + 1, x1, x2 =>
    (if (gS σ (16 * b0 + 7)) ≤ x2 then
    (k32 x1)
    else
    (bnd (f_X4_isAwake b0 x2 σ) (fun r1 => (nm (fun (u1_26 : Int32) => (nm (x2 + (1 : Int32)) (fun y2 => (l_X4_awakeSet_4 b0 σ k32 N1 u1_26 y2))))
    (fun k26 => (bf r1
    (nm (x1 ||| ((1 : Int32) <<< (x2 &&& 31))) (fun y3 => (k26 y3)))
    (k26 x1)))))))
def f_X4_awakeSet (g0 : Nat) (σ : Sg) : Option Int32 :=
    (l_X4_awakeSet_4 g0 σ 
    (fun (v1_32 : Int32) => (some v1_32)) FU (0 : Int32) (0 : Int32))
def l_X4_canWake_2 (b0 : Nat) (a1 : Int32) (σ : Sg) : Nat → Int32 → Option Bool
  | 0, _ => none
  | N1 + 1, x2 =>
    (if (gS σ (16 * b0 + 7)) ≤ x2 then
    (some true)
    else
    (bnd (f_X5_holds a1 x2) (fun r1 => (nm (nm (x2 + (1 : Int32)) (fun y2 => (l_X4_canWake_2 b0 a1 σ N1 y2)))
    (fun k28 => (bf r1
    (bnd (f_X4_more b0 x2 σ) (fun r3 => (if 0 < r3 then
    k28
    else
    (some false))))
    k28))))))
def f_X4_canWake (g0 : Nat) (i1 : Int32) (σ : Sg) : Option Bool :=
    (l_X4_canWake_2 g0 i1 σ FU (0 : Int32))
def l_X4_fees_4 (b0 : Nat) (a1 : Int32) (σ : Sg) (k38 : Int32 → Option Int32) : Nat → Int32 → Int32 → Option Int32
  | 0, _, _ => none
  | N1 + 1, x2, x3 =>
    (if (gS σ (16 * b0 + 7)) ≤ x3 then
    (k38 x2)
    else
    (bnd (f_X5_holds a1 x3) (fun r1 => (nm (fun (t0_30 : Int32) => (nm (x2 + t0_30) (fun y2 => (nm (x3 + (1 : Int32)) (fun y3 => (l_X4_fees_4 b0 a1 σ k38 N1 y2 y3))))))
    (fun k30 => (bf r1
    (bnd (f_X4_fee b0 x3 σ) (fun r4 => (k30 r4)))
    (k30 (0 : Int32))))))))
def f_X4_fees (g0 : Nat) (i1 : Int32) (σ : Sg) : Option Int32 :=
    (l_X4_fees_4 g0 i1 σ 
    (fun (v2_38 : Int32) => (some v2_38)) FU (0 : Int32) (0 : Int32))
def l_X4_manyOf_4 (b0 : Nat) (a1 : Int32) (σ : Sg) (k41 : Int32 → Option Int32) : Nat → Int32 → Int32 → Option Int32
  | 0, _, _ => none
  | N1 + 1, x2, x3 =>
    (if (gS σ (16 * b0 + 7)) ≤ x3 then
    (k41 x2)
    else
    (bnd (f_X0_get (stI b0 0) x3 σ) (fun r1 => (bnd (f_X1_isOf r1 a1) (fun r2 => (nm (fun (t0_33 : Bool) => (nm (x2 + (b2i t0_33)) (fun y3 => (nm (x3 + (1 : Int32)) (fun y4 => (l_X4_manyOf_4 b0 a1 σ k41 N1 y3 y4))))))
    (fun k33 => (bf r2
    (k33 true)
    (k33 false)))))))))
def f_X4_manyOf (g0 : Nat) (i1 : Int32) (σ : Sg) : Option Int32 :=
    (l_X4_manyOf_4 g0 i1 σ 
    (fun (v2_41 : Int32) => (some v2_41)) FU (0 : Int32) (0 : Int32))
def l_X4_nextByDate_6 (b0 : Nat) (a1 : Int32) (a2 : Int32) (σ : Sg) (k79 : Int32 → Option Int32) : Nat → Int32 → Int32 → Option Int32
  | 0, _, _ => none
  | N1 + 1, x3, x4 =>
    (if (gS σ (16 * b0 + 7)) ≤ x4 then
    (k79 x3)
    else
    (nm (fun (t0_50 : Bool) => (bnd (f_X5_holds a1 x4) (fun r1 => (nm (fun (t0_72 : Int32) => (nm (x4 + (1 : Int32)) (fun y2 => (l_X4_nextByDate_6 b0 a1 a2 σ k79 N1 t0_72 y2))))
    (fun k72 => (nm (k72 x3)
    (fun k71 => (bf r1
    k71
    (bf t0_50
    (k72 x4)
    k71)))))))))
    (fun k50 => (nm (k50 true)
    (fun k45 => (if x3 = (-9 : Int32) then
    k45
    else
    (bnd (f_X0_get (stI b0 3) x4 σ) (fun r3 => (bnd (f_X0_get (stI b0 3) x3 σ) (fun r4 => (if (a2 * r4) ≤ (a2 * r3) then
    (k50 false)
    else
    k45)))))))))))
def f_X4_nextByDate (g0 : Nat) (i1 : Int32) (i2 : Int32) (σ : Sg) : Option Int32 :=
    (l_X4_nextByDate_6 g0 i1 i2 σ 
    (fun (v3_79 : Int32) => (some (mmax (0 : Int32) v3_79))) FU (-9 : Int32) (0 : Int32))
def l_X4_mostAwake_17 (b0 : Nat) (a1 : Int32) (a2 : Int32) (a5 : Int32) (σ : Sg) (k60 : Int32 → Int32 → Option Int32) : Nat → Int32 → Int32 → Int32 → Option Int32
  | 0, _, _, _ => none
  | N1 + 1, x3, x4, x6 =>
    (if (gS σ (16 * b0 + 7)) ≤ x6 then
    (k60 x3 x4)
    else
    (bnd (f_X4_more b0 x6 σ) (fun r1 => (nm (fun (u3_54 : Int32) (u4_54 : Int32) => (nm (x6 + (2 : Int32)) (fun y2 => (l_X4_mostAwake_17 b0 a1 a2 a5 σ k60 N1 u3_54 u4_54 y2))))
    (fun k54 => (if r1 = a5 then
    (if x4 < a5 then
    (k54 x3 x4)
    else
    (nm (x4 - a5) (fun y3 => (nm (x3 + (1 : Int32)) (fun y4 => (k54 y4 y3))))))
    else
    (k54 x3 x4)))))))
def l_X4_mostAwake_8 (b0 : Nat) (a1 : Int32) (a2 : Int32) (σ : Sg) (k66 : Int32 → Option Int32) : Nat → Int32 → Int32 → Int32 → Option Int32
  | 0, _, _, _ => none
  | N1 + 1, x3, x4, x5 =>
    (if a2 < x5 then
    (k66 x3)
    else
    (l_X4_mostAwake_17 b0 a1 a2 x5 σ 
    (fun (v3_60 : Int32) (v4_60 : Int32) => (nm (x5 + (1 : Int32)) (fun y5 => (l_X4_mostAwake_8 b0 a1 a2 σ k66 N1 v3_60 v4_60 y5)))) FU x3 x4 a1))
def f_X4_mostAwake (g0 : Nat) (i1 : Int32) (i2 : Int32) (σ : Sg) : Option Int32 :=
    (l_X4_mostAwake_8 g0 i1 i2 σ 
    (fun (v3_66 : Int32) => (some v3_66)) FU (0 : Int32) i2 (0 : Int32))
def f_X5_found (i1 : Int32) (σ : Sg) : Option (Int32 × Sg) :=
    (nm (pS σ 8 i1) (fun σ1 => (bnd (f_X0_get 18 i1 σ1) (fun r2 => (bnd (f_X0_set 18 i1 (r2 + (1 : Int32)) σ1) (fun σ3 => (some ((-3 : Int32), σ3))))))))
def f_X5_within (i0 : Int32) (i1 : Int32) (i2 : Int32) : Option Bool :=
    (if i0 < i1 then
    (some false)
    else
    (if i2 < i0 then
    (some false)
    else
    (some true)))
def f_X5_isDate (i0 : Int32) : Option Bool :=
    (bnd (f_X5_within i0 (0 : Int32) (99 : Int32)) (fun r1 => (some r1)))
def f_X5_pick (g0 : Nat) (i1 : Int32) : Option (Option Nat) :=
    (if i1 < 0 then
    (some none)
    else
    (if (nI (rLen g0)) ≤ i1 then
    (some none)
    else
    (ck (inB i1 (rLen g0)) (some (some (rBase g0 + i1.toNatClampNeg))))))
def f_X5_refused (o1 : Option Nat) (σ : Sg) : Option (Int32 × Sg) :=
    oc o1
    (some ((-1 : Int32), σ))
    (fun q1 => (if 0 ≤ (gS σ (16 * q1 + 1)) then
    (some ((0 : Int32), σ))
    else
    (bnd2 (f_X5_found (1 : Int32) σ) (fun r1 σ1 => (some (r1, σ1))))))
def f_X5_refusedAt (o1 : Option Nat) (i2 : Int32) (σ : Sg) : Option (Int32 × Sg) :=
    oc o1
    (bnd2 (f_X5_refused none σ) (fun r1 σ1 => (some (r1, σ1))))
    (fun q1 => (bnd2 (f_X5_refused (some q1) σ) (fun r2 σ2 => (if r2 = 0 then
    (bnd (f_X0_has q1 i2 σ2) (fun r3 => (bf r3
    (some ((0 : Int32), σ2))
    (bnd2 (f_X5_found (2 : Int32) σ2) (fun r4 σ4 => (some (r4, σ4)))))))
    else
    (some (r2, σ2))))))
def l_X5_present_4 (b0 : Nat) (σ : Sg) (k34 : Int32 → Option Int32) : Nat → Int32 → Int32 → Option Int32
  | 0, _, _ => none
  | N1 + 1, x1, x2 =>
    (if (nI (rLen b0)) ≤ x2 then
    (k34 x1)
    else
    (ck (inB x2 (rLen b0)) (nm (fun (u1_28 : Int32) => (nm (x2 + (1 : Int32)) (fun y2 => (l_X5_present_4 b0 σ k34 N1 u1_28 y2))))
    (fun k28 => (if (gS σ (16 * (rBase b0 + x2.toNatClampNeg) + 1)) < 0 then
    (k28 x1)
    else
    (nm (x1 + (1 : Int32)) (fun y3 => (k28 y3))))))))
def f_X5_present (g0 : Nat) (σ : Sg) : Option Int32 :=
    (l_X5_present_4 g0 σ 
    (fun (v1_34 : Int32) => (some v1_34)) FU (0 : Int32) (0 : Int32))
def f_X5_row (i1 : Int32) (i2 : Int32) (σ : Sg) : Option (Int32 × Sg) :=
    (bnd (f_X5_pick 71 i1) (fun r1 => oc r1
    (some ((-1 : Int32), σ))
    (fun g1 => (if i2 ≤ (40 : Int32) then
    (if 0 ≤ i2 then
    (bnd (f_X0_fill g1 i2 (0 : Int32) σ) (fun σ2 => (some (i2, σ2))))
    else
    (bnd2 (f_X5_found (5 : Int32) σ) (fun r3 σ3 => (some (r3, σ3)))))
    else
    (some ((-1 : Int32), σ))))))
def f_X5_lay (i1 : Int32) (i2 : Int32) (i3 : Int32) (σ : Sg) : Option (Int32 × Sg) :=
    (bnd (f_X5_pick 71 i1) (fun r1 => oc r1
    (bnd2 (f_X5_refusedAt none i2 σ) (fun r2 σ2 => (some (r2, σ2))))
    (fun g1 => (bnd2 (f_X5_refusedAt (some g1) i2 σ) (fun r3 σ3 => (if r3 = 0 then
    (bnd (f_X0_get g1 i2 σ3) (fun r4 => (nm (pS σ3 9 r4) (fun σ5 => (bnd (f_X0_set g1 i2 i3 σ5) (fun σ6 => (some ((1 : Int32), σ6))))))))
    else
    (some (r3, σ3))))))))
def f_X5_at (i1 : Int32) (i2 : Int32) (σ : Sg) : Option (Int32 × Sg) :=
    (bnd (f_X5_pick 71 i1) (fun r1 => oc r1
    (bnd2 (f_X5_refusedAt none i2 σ) (fun r2 σ2 => (some (r2, σ2))))
    (fun g1 => (bnd2 (f_X5_refusedAt (some g1) i2 σ) (fun r3 σ3 => (if r3 = 0 then
    (bnd (f_X0_get g1 i2 σ3) (fun r4 => (nm (pS σ3 9 r4) (fun σ5 => (some ((1 : Int32), σ5))))))
    else
    (some (r3, σ3))))))))
def f_X5_text (i1 : Int32) (i2 : Int32) (σ : Sg) : Option (Int32 × Sg) :=
    (bnd (f_X5_pick 72 i1) (fun r1 => oc r1
    (some ((-1 : Int32), σ))
    (fun g1 => (if i2 ≤ (60 : Int32) then
    (if 0 ≤ i2 then
    (bnd (f_X0_fill g1 i2 (32 : Int32) σ) (fun σ2 => (some (i2, σ2))))
    else
    (bnd2 (f_X5_found (5 : Int32) σ) (fun r3 σ3 => (some (r3, σ3)))))
    else
    (some ((-1 : Int32), σ))))))
def f_X5_put (i1 : Int32) (i2 : Int32) (i3 : Int32) (σ : Sg) : Option (Int32 × Sg) :=
    (bnd (f_X5_pick 72 i1) (fun r1 => oc r1
    (bnd2 (f_X5_refusedAt none i2 σ) (fun r2 σ2 => (some (r2, σ2))))
    (fun g1 => (bnd2 (f_X5_refusedAt (some g1) i2 σ) (fun r3 σ3 => (if r3 = 0 then
    (bnd (f_X0_get g1 i2 σ3) (fun r4 => (bnd (f_X0_set g1 i2 (i3.toInt8.toInt32) σ3) (fun σ5 => (some (((1000 : Int32) + r4), σ5))))))
    else
    (some (r3, σ3))))))))
def f_X5_fault (i1 : Int32) (σ : Sg) : Option (Int32 × Sg) :=
    (bnd (f_X5_pick 72 i1) (fun r1 => oc r1
    (bnd2 (f_X5_refused none σ) (fun r2 σ2 => (some (r2, σ2))))
    (fun g1 => (bnd2 (f_X5_refused (some g1) σ) (fun r3 σ3 => (if r3 = 0 then
    (bnd2 (f_X2_read g1 (gR σ3 1) σ3) (fun r5 σ5 => (some (r5, σ5))))
    else
    (some (r3, σ3))))))))
def l_X5_town_87 (k122 : Sg → Option (Int32 × Sg)) : Nat → Int32 → Sg → Option (Int32 × Sg)
  | 0, _, _ => none
  | N1 + 1, x5, σx =>
    (if (nI (rLen 73)) ≤ x5 then
    (k122 σx)
    else
    (ck (inB x5 (rLen 73)) (nm (fun (σj116 : Sg) => (nm (x5 + (1 : Int32)) (fun y15 => (l_X5_town_87 k122 N1 y15 σj116))))
    (fun k116 => (bnd (f_X0_drop (rBase 73 + x5.toNatClampNeg) σx) (fun σ16 => (k116 σ16)))))))
def f_X5_town (i1 : Int32) (σ : Sg) : Option (Int32 × Sg) :=
    (bnd (f_X5_pick 72 i1) (fun r1 => oc r1
    (bnd2 (f_X5_refused none σ) (fun r2 σ2 => (some (r2, σ2))))
    (fun g1 => (bnd2 (f_X5_refused (some g1) σ) (fun r3 σ3 => (if r3 = 0 then
    (bnd2 (f_X2_read g1 (gR σ3 1) σ3) (fun r5 σ5 => (if r5 = (-9 : Int32) then
    (nm (pR σ5 0 (gR σ5 1)) (fun σ8 => (nm (pR σ8 1 (gR σ5 0)) (fun σ9 => (bnd (f_X0_fill (stI (gR σ9 0) 6) (0 : Int32) (0 : Int32) σ9) (fun σ11 => (bnd (f_X4_replay (gR σ11 0) σ11) (fun σ13 => (l_X5_town_87 
    (fun (σv122 : Sg) => (some ((gS σv122 (16 * (gR σv122 0) + 7)), σv122))) FU (0 : Int32) σ13)))))))))
    else
    (some ((-4 : Int32), σ5)))))
    else
    (some (r3, σ3))))))))
def f_X5_house (i1 : Int32) (i2 : Int32) (σ : Sg) : Option (Int32 × Sg) :=
    (bnd (f_X4_isHouse (gR σ 0) i1 σ) (fun r2 => (bf r2
    (bnd (f_X5_within i2 (0 : Int32) (5 : Int32)) (fun r3 => (bf r3
    (bnd (f_X4_tell (gR σ 0) i1 i2 σ) (fun r5 => (nm (pS σ 9 r5) (fun σ6 => (some ((1 : Int32), σ6))))))
    (some ((-1 : Int32), σ)))))
    (some ((-1 : Int32), σ)))))
def f_X5_isFull (i1 : Int32) (σ : Sg) : Option Bool :=
    (if ((gS σ (16 * (stI (gR σ 0) 6) + 1)) + i1) ≤ (40 : Int32) then
    (some false)
    else
    (some true))
def f_X5_walk (i1 : Int32) (σ : Sg) : Option (Int32 × Sg) :=
    (bnd (f_X4_isHouse (gR σ 0) i1 σ) (fun r2 => (bf r2
    (if (gS σ (16 * (gR σ 0) + 13)) = i1 then
    (some ((-4 : Int32), σ))
    else
    (bnd (f_X5_isFull (1 : Int32) σ) (fun r4 => (bf r4
    (some ((-2 : Int32), σ))
    (bnd (f_X4_does (gR σ 0) (0 : Int32) i1 (0 : Int32) σ) (fun σ6 => (some ((gS σ6 (16 * (gR σ6 0) + 11)), σ6))))))))
    (some ((-1 : Int32), σ)))))
def f_X5_tap  (σ : Sg) : Option (Int32 × Sg) :=
    (if (gS σ (16 * (gR σ 0) + 7)) = 0 then
    (some ((-4 : Int32), σ))
    else
    (bnd (f_X5_isFull (1 : Int32) σ) (fun r2 => (bf r2
    (some ((-2 : Int32), σ))
    (bnd (f_X4_does (gR σ 0) (1 : Int32) (0 : Int32) (0 : Int32) σ) (fun σ4 => (bnd (f_X4_isAwake (gR σ4 0) (gS σ4 (16 * (gR σ4 0) + 13)) σ4) (fun r7 => (bf r7
    (some ((1 : Int32), σ4))
    (some ((0 : Int32), σ4)))))))))))
def f_X5_slate (i1 : Int32) (i2 : Int32) (σ : Sg) : Option (Int32 × Sg) :=
    (bnd (f_X4_isHouse (gR σ 0) i1 σ) (fun r2 => (bf r2
    (bnd (f_X5_isDate i2) (fun r3 => (bf r3
    (bnd (f_X0_get (stI (gR σ 0) 3) i1 σ) (fun r5 => (if r5 = i2 then
    (some ((-4 : Int32), σ))
    else
    (bnd (f_X5_isFull (1 : Int32) σ) (fun r6 => (bf r6
    (some ((-2 : Int32), σ))
    (bnd (f_X4_does (gR σ 0) (2 : Int32) i1 i2 σ) (fun σ8 => (some (r5, σ8))))))))))
    (some ((-1 : Int32), σ)))))
    (some ((-1 : Int32), σ)))))
def f_X5_frost (i1 : Int32) (σ : Sg) : Option (Int32 × Sg) :=
    (bnd (f_X5_within i1 (0 : Int32) (1 : Int32)) (fun r1 => (bf r1
    (if (gS σ (16 * (gR σ 0) + 7)) = 0 then
    (some ((-4 : Int32), σ))
    else
    (if (gS σ (16 * (gR σ 0) + 10)) = i1 then
    (some ((-4 : Int32), σ))
    else
    (bnd (f_X5_isFull (1 : Int32) σ) (fun r4 => (bf r4
    (some ((-2 : Int32), σ))
    (bnd (f_X4_does (gR σ 0) (3 : Int32) (0 : Int32) i1 σ) (fun σ6 => (some (i1, σ6)))))))))
    (some ((-1 : Int32), σ)))))
def f_X5_night  (σ : Sg) : Option (Int32 × Sg) :=
    (if (gS σ (16 * (gR σ 0) + 7)) = 0 then
    (some ((-4 : Int32), σ))
    else
    (bnd (f_X5_isFull (1 : Int32) σ) (fun r2 => (bf r2
    (some ((-2 : Int32), σ))
    (bnd (f_X4_awakeSet (gR σ 0) σ) (fun r4 => (bnd (f_J6_bitCount_0f7a4 r4) (fun r5 => (bnd (f_X4_does (gR σ 0) (4 : Int32) (0 : Int32) (0 : Int32) σ) (fun σ7 => (some (r5, σ7))))))))))))
def f_X5_undo (i1 : Int32) (σ : Sg) : Option (Int32 × Sg) :=
    (nm (gS σ (16 * (stI (gR σ 0) 6) + 1)) (fun y2 => (bnd (f_X5_within i1 (0 : Int32) y2) (fun r3 => (bf r3
    (bnd (f_X0_cut (stI (gR σ 0) 6) i1 σ) (fun σ5 => (bnd (f_X4_replay (gR σ5 0) σ5) (fun σ7 => (some ((y2 - i1), σ7))))))
    (some ((-1 : Int32), σ)))))))
def f_X5_keep (i1 : Int32) (σ : Sg) : Option (Int32 × Sg) :=
    (bnd (f_X5_pick 73 i1) (fun r1 => oc r1
    (some ((-1 : Int32), σ))
    (fun g1 => (if (gS σ (16 * (gR σ 0) + 7)) = 0 then
    (some ((-4 : Int32), σ))
    else
    (bnd (f_X0_takeFrom g1 (stI (gR σ 0) 6) σ) (fun σ4 => (some ((gS σ4 (16 * g1 + 1)), σ4))))))))
def f_X5_on (i1 : Int32) (σ : Sg) : Option (Int32 × Sg) :=
    (bnd (f_X5_pick 73 i1) (fun r1 => oc r1
    (bnd2 (f_X5_refused none σ) (fun r2 σ2 => (some (r2, σ2))))
    (fun g1 => (bnd2 (f_X5_refused (some g1) σ) (fun r3 σ3 => (if r3 = 0 then
    (bnd (f_X0_takeFrom (stI (gR σ3 0) 6) g1 σ3) (fun σ5 => (bnd (f_X4_replay (gR σ5 0) σ5) (fun σ7 => (some ((gS σ7 (16 * (stI (gR σ7 0) 6) + 1)), σ7))))))
    else
    (some (r3, σ3))))))))
def f_X5_takes (i1 : Int32) (i2 : Int32) (σ : Sg) : Option Int32 :=
    (bnd (f_X4_isHouse (gR σ 0) i1 σ) (fun r2 => (bf r2
    (bnd (f_X5_isDate i2) (fun r3 => (bf r3
    (bnd (f_X4_tapsFor (gR σ 0) i1 i2 σ) (fun r5 => (some r5)))
    (some (-1 : Int32)))))
    (some (-1 : Int32)))))
def f_X5_pays (i1 : Int32) (σ : Sg) : Option Int32 :=
    (bnd (f_X4_isHouse (gR σ 0) i1 σ) (fun r2 => (bf r2
    (bnd (f_X4_fee (gR σ 0) i1 σ) (fun r4 => (some r4)))
    (some (-1 : Int32)))))
def l_X5_who_24 (a1 : Int32) (a2 : Int32) (σ : Sg) (k63 : Int32 → Option Int32) : Nat → Int32 → Int32 → Option Int32
  | 0, _, _ => none
  | N1 + 1, x3, x4 =>
    (if (gS σ (16 * (gR σ 0) + 7)) ≤ x4 then
    (k63 x3)
    else
    (bnd (f_X4_tapsFor (gR σ 0) x4 a1 σ) (fun r5 => (nm (fun (u3_57 : Int32) => (nm (x4 + (1 : Int32)) (fun y6 => (l_X5_who_24 a1 a2 σ k63 N1 u3_57 y6))))
    (fun k57 => (if r5 = a2 then
    (nm (x3 ||| ((1 : Int32) <<< (x4 &&& 31))) (fun y7 => (k57 y7)))
    else
    (k57 x3)))))))
def f_X5_who (i1 : Int32) (i2 : Int32) (σ : Sg) : Option Int32 :=
    (bnd (f_X5_isDate i1) (fun r1 => (bf r1
    (bnd (f_X5_within i2 (1 : Int32) (9 : Int32)) (fun r2 => (bf r2
    (l_X5_who_24 i1 i2 σ 
    (fun (v3_63 : Int32) => (some v3_63)) FU (0 : Int32) (0 : Int32))
    (some (-1 : Int32)))))
    (some (-1 : Int32)))))
def f_X5_soonest (i1 : Int32) (σ : Sg) : Option Int32 :=
    (bnd (f_X4_isSet (gR σ 0) i1 σ) (fun r2 => (bf r2
    (bnd (f_X4_canWake (gR σ 0) i1 σ) (fun r4 => (bf r4
    (bnd (f_X4_tapsLeft (gR σ 0) i1 σ) (fun r6 => (bnd (f_X3_walkOver i1 (gS σ (16 * (gR σ 0) + 13))) (fun r8 => (some (r6 + r8))))))
    (some (-4 : Int32)))))
    (some (-1 : Int32)))))
def f_X5_intime (i1 : Int32) (i2 : Int32) (σ : Sg) : Option (Int32 × Sg) :=
    (bnd (f_X5_pick 71 i2) (fun r1 => oc r1
    (some ((-1 : Int32), σ))
    (fun g1 => (bnd (f_X4_isSet (gR σ 0) i1 σ) (fun r3 => (bf r3
    (bnd (f_X4_canWake (gR σ 0) i1 σ) (fun r5 => (bf r5
    (bnd2 (f_X3_fewest (gR σ 0) i1 σ) (fun r7 σ7 => (if r7 = (-9 : Int32) then
    (some (r7, σ7))
    else
    (bnd (f_X0_takeFrom g1 37 σ7) (fun σ8 => (some (r7, σ8)))))))
    (some ((-4 : Int32), σ)))))
    (some ((-1 : Int32), σ))))))))
def f_X5_many  (σ : Sg) : Option (Int32 × Sg) :=
    (if (gS σ (16 * (gR σ 0) + 7)) = 0 then
    (some ((-4 : Int32), σ))
    else
    (bnd2 (f_X3_greatest (gR σ 0) σ) (fun r3 σ3 => (nm (pS σ3 9 r3) (fun σ4 => (bnd (f_J6_bitCount_0f7a4 (gS σ4 9)) (fun r5 => (some (r5, σ4)))))))))
def l_X5_dates_80 (b2 : Nat) (a3 : Int32) (a4 : Int32) (a5 : Int32) (k128 : Sg → Option (Int32 × Sg)) : Nat → Int32 → Int32 → Sg → Option (Int32 × Sg)
  | 0, _, _, _ => none
  | N1 + 1, x6, x7, σx =>
    (if (gS σx (16 * (gR σx 0) + 7)) ≤ x7 then
    (k128 σx)
    else
    (bnd (f_X4_nextByDate (gR σx 0) x6 a5 σx) (fun r11 => (bnd (f_X0_set b2 x7 r11 σx) (fun σ12 => (nm (x6 ||| ((1 : Int32) <<< (r11 &&& 31))) (fun y13 => (nm (x7 + (1 : Int32)) (fun y14 => (l_X5_dates_80 b2 a3 a4 a5 k128 N1 y13 y14 σ12))))))))))
def f_X5_dates (i1 : Int32) (σ : Sg) : Option (Int32 × Sg) :=
    (bnd (f_X5_pick 71 i1) (fun r1 => oc r1
    (some ((-1 : Int32), σ))
    (fun g1 => (if (gS σ (16 * (gR σ 0) + 7)) = 0 then
    (some ((-4 : Int32), σ))
    else
    (bnd (f_X4_nextByDate (gR σ 0) (0 : Int32) (1 : Int32) σ) (fun r4 => (bnd (f_X4_nextByDate (gR σ 0) (0 : Int32) (-1 : Int32) σ) (fun r6 => (nm (fun (t0_60 : Int32) => (bnd (f_X0_fill g1 (gS σ (16 * (gR σ 0) + 7)) (0 : Int32) σ) (fun σ8 => (l_X5_dates_80 g1 r4 r6 t0_60 
    (fun (σv128 : Sg) => (bnd (f_X0_get (stI (gR σv128 0) 3) r6 σv128) (fun r16 => (bnd (f_X0_get (stI (gR σv128 0) 3) r4 σv128) (fun r18 => (some ((r16 - r18), σv128))))))) FU (0 : Int32) (0 : Int32) σ8))))
    (fun k60 => (if r6 < r4 then
    (k60 (-1 : Int32))
    else
    (k60 (1 : Int32)))))))))))))
def l_X5_refusedPairs_42 (b1 : Nat) (σ : Sg) (k77 : Option (Int32 × Sg)) : Nat → Int32 → Option (Int32 × Sg)
  | 0, _ => none
  | N1 + 1, x3 =>
    (if (gS σ (16 * b1 + 1)) ≤ x3 then
    (some ((0 : Int32), σ))
    else
    (bnd (f_X0_get b1 x3 σ) (fun r4 => (bnd (f_X5_isDate r4) (fun r5 => (bf r5
    (bnd (f_X0_get b1 (x3 + (1 : Int32)) σ) (fun r6 => (bnd (f_X5_within r6 (0 : Int32) (9 : Int32)) (fun r7 => (bf r7
    (nm (x3 + (2 : Int32)) (fun y8 => (l_X5_refusedPairs_42 b1 σ k77 N1 y8)))
    k77)))))
    k77))))))
def f_X5_refusedPairs (o1 : Option Nat) (σ : Sg) : Option (Int32 × Sg) :=
    oc o1
    (bnd2 (f_X5_refused none σ) (fun r1 σ1 => (some (r1, σ1))))
    (fun q1 => (bnd2 (f_X5_refused (some q1) σ) (fun r2 σ2 => (if r2 = 0 then
    (nm (bnd2 (f_X5_found (5 : Int32) σ2) (fun r3 σ3 => (some (r3, σ3))))
    (fun k34 => (if ((gS σ2 (16 * q1 + 1)) - (gS σ2 (16 * q1 + 1)) / (2 : Int32) * (2 : Int32)) = 0 then
    (if (gS σ2 (16 * q1 + 1)) ≤ (16 : Int32) then
    (l_X5_refusedPairs_42 q1 σ2 
    ((bnd2 (f_X5_found (3 : Int32) σ2) (fun r9 σ9 => (some (r9, σ9))))) FU (0 : Int32))
    else
    k34)
    else
    k34)))
    else
    (some (r2, σ2))))))
def f_X5_tookOf (i0 : Int32) (i1 : Int32) (i2 : Int32) : Option Int32 :=
    (bnd (f_X1_taps i0 i1 i2) (fun r1 => (if r1 = (-9 : Int32) then
    (some (0 : Int32))
    else
    (some r1))))
def l_X5_canBe_2 (a1 : Int32) (b2 : Nat) (σ : Sg) : Nat → Int32 → Option Bool
  | 0, _ => none
  | N1 + 1, x3 =>
    (if (gS σ (16 * b2 + 1)) ≤ x3 then
    (some true)
    else
    (bnd (f_X0_get b2 x3 σ) (fun r1 => (bnd (f_X5_tookOf a1 r1 (gS σ (16 * (gR σ 0) + 10))) (fun r3 => (bnd (f_X0_get b2 (x3 + (1 : Int32)) σ) (fun r4 => (if r3 = r4 then
    (nm (x3 + (2 : Int32)) (fun y5 => (l_X5_canBe_2 a1 b2 σ N1 y5)))
    else
    (some false)))))))))
def f_X5_canBe (i1 : Int32) (g2 : Nat) (σ : Sg) : Option Bool :=
    (l_X5_canBe_2 i1 g2 σ FU (0 : Int32))
def l_X5_kindsBy_4 (b1 : Nat) (σ : Sg) (k31 : Int32 → Option Int32) : Nat → Int32 → Int32 → Option Int32
  | 0, _, _ => none
  | N1 + 1, x2, x3 =>
    (if (6 : Int32) ≤ x3 then
    (k31 x2)
    else
    (bnd (f_X5_canBe x3 b1 σ) (fun r1 => (nm (fun (u2_25 : Int32) => (nm (x3 + (1 : Int32)) (fun y2 => (l_X5_kindsBy_4 b1 σ k31 N1 u2_25 y2))))
    (fun k25 => (bf r1
    (nm (x2 ||| ((1 : Int32) <<< (x3 &&& 31))) (fun y3 => (k25 y3)))
    (k25 x2)))))))
def f_X5_kindsBy (g1 : Nat) (σ : Sg) : Option Int32 :=
    (l_X5_kindsBy_4 g1 σ 
    (fun (v2_31 : Int32) => (some v2_31)) FU (0 : Int32) (0 : Int32))
def l_X5_partOf_6 (a1 : Int32) (a2 : Int32) (a3 : Int32) (σ : Sg) (k55 : Int32 → Option Int32) : Nat → Int32 → Int32 → Option Int32
  | 0, _, _ => none
  | N1 + 1, x4, x5 =>
    (if (6 : Int32) ≤ x5 then
    (k55 x4)
    else
    (bnd (f_X5_holds a1 x5) (fun r1 => (nm (fun (t0_46 : Bool) => (nm (x4 + (b2i t0_46)) (fun y2 => (nm (x5 + (1 : Int32)) (fun y3 => (l_X5_partOf_6 a1 a2 a3 σ k55 N1 y2 y3))))))
    (fun k46 => (nm (k46 false)
    (fun k45 => (bf r1
    (bnd (f_X5_tookOf x5 a2 (gS σ (16 * (gR σ 0) + 10))) (fun r5 => (if r5 = a3 then
    (k46 true)
    else
    k45)))
    k45))))))))
def f_X5_partOf (i1 : Int32) (i2 : Int32) (i3 : Int32) (σ : Sg) : Option Int32 :=
    (l_X5_partOf_6 i1 i2 i3 σ 
    (fun (v4_55 : Int32) => (some v4_55)) FU (0 : Int32) (0 : Int32))
def l_X5_greatestPart_5 (a1 : Int32) (a2 : Int32) (σ : Sg) (k55 : Int32 → Option Int32) : Nat → Int32 → Int32 → Option Int32
  | 0, _, _ => none
  | N1 + 1, x3, x4 =>
    (if (6 : Int32) ≤ x4 then
    (k55 x3)
    else
    (bnd (f_X5_holds a1 x4) (fun r1 => (nm (fun (u3_49 : Int32) => (nm (x4 + (1 : Int32)) (fun y2 => (l_X5_greatestPart_5 a1 a2 σ k55 N1 u3_49 y2))))
    (fun k49 => (bf r1
    (bnd (f_X5_tookOf x4 a2 (gS σ (16 * (gR σ 0) + 10))) (fun r4 => (bnd (f_X5_partOf a1 a2 r4 σ) (fun r5 => (nm (mmax x3 r5) (fun y6 => (k49 y6)))))))
    (k49 x3)))))))
def f_X5_greatestPart (i1 : Int32) (i2 : Int32) (σ : Sg) : Option Int32 :=
    (l_X5_greatestPart_5 i1 i2 σ 
    (fun (v3_55 : Int32) => (some v3_55)) FU (0 : Int32) (0 : Int32))
def l_X5_whose_31 (b2 : Nat) (σ : Sg) (k78 : Int32 → Option (Int32 × Sg)) : Nat → Int32 → Int32 → Option (Int32 × Sg)
  | 0, _, _ => none
  | N1 + 1, x4, x5 =>
    (if (gS σ (16 * (gR σ 0) + 7)) ≤ x5 then
    (k78 x4)
    else
    (bnd (f_X0_get (stI (gR σ 0) 0) x5 σ) (fun r6 => (bnd (f_X5_canBe r6 b2 σ) (fun r7 => (nm (fun (u4_72 : Int32) => (nm (x5 + (1 : Int32)) (fun y8 => (l_X5_whose_31 b2 σ k78 N1 u4_72 y8))))
    (fun k72 => (bf r7
    (nm (x4 ||| ((1 : Int32) <<< (x5 &&& 31))) (fun y9 => (k72 y9)))
    (k72 x4)))))))))
def f_X5_whose (i1 : Int32) (σ : Sg) : Option (Int32 × Sg) :=
    (bnd (f_X5_pick 71 i1) (fun r1 => oc r1
    (bnd2 (f_X5_refusedPairs none σ) (fun r2 σ2 => (some (r2, σ2))))
    (fun g1 => (bnd2 (f_X5_refusedPairs (some g1) σ) (fun r3 σ3 => (if r3 = 0 then
    (l_X5_whose_31 g1 σ3 
    (fun (v4_78 : Int32) => (some (v4_78, σ3))) FU (0 : Int32) (0 : Int32))
    else
    (some (r3, σ3))))))))
def f_X5_kinds (i1 : Int32) (σ : Sg) : Option (Int32 × Sg) :=
    (bnd (f_X5_pick 71 i1) (fun r1 => oc r1
    (bnd2 (f_X5_refusedPairs none σ) (fun r2 σ2 => (some (r2, σ2))))
    (fun g1 => (bnd2 (f_X5_refusedPairs (some g1) σ) (fun r3 σ3 => (if r3 = 0 then
    (bnd (f_X5_kindsBy g1 σ3) (fun r4 => (some (r4, σ3))))
    else
    (some (r3, σ3))))))))
def l_X5_test_55 (a4 : Int32) (σ : Sg) (k93 : Int32 → Int32 → Option (Int32 × Sg)) : Nat → Int32 → Int32 → Int32 → Option (Int32 × Sg)
  | 0, _, _, _ => none
  | N1 + 1, x5, x6, x7 =>
    (if (99 : Int32) < x7 then
    (k93 x5 x6)
    else
    (bnd (f_X5_greatestPart a4 x7 σ) (fun r6 => (nm (fun (u5_87 : Int32) (u6_87 : Int32) => (nm (x7 + (1 : Int32)) (fun y7 => (l_X5_test_55 a4 σ k93 N1 u5_87 u6_87 y7))))
    (fun k87 => (if x6 ≤ r6 then
    (k87 x5 x6)
    else
    (k87 x7 r6)))))))
def f_X5_test (i1 : Int32) (σ : Sg) : Option (Int32 × Sg) :=
    (bnd (f_X5_pick 71 i1) (fun r1 => oc r1
    (bnd2 (f_X5_refusedPairs none σ) (fun r2 σ2 => (some (r2, σ2))))
    (fun g1 => (bnd2 (f_X5_refusedPairs (some g1) σ) (fun r3 σ3 => (if r3 = 0 then
    (bnd (f_X5_kindsBy g1 σ3) (fun r4 => (if r4 = 0 then
    (some ((-9 : Int32), σ3))
    else
    (bnd (f_X5_greatestPart r4 (0 : Int32) σ3) (fun r5 => (l_X5_test_55 r4 σ3 
    (fun (v5_93 : Int32) (v6_93 : Int32) => (nm (pS σ3 9 v6_93) (fun σ8 => (some (v5_93, σ8))))) FU (0 : Int32) r5 (1 : Int32)))))))
    else
    (some (r3, σ3))))))))
def l_X5_divisor_3 (k32 : Int64 → Option Int64) : Nat → Int64 → Int64 → Int32 → Option Int64
  | 0, _, _, _ => none
  | N1 + 1, x0, x2, x4 =>
    (if (100 : Int32) ≤ x4 then
    (k32 x0)
    else
    (if (lg_cmp x2 (0 : Int64)) = 0 then
    (k32 x0)
    else
    (ck (decide (¬ x2 = 0)) (nm (x0 - x0 / x2 * x2) (fun y1 => (nm (x4 + (1 : Int32)) (fun y2 => (l_X5_divisor_3 k32 N1 x2 y1 y2))))))))
def f_X5_divisor (l0 : Int64) (l2 : Int64) : Option Int64 :=
    (l_X5_divisor_3 
    (fun (v0_32 : Int64) => (some v0_32)) FU l0 l2 (0 : Int32))
def f_X5_tellRatio (l1 : Int64) (l3 : Int64) (σ : Sg) : Option Sg :=
    (bnd (f_X5_divisor l1 l3) (fun r1 => (nm (fun (t0_23 : Int64) => (nm (pL σ 10 t0_23) (fun σ2 => (if (lg_cmp r1 (0 : Int64)) ≤ 0 then
    (nm (pL σ2 11 l3) (fun σ3 => (some σ3)))
    else
    (ck (decide (¬ r1 = 0)) (nm (pL σ2 11 (l3 / r1)) (fun σ4 => (some σ4))))))))
    (fun k23 => (if (lg_cmp r1 (0 : Int64)) ≤ 0 then
    (k23 l1)
    else
    (ck (decide (¬ r1 = 0)) (k23 (l1 / r1))))))))
def l_X5_sets_33 (a1 : Int32) (σ : Sg) (k80 : Int32 → Int32 → Option (Int32 × Sg)) : Nat → Int32 → Int32 → Int32 → Option (Int32 × Sg)
  | 0, _, _, _ => none
  | N1 + 1, x2, x3, x4 =>
    (if ((1 : Int32) <<< ((gS σ (16 * (gR σ 0) + 7)) &&& 31)) ≤ x4 then
    (k80 x2 x3)
    else
    (bnd (f_X4_fees (gR σ 0) x4 σ) (fun r5 => (nm (fun (u2_74 : Int32) (u3_74 : Int32) => (nm (x4 + (1 : Int32)) (fun y6 => (l_X5_sets_33 a1 σ k80 N1 u2_74 u3_74 y6))))
    (fun k74 => (if r5 = a1 then
    (nm (fun (t0_70 : Int32) => (nm (x3 + (1 : Int32)) (fun y7 => (k74 t0_70 y7))))
    (fun k70 => (if x3 = 0 then
    (k70 x4)
    else
    (k70 x2))))
    else
    (k74 x2 x3)))))))
def f_X5_sets (i1 : Int32) (σ : Sg) : Option (Int32 × Sg) :=
    (bnd (f_X5_within i1 (0 : Int32) (99 : Int32)) (fun r1 => (bf r1
    (if (gS σ (16 * (gR σ 0) + 7)) = 0 then
    (some ((-4 : Int32), σ))
    else
    (l_X5_sets_33 i1 σ 
    (fun (v2_80 : Int32) (v3_80 : Int32) => (nm (pS σ 9 v2_80) (fun σ8 => (bnd (f_X5_tellRatio (v3_80.toInt64) (1 : Int64) σ8) (fun σ9 => (some ((1 : Int32), σ9))))))) FU (-9 : Int32) (0 : Int32) (0 : Int32)))
    (some ((-1 : Int32), σ)))))
def l_X5_sure_48 (a1 : Int32) (a2 : Int32) (σ : Sg) (k88 : Int32 → Int32 → Int32 → Option (Int32 × Sg)) : Nat → Int32 → Int32 → Int32 → Int32 → Option (Int32 × Sg)
  | 0, _, _, _, _ => none
  | N1 + 1, x3, x4, x5, x6 =>
    (if a2 < x6 then
    (k88 x3 x4 x5)
    else
    (bnd (f_X4_fees (gR σ 0) x6 σ) (fun r6 => (nm (fun (u3_82 : Int32) (u4_82 : Int32) (u5_82 : Int32) => (nm (x6 + (1 : Int32)) (fun y7 => (l_X5_sure_48 a1 a2 σ k88 N1 u3_82 u4_82 u5_82 y7))))
    (fun k82 => (if r6 = a1 then
    (nm (x3 &&& x6) (fun y8 => (nm (x4 ||| x6) (fun y9 => (nm (x5 + (1 : Int32)) (fun y10 => (k82 y8 y9 y10)))))))
    else
    (k82 x3 x4 x5)))))))
def f_X5_sure (i1 : Int32) (σ : Sg) : Option (Int32 × Sg) :=
    (bnd (f_X5_within i1 (0 : Int32) (99 : Int32)) (fun r1 => (bf r1
    (if (gS σ (16 * (gR σ 0) + 7)) = 0 then
    (some ((-4 : Int32), σ))
    else
    (nm (((1 : Int32) <<< ((gS σ (16 * (gR σ 0) + 7)) &&& 31)) - (1 : Int32)) (fun y4 => (l_X5_sure_48 i1 y4 σ 
    (fun (v3_88 : Int32) (v4_88 : Int32) (v5_88 : Int32) => (if v5_88 = 0 then
    (bnd2 (f_X5_found (4 : Int32) σ) (fun r11 σ11 => (some (r11, σ11))))
    else
    (nm (pS σ 9 (y4 &&& (v4_88 ^^^ (-1 : Int32)))) (fun σ12 => (some (v3_88, σ12)))))) FU y4 (0 : Int32) (0 : Int32) (0 : Int32)))))
    (some ((-1 : Int32), σ)))))
def f_X5_duel (i1 : Int32) (σ : Sg) : Option (Int32 × Sg) :=
    (bnd (f_X5_within i1 (0 : Int32) (3 : Int32)) (fun r1 => (bf r1
    (if (gS σ (16 * (gR σ 0) + 7)) = 0 then
    (some ((-4 : Int32), σ))
    else
    (bnd (f_X4_mostAwake (gR σ 0) (0 : Int32) i1 σ) (fun r4 => (bnd (f_X4_mostAwake (gR σ 0) (1 : Int32) i1 σ) (fun r6 => (nm (pS σ 9 (r4 - r6)) (fun σ7 => (some ((1 : Int32), σ7)))))))))
    (some ((-1 : Int32), σ)))))
def l_X5_power_5 (a0 : Int64) (a2 : Int32) (k21 : Int64 → Option Int64) : Nat → Int64 → Int32 → Option Int64
  | 0, _, _ => none
  | N1 + 1, x3, x5 =>
    (if a2 ≤ x5 then
    (k21 x3)
    else
    (nm (x3 * a0) (fun y1 => (nm (x5 + (1 : Int32)) (fun y2 => (l_X5_power_5 a0 a2 k21 N1 y1 y2))))))
def f_X5_power (l0 : Int64) (i2 : Int32) : Option Int64 :=
    (l_X5_power_5 l0 i2 
    (fun (v3_21 : Int64) => (some v3_21)) FU (1 : Int64) (0 : Int32))
def l_X5_ways_5 (a0 : Int32) (a1 : Int32) (k31 : Int64 → Option Int64) : Nat → Int64 → Int32 → Option Int64
  | 0, _, _ => none
  | N1 + 1, x2, x4 =>
    (if a1 ≤ x4 then
    (k31 x2)
    else
    (ck (decide (¬ ((x4 + (1 : Int32)).toInt64) = 0)) (nm ((x2 * ((a0 - x4).toInt64)) / ((x4 + (1 : Int32)).toInt64)) (fun y1 => (nm (x4 + (1 : Int32)) (fun y2 => (l_X5_ways_5 a0 a1 k31 N1 y1 y2)))))))
def f_X5_ways (i0 : Int32) (i1 : Int32) : Option Int64 :=
    (l_X5_ways_5 i0 i1 
    (fun (v2_31 : Int64) => (some v2_31)) FU (1 : Int64) (0 : Int32))
def f_X5_weight (i0 : Int32) (i1 : Int32) (i2 : Int32) : Option Int64 :=
    (bnd (f_X5_ways i0 i1) (fun r1 => (bnd (f_X5_power (i2.toInt64) i1) (fun r2 => (bnd (f_X5_power (((12 : Int32) - i2).toInt64) (i0 - i1)) (fun r3 => (some ((r1 * r2) * r3))))))))
def f_X5_isTry (i1 : Int32) (i2 : Int32) (i3 : Int32) (σ : Sg) : Option Bool :=
    (bnd (f_X4_isHouse (gR σ 0) i1 σ) (fun r2 => (bf r2
    (bnd (f_X5_within i2 (0 : Int32) (8 : Int32)) (fun r3 => (bf r3
    (bnd (f_X5_within i3 (0 : Int32) (12 : Int32)) (fun r4 => (bf r4
    (some true)
    (some false))))
    (some false))))
    (some false))))
def l_X5_odds_28 (a2 : Int32) (a3 : Int32) (a4 : Int32) (σ : Sg) (k70 : Int64 → Option (Int32 × Sg)) : Nat → Int64 → Int32 → Option (Int32 × Sg)
  | 0, _, _ => none
  | N1 + 1, x5, x7 =>
    (if a2 < x7 then
    (k70 x5)
    else
    (if a4 = (-9 : Int32) then
    (k70 x5)
    else
    (nm (fun (t0_61 : Int64) => (nm (x5 + t0_61) (fun y4 => (nm (x7 + (1 : Int32)) (fun y5 => (l_X5_odds_28 a2 a3 a4 σ k70 N1 y4 y5))))))
    (fun k61 => (if x7 < a4 then
    (k61 (0 : Int64))
    else
    (bnd (f_X5_weight a2 x7 a3) (fun r6 => (k61 r6))))))))
def f_X5_odds (i1 : Int32) (i2 : Int32) (i3 : Int32) (σ : Sg) : Option (Int32 × Sg) :=
    (bnd (f_X5_isTry i1 i2 i3 σ) (fun r1 => (bf r1
    (bnd (f_X4_more (gR σ 0) i1 σ) (fun r3 => (l_X5_odds_28 i2 i3 r3 σ 
    (fun (v5_70 : Int64) => (bnd (f_X5_power (12 : Int64) i2) (fun r7 => (bnd (f_X5_tellRatio v5_70 r7 σ) (fun σ8 => (some ((1 : Int32), σ8))))))) FU (0 : Int64) (0 : Int32))))
    (some ((-1 : Int32), σ)))))
def l_X5_mid_41 (a2 : Int32) (a3 : Int32) (a4 : Int32) (σ : Sg) (k76 : Int64 → Option (Int32 × Sg)) : Nat → Int64 → Int32 → Option (Int32 × Sg)
  | 0, _, _ => none
  | N1 + 1, x5, x7 =>
    (if a2 < x7 then
    (k76 x5)
    else
    (bnd (f_X5_weight a2 x7 a3) (fun r5 => (nm (x5 + (r5 * ((mmax (0 : Int32) (a4 - x7)).toInt64))) (fun y6 => (nm (x7 + (1 : Int32)) (fun y7 => (l_X5_mid_41 a2 a3 a4 σ k76 N1 y6 y7))))))))
def f_X5_mid (i1 : Int32) (i2 : Int32) (i3 : Int32) (σ : Sg) : Option (Int32 × Sg) :=
    (bnd (f_X5_isTry i1 i2 i3 σ) (fun r1 => (bf r1
    (bnd (f_X4_more (gR σ 0) i1 σ) (fun r3 => (if r3 = (-9 : Int32) then
    (bnd2 (f_X5_found (4 : Int32) σ) (fun r4 σ4 => (some (r4, σ4))))
    else
    (l_X5_mid_41 i2 i3 r3 σ 
    (fun (v5_76 : Int64) => (bnd (f_X5_power (12 : Int64) i2) (fun r8 => (bnd (f_X5_tellRatio v5_76 r8 σ) (fun σ9 => (some ((1 : Int32), σ9))))))) FU (0 : Int64) (0 : Int32)))))
    (some ((-1 : Int32), σ)))))
def f_X5_asked  (σ : Sg) : Option Int32 :=
    (some (gS σ 9))
def f_X5_upper  (σ : Sg) : Option Int64 :=
    (some (gL σ 10))
def f_X5_lower  (σ : Sg) : Option Int64 :=
    (some (gL σ 11))
def f_X5_count (i1 : Int32) (σ : Sg) : Option Int32 :=
    (if i1 = (0 : Int32) then
    (some (gS σ (16 * (gR σ 0) + 7)))
    else
    (if i1 = (1 : Int32) then
    (some (gS σ (16 * (gR σ 0) + 11)))
    else
    (if i1 = (2 : Int32) then
    (some (gS σ (16 * (gR σ 0) + 12)))
    else
    (if i1 = (3 : Int32) then
    (some (gS σ (16 * (stI (gR σ 0) 6) + 1)))
    else
    (if i1 = (4 : Int32) then
    (some (gS σ (16 * (gR σ 0) + 13)))
    else
    (if i1 = (5 : Int32) then
    (some (gS σ (16 * (gR σ 0) + 10)))
    else
    (if i1 = (6 : Int32) then
    (bnd (f_X4_awakeSet (gR σ 0) σ) (fun r8 => (some r8)))
    else
    (if i1 = (7 : Int32) then
    (some (gS σ (16 * (gR σ 0) + 14)))
    else
    (if i1 = (8 : Int32) then
    (bnd (f_X4_manyOf (gR σ 0) (1 : Int32) σ) (fun r11 => (some r11)))
    else
    (if i1 = (9 : Int32) then
    (bnd (f_X4_manyOf (gR σ 0) (2 : Int32) σ) (fun r13 => (some r13)))
    else
    (if i1 = (10 : Int32) then
    (bnd (f_X5_present 71 σ) (fun r14 => (some r14)))
    else
    (if i1 = (11 : Int32) then
    (bnd (f_X5_present 72 σ) (fun r15 => (some r15)))
    else
    (if i1 = (12 : Int32) then
    (bnd (f_X5_present 73 σ) (fun r16 => (some r16)))
    else
    (if i1 = (13 : Int32) then
    (some (gS σ (16 * (gR σ 0) + 8)))
    else
    (some (-1 : Int32))))))))))))))))
