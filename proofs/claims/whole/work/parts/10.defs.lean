def f_X0_has (g0 : Nat) (i1 : Int32) (σ : Sg) : Option Bool :=
    (if i1 < 0 then
    (some false)
    else
    (if (gS σ (16 * g0 + 1)) ≤ i1 then
    (some false)
    else
    (if (nI (cLen g0)) ≤ i1 then
    (some false)
    else
    (some true))))
def f_X0_get (g0 : Nat) (i1 : Int32) (σ : Sg) : Option Int32 :=
    (if i1 < 0 then
    (some (0 : Int32))
    else
    (if (gS σ (16 * g0 + 1)) ≤ i1 then
    (some (0 : Int32))
    else
    (if (nI (cLen g0)) ≤ i1 then
    (some (0 : Int32))
    else
    (ck (inB i1 (cLen g0)) (some (gA σ g0 i1.toNatClampNeg))))))
def f_X0_set (g0 : Nat) (i1 : Int32) (i2 : Int32) (σ : Sg) : Option Sg :=
    (if i1 < 0 then
    (some σ)
    else
    (if (gS σ (16 * g0 + 1)) ≤ i1 then
    (some σ)
    else
    (if (nI (cLen g0)) ≤ i1 then
    (some σ)
    else
    (ck (inB i1 (cLen g0)) (nm (pA σ g0 (upd (gA σ g0) i1.toNatClampNeg i2)) (fun σ1 => (some σ1)))))))
def l_X0_fill_19 (b0 : Nat) (a2 : Int32) (k49 : Sg → Option Sg) : Nat → Int32 → Sg → Option Sg
  | 0, _, _ => none
  | N1 + 1, x3, σx =>
    (if (gS σx (16 * b0 + 1)) ≤ x3 then
    (k49 σx)
    else
    (if (nI (cLen b0)) ≤ x3 then
    (k49 σx)
    else
    (ck (inB x3 (cLen b0)) (nm (pA σx b0 (upd (gA σx b0) x3.toNatClampNeg a2)) (fun σ2 => (nm (x3 + (1 : Int32)) (fun y3 => (l_X0_fill_19 b0 a2 k49 N1 y3 σ2))))))))
def f_X0_fill (g0 : Nat) (i1 : Int32) (i2 : Int32) (σ : Sg) : Option Sg :=
    (nm (pS σ (16 * g0 + 1) (mmax (0 : Int32) (mmin i1 (nI (cLen g0))))) (fun σ1 => (l_X0_fill_19 g0 i2 
    (fun (σv49 : Sg) => (some σv49)) FU (0 : Int32) σ1)))
def f_X0_add (g0 : Nat) (i1 : Int32) (σ : Sg) : Option Sg :=
    (if (gS σ (16 * g0 + 1)) < 0 then
    (some σ)
    else
    (if (nI (cLen g0)) ≤ (gS σ (16 * g0 + 1)) then
    (some σ)
    else
    (ck (inB (gS σ (16 * g0 + 1)) (cLen g0)) (nm (pA σ g0 (upd (gA σ g0) (gS σ (16 * g0 + 1)).toNatClampNeg i1)) (fun σ1 => (nm (pS σ1 (16 * g0 + 1) ((gS σ1 (16 * g0 + 1)) + (1 : Int32))) (fun σ2 => (some σ2))))))))
def f_X0_cut (g0 : Nat) (i1 : Int32) (σ : Sg) : Option Sg :=
    (nm (pS σ (16 * g0 + 1) (mmin (gS σ (16 * g0 + 1)) (mmax (0 : Int32) i1))) (fun σ1 => (some σ1)))
def f_X0_drop (g0 : Nat) (σ : Sg) : Option Sg :=
    (nm (pS σ (16 * g0 + 1) (-1 : Int32)) (fun σ1 => (some σ1)))
def f_X0_spans (g0 : Nat) (i1 : Int32) (i2 : Int32) (σ : Sg) : Option Bool :=
    (if i1 < 0 then
    (some false)
    else
    (if i2 < 0 then
    (some false)
    else
    (if ((gS σ (16 * g0 + 1)) - i2) < i1 then
    (some false)
    else
    (if (nI (cLen g0)) < (gS σ (16 * g0 + 1)) then
    (some false)
    else
    (some true)))))
def f_X0_copyOut (g0 : Nat) (i1 : Int32) (g2 : Nat) (i3 : Int32) (i4 : Int32) (σ : Sg) : Option Sg :=
    (bnd (f_X0_spans g0 i1 i4 σ) (fun r1 => (bf r1
    (bnd (f_X0_spans g2 i3 i4 σ) (fun r2 => (bf r2
    (ck (acB i1 i3 i4 (cLen g0) (cLen g2)) (nm (pA σ g2 (va_cpy (gA σ g0) (gA σ g2) i1.toNatClampNeg i3.toNatClampNeg i4.toNatClampNeg)) (fun σ3 => (some σ3))))
    (some σ))))
    (some σ))))
def f_X0_takeFrom (g0 : Nat) (g1 : Nat) (σ : Sg) : Option Sg :=
    (bnd (f_X0_fill g0 (gS σ (16 * g1 + 1)) (0 : Int32) σ) (fun σ1 => (bnd (f_X0_copyOut g1 (0 : Int32) g0 (0 : Int32) (gS σ1 (16 * g0 + 1)) σ1) (fun σ2 => (some σ2)))))
def f_X1_byLetter (i0 : Int32) : Option Int32 :=
    (if i0 = (100 : Int32) then
    (some (3 : Int32))
    else
    (if i0 = (104 : Int32) then
    (some (0 : Int32))
    else
    (if i0 = (105 : Int32) then
    (some (4 : Int32))
    else
    (if i0 = (109 : Int32) then
    (some (5 : Int32))
    else
    (if i0 = (114 : Int32) then
    (some (2 : Int32))
    else
    (if i0 = (118 : Int32) then
    (some (1 : Int32))
    else
    (some (-9 : Int32))))))))
def f_X1_isOf (i0 : Int32) (i1 : Int32) : Option Bool :=
    (if i1 = (0 : Int32) then
    (some true)
    else
    (if i1 = (1 : Int32) then
    (if i0 = (1 : Int32) then
    (some true)
    else
    (if i0 = (4 : Int32) then
    (some true)
    else
    (some false)))
    else
    (if i1 = (2 : Int32) then
    (if i0 = (2 : Int32) then
    (some true)
    else
    (if i0 = (5 : Int32) then
    (some true)
    else
    (some false)))
    else
    (if i0 = i1 then
    (some true)
    else
    (some false)))))
def f_X1_taps (i0 : Int32) (i1 : Int32) (i2 : Int32) : Option Int32 :=
    (nm (fun (t0_26 : Bool) => (if i0 = (3 : Int32) then
    (some (-9 : Int32))
    else
    (bf t0_26
    (some (-9 : Int32))
    (nm (fun (t0_50 : Int32) => (if i0 = (1 : Int32) then
    (some ((2 : Int32) * t0_50))
    else
    (if i0 = (4 : Int32) then
    (some (((2 : Int32) * t0_50) + (1 : Int32)))
    else
    (some t0_50))))
    (fun k50 => (if (49 : Int32) < i1 then
    (k50 (1 : Int32))
    else
    (k50 (2 : Int32))))))))
    (fun k26 => (nm (k26 false)
    (fun k25 => (if i2 = 0 then
    k25
    else
    (if i1 < (40 : Int32) then
    k25
    else
    (if (49 : Int32) < i1 then
    k25
    else
    (if i0 = (5 : Int32) then
    k25
    else
    (k26 true)))))))))
def f_X1_fee (i0 : Int32) : Option Int32 :=
    (if i0 = (2 : Int32) then
    (some (2 : Int32))
    else
    (if i0 = (3 : Int32) then
    (some (0 : Int32))
    else
    (if i0 = (5 : Int32) then
    (some (5 : Int32))
    else
    (some (1 : Int32)))))
def f_X2_sign  (σ : Sg) : Option Int32 :=
    (oc (txO σ)
    (some (0 : Int32))
    (fun g1 => (oc (txO σ)
    none
    (fun g2 => (bnd (f_X0_get g2 (gS σ 17) σ) (fun r3 => (some r3)))))))
def f_X2_figure (i1 : Int32) (σ : Sg) : Option (Int32 × Sg) :=
    (bnd (f_X2_sign σ) (fun r1 => (nm (r1 - (48 : Int32)) (fun y2 => (nm (fun (t0_30 : Bool) => (nm (pS σ 18 (b2i t0_30)) (fun σ3 => (nm (fun (t0_50 : Bool) => (nm (pS σ3 17 ((gS σ3 17) + (b2i t0_50))) (fun σ4 => (if (gS σ4 18) = 0 then
    (some ((0 : Int32), σ4))
    else
    (some (y2, σ4))))))
    (fun k50 => (if (gS σ3 18) = 0 then
    (k50 false)
    else
    (k50 true)))))))
    (fun k30 => (nm (k30 false)
    (fun k29 => (if (gS σ 18) = 0 then
    k29
    else
    (if y2 < 0 then
    k29
    else
    (if i1 < y2 then
    k29
    else
    (k30 true))))))))))))
def f_X2_letter (i1 : Int32) (σ : Sg) : Option Sg :=
    (nm (fun (t0_21 : Bool) => (nm (pS σ 18 (b2i t0_21)) (fun σ1 => (if (gS σ1 18) = 0 then
    (nm (pS σ1 17 ((gS σ1 17) + (0 : Int32))) (fun σ2 => (some σ2)))
    else
    (nm (pS σ1 17 ((gS σ1 17) + (1 : Int32))) (fun σ3 => (some σ3)))))))
    (fun k21 => (nm (k21 false)
    (fun k20 => (if (gS σ 18) = 0 then
    k20
    else
    (bnd (f_X2_sign σ) (fun r4 => (if r4 = i1 then
    (k21 true)
    else
    k20))))))))
def f_X2_twoFigures  (σ : Sg) : Option (Int32 × Sg) :=
    (bnd2 (f_X2_figure (9 : Int32) σ) (fun r1 σ1 => (bnd2 (f_X2_figure (9 : Int32) σ1) (fun r2 σ2 => (some ((((10 : Int32) * r1) + r2), σ2))))))
def f_X4_build (g0 : Nat) (i1 : Int32) (i2 : Int32) (i3 : Int32) (σ : Sg) : Option Sg :=
    (bnd (f_X0_add (stI g0 0) i1 σ) (fun σ1 => (bnd (f_X0_add (stI g0 2) i2 σ1) (fun σ2 => (bnd (f_X0_add (stI g0 1) i3 σ2) (fun σ3 => (nm (pS σ3 (16 * g0 + 7) (gS σ3 (16 * (stI g0 0) + 1))) (fun σ4 => (some σ4)))))))))
def f_X2_readHouse (g1 : Nat) (σ : Sg) : Option Sg :=
    (bnd (f_X2_sign σ) (fun r1 => (bnd (f_X1_byLetter r1) (fun r2 => (nm (fun (t0_27 : Bool) => (nm (pS σ 18 (b2i t0_27)) (fun σ3 => (nm (fun (t0_47 : Bool) => (nm (pS σ3 17 ((gS σ3 17) + (b2i t0_47))) (fun σ4 => (bnd2 (f_X2_twoFigures σ4) (fun r5 σ5 => (bnd2 (f_X2_twoFigures σ5) (fun r6 σ6 => (if (gS σ6 18) = 0 then
    (some σ6)
    else
    (bnd (f_X4_build g1 r2 r5 r6 σ6) (fun σ7 => (some σ7)))))))))))
    (fun k47 => (if (gS σ3 18) = 0 then
    (k47 false)
    else
    (k47 true)))))))
    (fun k27 => (nm (k27 false)
    (fun k26 => (if (gS σ 18) = 0 then
    k26
    else
    (if r2 = (-9 : Int32) then
    k26
    else
    (k27 true)))))))))))
def l_X2_skipBlanks_2 (k33 : Sg → Option Sg) : Nat → Int32 → Sg → Option Sg
  | 0, _, _ => none
  | N1 + 1, x1, σx =>
    (if (60 : Int32) ≤ x1 then
    (k33 σx)
    else
    (bnd (f_X2_sign σx) (fun r1 => (if r1 = (32 : Int32) then
    (nm (pS σx 17 ((gS σx 17) + (1 : Int32))) (fun σ2 => (nm (x1 + (1 : Int32)) (fun y3 => (l_X2_skipBlanks_2 k33 N1 y3 σ2)))))
    else
    (k33 σx)))))
def f_X2_skipBlanks  (σ : Sg) : Option Sg :=
    (l_X2_skipBlanks_2 
    (fun (σv33 : Sg) => (some σv33)) FU (0 : Int32) σ)
def f_X4_begin (g0 : Nat) (i1 : Int32) (i2 : Int32) (σ : Sg) : Option Sg :=
    (nm (pS σ (16 * g0 + 7) (0 : Int32)) (fun σ1 => (nm (pS σ1 (16 * g0 + 9) i1) (fun σ2 => (nm (pS σ2 (16 * g0 + 8) i2) (fun σ3 => (bnd (f_X0_fill (stI g0 0) (0 : Int32) (0 : Int32) σ3) (fun σ4 => (bnd (f_X0_fill (stI g0 1) (0 : Int32) (0 : Int32) σ4) (fun σ5 => (bnd (f_X0_fill (stI g0 2) (0 : Int32) (0 : Int32) σ5) (fun σ6 => (some σ6)))))))))))))
def l_X2_read_43 (b1 : Nat) (b2 : Nat) : Nat → Int32 → Sg → Option (Int32 × Sg)
  | 0, _, _ => none
  | N1 + 1, x4, σx =>
    (if (6 : Int32) < x4 then
    (some ((gS σx 17), σx))
    else
    (if (gS σx 18) = 0 then
    (some ((gS σx 17), σx))
    else
    (bnd (f_X2_skipBlanks σx) (fun σ9 => (nm (fun (t0_77 : Bool) => (nm (nm (fun (t0_110 : Bool) => (nm (pS σ9 18 (b2i t0_110)) (fun σ10 => (bnd (f_X2_readHouse b2 σ10) (fun σ11 => (nm (x4 + (1 : Int32)) (fun y12 => (l_X2_read_43 b1 b2 N1 y12 σ11))))))))
    (fun k110 => (nm (k110 false)
    (fun k109 => (bf t0_77
    k109
    (if (6 : Int32) ≤ x4 then
    k109
    else
    (k110 true)))))))
    (fun k92 => (bf t0_77
    (if x4 ≤ 0 then
    k92
    else
    (some ((-9 : Int32), σ9)))
    k92))))
    (fun k77 => (if (gS σ9 17) < (gS σ9 (16 * b1 + 1)) then
    (k77 false)
    else
    (k77 true))))))))
def f_X2_read (g1 : Nat) (g2 : Nat) (σ : Sg) : Option (Int32 × Sg) :=
    (nm (pR σ 2 g1) (fun σ1 => (nm (pS σ1 17 (0 : Int32)) (fun σ2 => (nm (pS σ2 18 (b2i true)) (fun σ3 => (bnd (f_X2_skipBlanks σ3) (fun σ4 => (bnd (f_X2_letter (115 : Int32) σ4) (fun σ5 => (bnd2 (f_X2_figure (1 : Int32) σ5) (fun r6 σ6 => (bnd2 (f_X2_twoFigures σ6) (fun r7 σ7 => (bnd (f_X4_begin g2 r6 r7 σ7) (fun σ8 => (l_X2_read_43 g1 g2 FU (0 : Int32) σ8)))))))))))))))))
def f_X4_isHouse (g0 : Nat) (i1 : Int32) (σ : Sg) : Option Bool :=
    (if i1 < 0 then
    (some false)
    else
    (if (gS σ (16 * g0 + 7)) ≤ i1 then
    (some false)
    else
    (some true)))
def f_X4_isAwake (g0 : Nat) (i1 : Int32) (σ : Sg) : Option Bool :=
    (bnd (f_X4_isHouse g0 i1 σ) (fun r1 => (bf r1
    (bnd (f_X0_get (stI g0 5) i1 σ) (fun r2 => (if r2 = (-9 : Int32) then
    (some false)
    else
    (some true))))
    (some false))))
def f_X4_tapsFor (g0 : Nat) (i1 : Int32) (i2 : Int32) (σ : Sg) : Option Int32 :=
    (bnd (f_X0_get (stI g0 0) i1 σ) (fun r1 => (bnd (f_X1_taps r1 i2 (gS σ (16 * g0 + 10))) (fun r2 => (some r2)))))
def f_X4_more (g0 : Nat) (i1 : Int32) (σ : Sg) : Option Int32 :=
    (bnd (f_X4_isAwake g0 i1 σ) (fun r1 => (bf r1
    (some (0 : Int32))
    (bnd (f_X0_get (stI g0 3) i1 σ) (fun r2 => (bnd (f_X4_tapsFor g0 i1 r2 σ) (fun r3 => (if r3 = (-9 : Int32) then
    (some (-9 : Int32))
    else
    (bnd (f_X0_get (stI g0 4) i1 σ) (fun r4 => (some (mmax (1 : Int32) (r3 - r4)))))))))))))
def l_X3_start_26 (b1 : Nat) (k74 : Sg → Option Sg) : Nat → Int32 → Sg → Option Sg
  | 0, _, _ => none
  | N1 + 1, x2, σx =>
    (if (gS σx (16 * b1 + 7)) ≤ x2 then
    (k74 σx)
    else
    (bnd (f_X4_more b1 x2 σx) (fun r3 => (bnd (f_X0_set 35 x2 r3 σx) (fun σ4 => (bnd (f_X0_get (stI b1 1) x2 σ4) (fun r5 => (bnd (f_X0_set 36 x2 (r5 - (gS σ4 (16 * b1 + 11))) σ4) (fun σ6 => (nm (x2 + (1 : Int32)) (fun y7 => (l_X3_start_26 b1 k74 N1 y7 σ6))))))))))))
def f_X3_start (g1 : Nat) (σ : Sg) : Option Sg :=
    (bnd (f_X0_fill 35 (gS σ (16 * g1 + 7)) (0 : Int32) σ) (fun σ1 => (bnd (f_X0_fill 36 (gS σ1 (16 * g1 + 7)) (0 : Int32) σ1) (fun σ2 => (l_X3_start_26 g1 
    (fun (σv74 : Sg) => (some σv74)) FU (0 : Int32) σ2)))))
def f_X5_holds (i0 : Int32) (i1 : Int32) : Option Bool :=
    (if ((i0 >>> (i1 &&& 31)) &&& (1 : Int32)) = 0 then
    (some false)
    else
    (some true))
def l_X3_walkOver_8 (a0 : Int32) (a1 : Int32) (k40 : Int32 → Int32 → Option Int32) : Nat → Int32 → Int32 → Int32 → Option Int32
  | 0, _, _, _ => none
  | N1 + 1, x2, x3, x4 =>
    (if (6 : Int32) ≤ x4 then
    (k40 x2 x3)
    else
    (bnd (f_X5_holds a0 x4) (fun r1 => (nm (fun (u2_34 : Int32) (u3_34 : Int32) => (nm (x4 + (1 : Int32)) (fun y2 => (l_X3_walkOver_8 a0 a1 k40 N1 u2_34 u3_34 y2))))
    (fun k34 => (bf r1
    (nm (mmin x2 x4) (fun y3 => (k34 y3 x4)))
    (k34 x2 x3)))))))
def f_X3_walkOver (i0 : Int32) (i1 : Int32) : Option Int32 :=
    (l_X3_walkOver_8 i0 i1 
    (fun (v2_40 : Int32) (v3_40 : Int32) => (nm (mmin (mabs (i1 - v2_40)) (mabs (i1 - v3_40))) (fun y4 => (if i0 = 0 then
    (some (0 : Int32))
    else
    (some ((v3_40 - v2_40) + y4)))))) FU (6 : Int32) (0 : Int32) (0 : Int32))
def f_J6_bitCount_0f7a4 (i0 : Int32) : Option Int32 :=
    (nm (i0 - (((i0.toUInt32 >>> ((1 : Int32).toUInt32 &&& Int32.toUInt32 31)).toInt32) &&& (1431655765 : Int32))) (fun y1 => (nm ((y1 &&& (858993459 : Int32)) + (((y1.toUInt32 >>> ((2 : Int32).toUInt32 &&& Int32.toUInt32 31)).toInt32) &&& (858993459 : Int32))) (fun y2 => (nm ((y2 + ((y2.toUInt32 >>> ((4 : Int32).toUInt32 &&& Int32.toUInt32 31)).toInt32)) &&& (252645135 : Int32)) (fun y3 => (nm (y3 + ((y3.toUInt32 >>> ((8 : Int32).toUInt32 &&& Int32.toUInt32 31)).toInt32)) (fun y4 => (nm (y4 + ((y4.toUInt32 >>> ((16 : Int32).toUInt32 &&& Int32.toUInt32 31)).toInt32)) (fun y5 => (some (y5 &&& (63 : Int32)))))))))))))
def l_X3_seek_47 (self : Int32 → Int32 → Int32 → Int32 → Int32 → Sg → Option Sg) (a1 : Int32) (a2 : Int32) (a3 : Int32) (a4 : Int32) (a5 : Int32) (k143 : Sg → Option Sg) : Nat → Int32 → Sg → Option Sg
  | 0, _, _ => none
  | N1 + 1, x6, σx =>
    (if (6 : Int32) ≤ x6 then
    (k143 σx)
    else
    (nm (mabs (x6 - a3)) (fun y4 => (bnd (f_X0_get 35 x6 σx) (fun r5 => (nm ((a4 + y4) + r5) (fun y6 => (bnd (f_X5_holds a2 x6) (fun r7 => (nm (fun (σj137 : Sg) => (nm (x6 + (1 : Int32)) (fun y8 => (l_X3_seek_47 self a1 a2 a3 a4 a5 k143 N1 y8 σj137))))
    (fun k137 => (bf r7
    (bnd (f_X0_get 36 x6 σx) (fun r9 => (if r9 < y6 then
    (k137 σx)
    else
    (bnd (f_X0_set 34 a1 x6 σx) (fun σ10 => (bnd (self (a1 + (1 : Int32)) (a2 &&& (((1 : Int32) <<< (x6 &&& 31)) ^^^ (-1 : Int32))) x6 y6 (a5 + y4) σ10) (fun σ11 => (k137 σ11))))))))
    (k137 σx)))))))))))))
def f_X3_seek : Nat → Int32 → Int32 → Int32 → Int32 → Int32 → Sg → Option Sg
  | 0, _, _, _, _, _, _ => none
  | N0 + 1, i1, i2, i3, i4, i5, σ => (fun self => (if (6 : Int32) < i1 then
    (some σ)
    else
    (bnd (f_X3_walkOver i2 i3) (fun r1 => (if (i5 + r1) < (gS σ 37) then
    (if i2 = 0 then
    (nm (pS σ 37 i5) (fun σ2 => (bnd (f_X0_takeFrom 37 34 σ2) (fun σ3 => (some σ3)))))
    else
    (l_X3_seek_47 self i1 i2 i3 i4 i5 
    (fun (σv143 : Sg) => (some σv143)) FU (0 : Int32) σ))
    else
    (some σ)))))) (f_X3_seek N0)
def l_X4_tapsLeft_4 (b0 : Nat) (a1 : Int32) (σ : Sg) (k42 : Int32 → Option Int32) : Nat → Int32 → Int32 → Option Int32
  | 0, _, _ => none
  | N1 + 1, x2, x3 =>
    (if (gS σ (16 * b0 + 7)) ≤ x3 then
    (k42 x2)
    else
    (bnd (f_X5_holds a1 x3) (fun r1 => (nm (fun (t0_34 : Int32) => (nm (x2 + t0_34) (fun y2 => (nm (x3 + (1 : Int32)) (fun y3 => (l_X4_tapsLeft_4 b0 a1 σ k42 N1 y2 y3))))))
    (fun k34 => (bf r1
    (bnd (f_X4_more b0 x3 σ) (fun r4 => (k34 (mmax (0 : Int32) r4))))
    (k34 (0 : Int32))))))))
def f_X4_tapsLeft (g0 : Nat) (i1 : Int32) (σ : Sg) : Option Int32 :=
    (l_X4_tapsLeft_4 g0 i1 σ 
    (fun (v2_42 : Int32) => (some v2_42)) FU (0 : Int32) (0 : Int32))
def f_X3_fewest (g1 : Nat) (i2 : Int32) (σ : Sg) : Option (Int32 × Sg) :=
    (bnd (f_X3_start g1 σ) (fun σ1 => (bnd (f_X4_tapsLeft g1 i2 σ1) (fun r2 => (nm (pS σ1 37 (1000 : Int32)) (fun σ3 => (bnd (f_J6_bitCount_0f7a4 i2) (fun r4 => (bnd (f_X0_fill 34 r4 (0 : Int32) σ3) (fun σ5 => (bnd (f_X3_seek 9 (0 : Int32) i2 (gS σ5 (16 * g1 + 13)) (0 : Int32) (0 : Int32) σ5) (fun σ6 => (if (gS σ6 37) = (1000 : Int32) then
    (some ((-9 : Int32), σ6))
    else
    (some (((gS σ6 37) + r2), σ6)))))))))))))))
def l_X3_endAt_44 (a2 : Int32) (a4 : Int32) (σ : Sg) (k126 : Int32 → Option Int32) : Nat → Int32 → Int32 → Option Int32
  | 0, _, _ => none
  | N1 + 1, x5, x6 =>
    (if (6 : Int32) ≤ x6 then
    (k126 x5)
    else
    (bnd (f_X5_holds a4 x6) (fun r3 => (nm (fun (t0_81 : Int32) => (nm (t0_81 + (mabs (a2 - x6))) (fun y4 => (nm (fun (u5_120 : Int32) => (nm (x6 + (1 : Int32)) (fun y5 => (l_X3_endAt_44 a2 a4 σ k126 N1 u5_120 y5))))
    (fun k120 => (if t0_81 = (-9 : Int32) then
    (k120 x5)
    else
    (nm (k120 y4)
    (fun k116 => (if x5 = (-9 : Int32) then
    k116
    else
    (if x5 ≤ y4 then
    (k120 x5)
    else
    k116))))))))))
    (fun k81 => (bf r3
    (bnd (f_X0_get 33 ((a4 * (6 : Int32)) + x6) σ) (fun r6 => (k81 r6)))
    (k81 (-9 : Int32))))))))
def f_X3_endAt (i1 : Int32) (i2 : Int32) (i3 : Int32) (σ : Sg) : Option Int32 :=
    (bnd (f_X0_get 35 i2 σ) (fun r1 => (if 0 < r1 then
    (nm (i1 &&& (((1 : Int32) <<< (i2 &&& 31)) ^^^ (-1 : Int32))) (fun y2 => (nm (fun (t0_39 : Int32) => (l_X3_endAt_44 i2 y2 σ 
    (fun (v5_126 : Int32) => (nm (fun (t0_160 : Bool) => (bf t0_160
    (bnd (f_X0_get 35 i2 σ) (fun r7 => (some (v5_126 + r7))))
    (some (-9 : Int32))))
    (fun k160 => (nm (k160 false)
    (fun k159 => (if v5_126 = (-9 : Int32) then
    k159
    else
    (bnd (f_X0_get 35 i2 σ) (fun r8 => (bnd (f_X0_get 36 i2 σ) (fun r9 => (if r9 < (v5_126 + r8) then
    k159
    else
    (k160 true)))))))))))) FU t0_39 (0 : Int32)))
    (fun k39 => (if y2 = 0 then
    (k39 (mabs (i2 - i3)))
    else
    (k39 (-9 : Int32)))))))
    else
    (some (-9 : Int32)))))
def l_X3_greatest_41 (b1 : Nat) (a2 : Int32) (a3 : Int32) (k118 : Bool → Sg → Option (Int32 × Sg)) : Nat → Bool → Int32 → Sg → Option (Int32 × Sg)
  | 0, _, _, _ => none
  | N1 + 1, x4, x5, σx =>
    (if (gS σx (16 * b1 + 7)) ≤ x5 then
    (k118 x4 σx)
    else
    (bnd (f_X5_holds a3 x5) (fun r3 => (nm (fun (t0_75 : Int32) => (bnd (f_X0_set 33 ((a3 * (6 : Int32)) + x5) t0_75 σx) (fun σ4 => (nm (fun (t0_110 : Bool) => (nm (x5 + (1 : Int32)) (fun y5 => (l_X3_greatest_41 b1 a2 a3 k118 N1 t0_110 y5 σ4))))
    (fun k110 => (nm (k110 true)
    (fun k105 => (bf x4
    k105
    (if t0_75 = (-9 : Int32) then
    (k110 false)
    else
    k105)))))))))
    (fun k75 => (bf r3
    (bnd (f_X3_endAt a3 x5 (gS σx (16 * b1 + 13)) σx) (fun r6 => (k75 r6)))
    (k75 (-9 : Int32))))))))
def l_X3_greatest_25 (b1 : Nat) (k146 : Int32 → Sg → Option (Int32 × Sg)) : Nat → Int32 → Int32 → Sg → Option (Int32 × Sg)
  | 0, _, _, _ => none
  | N1 + 1, x2, x3, σx =>
    (if ((1 : Int32) <<< ((gS σx (16 * b1 + 7)) &&& 31)) ≤ x3 then
    (k146 x2 σx)
    else
    (l_X3_greatest_41 b1 x2 x3 
    (fun (v4_118 : Bool) (σv118 : Sg) => (nm (fun (t0_139 : Int32) => (nm (x3 + (1 : Int32)) (fun y7 => (l_X3_greatest_25 b1 k146 N1 t0_139 y7 σv118))))
    (fun k139 => (nm (k139 x2)
    (fun k138 => (bf v4_118
    (bnd (f_J6_bitCount_0f7a4 x3) (fun r8 => (bnd (f_J6_bitCount_0f7a4 x2) (fun r9 => (if r8 ≤ r9 then
    k138
    else
    (k139 x3))))))
    k138)))))) FU false (0 : Int32) σx))
def f_X3_greatest (g1 : Nat) (σ : Sg) : Option (Int32 × Sg) :=
    (bnd (f_X3_start g1 σ) (fun σ1 => (bnd (f_X0_fill 33 ((6 : Int32) <<< ((gS σ1 (16 * g1 + 7)) &&& 31)) (-9 : Int32) σ1) (fun σ2 => (l_X3_greatest_25 g1 
    (fun (v2_146 : Int32) (σv146 : Sg) => (some (v2_146, σv146))) FU (0 : Int32) (1 : Int32) σ2)))))
def f_X4_sleep (g0 : Nat) (σ : Sg) : Option Sg :=
    (bnd (f_X0_fill (stI g0 4) (gS σ (16 * g0 + 7)) (0 : Int32) σ) (fun σ1 => (bnd (f_X0_fill (stI g0 5) (gS σ1 (16 * g0 + 7)) (-9 : Int32) σ1) (fun σ2 => (nm (pS σ2 (16 * g0 + 11) (0 : Int32)) (fun σ3 => (nm (pS σ3 (16 * g0 + 13) (0 : Int32)) (fun σ4 => (some σ4)))))))))
def f_X4_fee (g0 : Nat) (i1 : Int32) (σ : Sg) : Option Int32 :=
    (bnd (f_X0_get (stI g0 0) i1 σ) (fun r1 => (bnd (f_X1_fee r1) (fun r2 => (some r2)))))
def f_X4_hear (g0 : Nat) (i1 : Int32) (σ : Sg) : Option Sg :=
    (bnd (f_X0_get (stI g0 4) i1 σ) (fun r1 => (bnd (f_X0_set (stI g0 4) i1 (r1 + (1 : Int32)) σ) (fun σ2 => (bnd (f_X0_get (stI g0 3) i1 σ2) (fun r3 => (bnd (f_X4_tapsFor g0 i1 r3 σ2) (fun r4 => (bnd (f_X4_isAwake g0 i1 σ2) (fun r5 => (bf r5
    (some σ2)
    (if r4 = (-9 : Int32) then
    (some σ2)
    else
    (bnd (f_X0_get (stI g0 4) i1 σ2) (fun r6 => (if r6 < r4 then
    (some σ2)
    else
    (bnd (f_X0_get (stI g0 3) i1 σ2) (fun r7 => (bnd (f_X0_set (stI g0 5) i1 r7 σ2) (fun σ8 => (bnd (f_X4_fee g0 i1 σ8) (fun r9 => (nm (pS σ8 (16 * g0 + 14) (mmin (9999 : Int32) ((gS σ8 (16 * g0 + 14)) + r9))) (fun σ10 => (some σ10))))))))))))))))))))))))
def f_X4_perform (g0 : Nat) (i1 : Int32) (σ : Sg) : Option Sg :=
    (nm ((i1 / (100 : Int32)) - (i1 / (100 : Int32)) / (10 : Int32) * (10 : Int32)) (fun y1 => (nm (i1 - i1 / (100 : Int32) * (100 : Int32)) (fun y2 => (if (i1 / (1000 : Int32)) = (0 : Int32) then
    (nm (pS σ (16 * g0 + 11) ((gS σ (16 * g0 + 11)) + (mabs (y1 - (gS σ (16 * g0 + 13)))))) (fun σ3 => (nm (pS σ3 (16 * g0 + 13) y1) (fun σ4 => (some σ4)))))
    else
    (if (i1 / (1000 : Int32)) = (1 : Int32) then
    (nm (pS σ (16 * g0 + 11) ((gS σ (16 * g0 + 11)) + (1 : Int32))) (fun σ5 => (bnd (f_X4_hear g0 (gS σ5 (16 * g0 + 13)) σ5) (fun σ6 => (some σ6)))))
    else
    (if (i1 / (1000 : Int32)) = (2 : Int32) then
    (bnd (f_X0_set (stI g0 3) y1 y2 σ) (fun σ7 => (bnd (f_X0_set (stI g0 4) y1 (0 : Int32) σ7) (fun σ8 => (some σ8)))))
    else
    (if (i1 / (1000 : Int32)) = (3 : Int32) then
    (nm (pS σ (16 * g0 + 10) y2) (fun σ9 => (some σ9)))
    else
    (nm (pS σ (16 * g0 + 12) ((gS σ (16 * g0 + 12)) + (1 : Int32))) (fun σ10 => (bnd (f_X4_sleep g0 σ10) (fun σ11 => (some σ11)))))))))))))
def l_X4_replay_35 (b0 : Nat) (k64 : Sg → Option Sg) : Nat → Int32 → Sg → Option Sg
  | 0, _, _ => none
  | N1 + 1, x1, σx =>
    (if (gS σx (16 * (stI b0 6) + 1)) ≤ x1 then
    (k64 σx)
    else
    (bnd (f_X0_get (stI b0 6) x1 σx) (fun r6 => (bnd (f_X4_perform b0 r6 σx) (fun σ7 => (nm (x1 + (1 : Int32)) (fun y8 => (l_X4_replay_35 b0 k64 N1 y8 σ7))))))))
def f_X4_replay (g0 : Nat) (σ : Sg) : Option Sg :=
    (bnd (f_X0_takeFrom (stI g0 3) (stI g0 2) σ) (fun σ1 => (nm (pS σ1 (16 * g0 + 10) (gS σ1 (16 * g0 + 9))) (fun σ2 => (nm (pS σ2 (16 * g0 + 12) (0 : Int32)) (fun σ3 => (nm (pS σ3 (16 * g0 + 14) (0 : Int32)) (fun σ4 => (bnd (f_X4_sleep g0 σ4) (fun σ5 => (l_X4_replay_35 g0 
    (fun (σv64 : Sg) => (some σv64)) FU (0 : Int32) σ5)))))))))))
def f_X4_does (g0 : Nat) (i1 : Int32) (i2 : Int32) (i3 : Int32) (σ : Sg) : Option Sg :=
    (nm (((i1 * (1000 : Int32)) + (i2 * (100 : Int32))) + i3) (fun y1 => (bnd (f_X0_add (stI g0 6) y1 σ) (fun σ2 => (bnd (f_X4_perform g0 y1 σ2) (fun σ3 => (some σ3)))))))
def f_X4_doesByLot (g0 : Nat) (i1 : Int32) (σ : Sg) : Option Sg :=
    (nm (fun (t0_17 : Int32) => (nm ((i1 / (8 : Int32)) - (i1 / (8 : Int32)) / (8 : Int32) * (8 : Int32)) (fun y1 => (if (1 : Int32) < y1 then
    (if (5 : Int32) < y1 then
    (if y1 = (6 : Int32) then
    (bnd (f_X4_does g0 (2 : Int32) t0_17 ((i1 / (64 : Int32)) - (i1 / (64 : Int32)) / (100 : Int32) * (100 : Int32)) σ) (fun σ2 => (some σ2)))
    else
    (bnd (f_X4_does g0 (3 : Int32) (0 : Int32) ((1 : Int32) - (gS σ (16 * g0 + 10))) σ) (fun σ3 => (some σ3))))
    else
    (bnd (f_X4_does g0 (1 : Int32) (0 : Int32) (0 : Int32) σ) (fun σ4 => (some σ4))))
    else
    (bnd (f_X4_does g0 (0 : Int32) t0_17 (0 : Int32) σ) (fun σ5 => (some σ5)))))))
    (fun k17 => (if (gS σ (16 * g0 + 7)) ≤ 0 then
    (k17 (0 : Int32))
    else
    (ck (decide (¬ (gS σ (16 * g0 + 7)) = 0)) (k17 (i1 - i1 / (gS σ (16 * g0 + 7)) * (gS σ (16 * g0 + 7))))))))
def f_X4_isSet (g0 : Nat) (i1 : Int32) (σ : Sg) : Option Bool :=
    (if i1 < 0 then
    (some false)
    else
    (if ((1 : Int32) <<< ((gS σ (16 * g0 + 7)) &&& 31)) ≤ i1 then
    (some false)
    else
    (some true)))
def f_X4_tell (g0 : Nat) (i1 : Int32) (i2 : Int32) (σ : Sg) : Option Int32 :=
    (if i2 = (0 : Int32) then
    (bnd (f_X0_get (stI g0 0) i1 σ) (fun r1 => (some r1)))
    else
    (if i2 = (1 : Int32) then
    (bnd (f_X0_get (stI g0 3) i1 σ) (fun r2 => (some r2)))
    else
    (if i2 = (2 : Int32) then
    (bnd (f_X0_get (stI g0 1) i1 σ) (fun r3 => (some r3)))
    else
    (if i2 = (3 : Int32) then
    (bnd (f_X0_get (stI g0 4) i1 σ) (fun r4 => (some r4)))
    else
    (if i2 = (4 : Int32) then
    (bnd (f_X0_get (stI g0 5) i1 σ) (fun r5 => (some r5)))
    else
    (bnd (f_X4_more g0 i1 σ) (fun r6 => (some r6))))))))
def l_X4_awakeSet_4 (b0 : Nat) (σ : Sg) (k32 : Int32 → Option Int32) : Nat → Int32 → Int32 → Option Int32
  | 0, _, _ => none
  | N1 + 1, x1, x2 =>
    (if (gS σ (16 * b0 + 7)) ≤ x2 then
    (k32 x1)
    else
    (bnd (f_X4_isAwake b0 x2 σ) (fun r1 => (nm (fun (u1_26 : Int32) => (nm (x2 + (1 : Int32)) (fun y2 => (l_X4_awakeSet_4 b0 σ k32 N1 u1_26 y2))))
    (fun k26 => (bf r1
    (nm (x1 ||| ((1 : Int32) <<< (x2 &&& 31))) (fun y3 => (k26 y3)))
    (k26 x1)))))))
def f_X4_awakeSet (g0 : Nat) (σ : Sg) : Option Int32 :=
    (l_X4_awakeSet_4 g0 σ 
    (fun (v1_32 : Int32) => (some v1_32)) FU (0 : Int32) (0 : Int32))
def l_X4_canWake_2 (b0 : Nat) (a1 : Int32) (σ : Sg) : Nat → Int32 → Option Bool
  | 0, _ => none
  | N1 + 1, x2 =>
    (if (gS σ (16 * b0 + 7)) ≤ x2 then
    (some true)
    else
    (bnd (f_X5_holds a1 x2) (fun r1 => (nm (nm (x2 + (1 : Int32)) (fun y2 => (l_X4_canWake_2 b0 a1 σ N1 y2)))
    (fun k28 => (bf r1
    (bnd (f_X4_more b0 x2 σ) (fun r3 => (if 0 < r3 then
    k28
    else
    (some false))))
    k28))))))
def f_X4_canWake (g0 : Nat) (i1 : Int32) (σ : Sg) : Option Bool :=
    (l_X4_canWake_2 g0 i1 σ FU (0 : Int32))
def l_X4_fees_4 (b0 : Nat) (a1 : Int32) (σ : Sg) (k38 : Int32 → Option Int32) : Nat → Int32 → Int32 → Option Int32
  | 0, _, _ => none
  | N1 + 1, x2, x3 =>
    (if (gS σ (16 * b0 + 7)) ≤ x3 then
    (k38 x2)
    else
    (bnd (f_X5_holds a1 x3) (fun r1 => (nm (fun (t0_30 : Int32) => (nm (x2 + t0_30) (fun y2 => (nm (x3 + (1 : Int32)) (fun y3 => (l_X4_fees_4 b0 a1 σ k38 N1 y2 y3))))))
    (fun k30 => (bf r1
    (bnd (f_X4_fee b0 x3 σ) (fun r4 => (k30 r4)))
    (k30 (0 : Int32))))))))
def f_X4_fees (g0 : Nat) (i1 : Int32) (σ : Sg) : Option Int32 :=
    (l_X4_fees_4 g0 i1 σ 
    (fun (v2_38 : Int32) => (some v2_38)) FU (0 : Int32) (0 : Int32))
def l_X4_manyOf_4 (b0 : Nat) (a1 : Int32) (σ : Sg) (k41 : Int32 → Option Int32) : Nat → Int32 → Int32 → Option Int32
  | 0, _, _ => none
  | N1 + 1, x2, x3 =>
    (if (gS σ (16 * b0 + 7)) ≤ x3 then
    (k41 x2)
    else
    (bnd (f_X0_get (stI b0 0) x3 σ) (fun r1 => (bnd (f_X1_isOf r1 a1) (fun r2 => (nm (fun (t0_33 : Bool) => (nm (x2 + (b2i t0_33)) (fun y3 => (nm (x3 + (1 : Int32)) (fun y4 => (l_X4_manyOf_4 b0 a1 σ k41 N1 y3 y4))))))
    (fun k33 => (bf r2
    (k33 true)
    (k33 false)))))))))
def f_X4_manyOf (g0 : Nat) (i1 : Int32) (σ : Sg) : Option Int32 :=
    (l_X4_manyOf_4 g0 i1 σ 
    (fun (v2_41 : Int32) => (some v2_41)) FU (0 : Int32) (0 : Int32))
def f_X4_othersAwake (g0 : Nat) (i1 : Int32) (σ : Sg) : Option Int32 :=
    (bnd (f_X4_awakeSet g0 σ) (fun r1 => (bnd (f_J6_bitCount_0f7a4 r1) (fun r2 => (bnd (f_X4_isAwake g0 i1 σ) (fun r3 => (bf r3
    (some (r2 - (1 : Int32)))
    (some (r2 - (0 : Int32))))))))))
def l_X4_othersEarlier_4 (b0 : Nat) (a1 : Int32) (σ : Sg) (k45 : Int32 → Option Int32) : Nat → Int32 → Int32 → Option Int32
  | 0, _, _ => none
  | N1 + 1, x2, x3 =>
    (if (gS σ (16 * b0 + 7)) ≤ x3 then
    (k45 x2)
    else
    (bnd (f_X0_get (stI b0 3) x3 σ) (fun r1 => (bnd (f_X0_get (stI b0 3) a1 σ) (fun r2 => (nm (fun (t0_37 : Bool) => (nm (x2 + (b2i t0_37)) (fun y3 => (nm (x3 + (1 : Int32)) (fun y4 => (l_X4_othersEarlier_4 b0 a1 σ k45 N1 y3 y4))))))
    (fun k37 => (if r2 ≤ r1 then
    (k37 false)
    else
    (k37 true)))))))))
def f_X4_othersEarlier (g0 : Nat) (i1 : Int32) (σ : Sg) : Option Int32 :=
    (l_X4_othersEarlier_4 g0 i1 σ 
    (fun (v2_45 : Int32) => (some v2_45)) FU (0 : Int32) (0 : Int32))
def l_X4_quarrelling_4 (b0 : Nat) (σ : Sg) (k77 : Int32 → Option Int32) : Nat → Int32 → Int32 → Option Int32
  | 0, _, _ => none
  | N1 + 1, x1, x2 =>
    (if (gS σ (16 * b0 + 7)) ≤ (x2 + (1 : Int32)) then
    (k77 x1)
    else
    (bnd (f_X0_get (stI b0 5) x2 σ) (fun r1 => (bnd (f_X0_get (stI b0 5) (x2 + (1 : Int32)) σ) (fun r2 => (nm (mabs (r1 - r2)) (fun y3 => (bnd (f_X4_isAwake b0 x2 σ) (fun r4 => (nm (fun (t0_69 : Bool) => (nm (x1 + (b2i t0_69)) (fun y5 => (nm (x2 + (1 : Int32)) (fun y6 => (l_X4_quarrelling_4 b0 σ k77 N1 y5 y6))))))
    (fun k69 => (nm (k69 false)
    (fun k68 => (bf r4
    (bnd (f_X4_isAwake b0 (x2 + (1 : Int32)) σ) (fun r7 => (bf r7
    (if y3 ≤ (gS σ (16 * b0 + 8)) then
    k68
    else
    (k69 true))
    k68)))
    k68))))))))))))))
def f_X4_quarrelling (g0 : Nat) (σ : Sg) : Option Int32 :=
    (l_X4_quarrelling_4 g0 σ 
    (fun (v1_77 : Int32) => (some v1_77)) FU (0 : Int32) (0 : Int32))
def l_X4_nextByDate_6 (b0 : Nat) (a1 : Int32) (a2 : Int32) (σ : Sg) (k79 : Int32 → Option Int32) : Nat → Int32 → Int32 → Option Int32
  | 0, _, _ => none
  | N1 + 1, x3, x4 =>
    (if (gS σ (16 * b0 + 7)) ≤ x4 then
    (k79 x3)
    else
    (nm (fun (t0_50 : Bool) => (bnd (f_X5_holds a1 x4) (fun r1 => (nm (fun (t0_72 : Int32) => (nm (x4 + (1 : Int32)) (fun y2 => (l_X4_nextByDate_6 b0 a1 a2 σ k79 N1 t0_72 y2))))
    (fun k72 => (nm (k72 x3)
    (fun k71 => (bf r1
    k71
    (bf t0_50
    (k72 x4)
    k71)))))))))
    (fun k50 => (nm (k50 true)
    (fun k45 => (if x3 = (-9 : Int32) then
    k45
    else
    (bnd (f_X0_get (stI b0 3) x4 σ) (fun r3 => (bnd (f_X0_get (stI b0 3) x3 σ) (fun r4 => (if (a2 * r4) ≤ (a2 * r3) then
    (k50 false)
    else
    k45)))))))))))
def f_X4_nextByDate (g0 : Nat) (i1 : Int32) (i2 : Int32) (σ : Sg) : Option Int32 :=
    (l_X4_nextByDate_6 g0 i1 i2 σ 
    (fun (v3_79 : Int32) => (some (mmax (0 : Int32) v3_79))) FU (-9 : Int32) (0 : Int32))
def l_X4_mostAwake_17 (b0 : Nat) (a1 : Int32) (a2 : Int32) (a5 : Int32) (σ : Sg) (k60 : Int32 → Int32 → Option Int32) : Nat → Int32 → Int32 → Int32 → Option Int32
  | 0, _, _, _ => none
  | N1 + 1, x3, x4, x6 =>
    (if (gS σ (16 * b0 + 7)) ≤ x6 then
    (k60 x3 x4)
    else
    (bnd (f_X4_more b0 x6 σ) (fun r1 => (nm (fun (u3_54 : Int32) (u4_54 : Int32) => (nm (x6 + (2 : Int32)) (fun y2 => (l_X4_mostAwake_17 b0 a1 a2 a5 σ k60 N1 u3_54 u4_54 y2))))
    (fun k54 => (if r1 = a5 then
    (if x4 < a5 then
    (k54 x3 x4)
    else
    (nm (x4 - a5) (fun y3 => (nm (x3 + (1 : Int32)) (fun y4 => (k54 y4 y3))))))
    else
    (k54 x3 x4)))))))
def l_X4_mostAwake_8 (b0 : Nat) (a1 : Int32) (a2 : Int32) (σ : Sg) (k66 : Int32 → Option Int32) : Nat → Int32 → Int32 → Int32 → Option Int32
  | 0, _, _, _ => none
  | N1 + 1, x3, x4, x5 =>
    (if a2 < x5 then
    (k66 x3)
    else
    (l_X4_mostAwake_17 b0 a1 a2 x5 σ 
    (fun (v3_60 : Int32) (v4_60 : Int32) => (nm (x5 + (1 : Int32)) (fun y5 => (l_X4_mostAwake_8 b0 a1 a2 σ k66 N1 v3_60 v4_60 y5)))) FU x3 x4 a1))
def f_X4_mostAwake (g0 : Nat) (i1 : Int32) (i2 : Int32) (σ : Sg) : Option Int32 :=
    (l_X4_mostAwake_8 g0 i1 i2 σ 
    (fun (v3_66 : Int32) => (some v3_66)) FU (0 : Int32) i2 (0 : Int32))
def f_X5_found (i1 : Int32) (σ : Sg) : Option (Int32 × Sg) :=
    (nm (pS σ 8 i1) (fun σ1 => (bnd (f_X0_get 18 i1 σ1) (fun r2 => (bnd (f_X0_set 18 i1 (r2 + (1 : Int32)) σ1) (fun σ3 => (some ((-3 : Int32), σ3))))))))
def f_X5_within (i0 : Int32) (i1 : Int32) (i2 : Int32) : Option Bool :=
    (if i0 < i1 then
    (some false)
    else
    (if i2 < i0 then
    (some false)
    else
    (some true)))
def f_X5_isDate (i0 : Int32) : Option Bool :=
    (bnd (f_X5_within i0 (0 : Int32) (99 : Int32)) (fun r1 => (some r1)))
def f_X5_pick (g0 : Nat) (i1 : Int32) : Option (Option Nat) :=
    (if i1 < 0 then
    (some none)
    else
    (if (nI (rLen g0)) ≤ i1 then
    (some none)
    else
    (ck (inB i1 (rLen g0)) (some (some (rBase g0 + i1.toNatClampNeg))))))
def f_X5_refused (o1 : Option Nat) (σ : Sg) : Option (Int32 × Sg) :=
    oc o1
    (some ((-1 : Int32), σ))
    (fun q1 => (if 0 ≤ (gS σ (16 * q1 + 1)) then
    (some ((0 : Int32), σ))
    else
    (bnd2 (f_X5_found (1 : Int32) σ) (fun r1 σ1 => (some (r1, σ1))))))
def f_X5_refusedAt (o1 : Option Nat) (i2 : Int32) (σ : Sg) : Option (Int32 × Sg) :=
    oc o1
    (bnd2 (f_X5_refused none σ) (fun r1 σ1 => (some (r1, σ1))))
    (fun q1 => (bnd2 (f_X5_refused (some q1) σ) (fun r2 σ2 => (if r2 = 0 then
    (bnd (f_X0_has q1 i2 σ2) (fun r3 => (bf r3
    (some ((0 : Int32), σ2))
    (bnd2 (f_X5_found (2 : Int32) σ2) (fun r4 σ4 => (some (r4, σ4)))))))
    else
    (some (r2, σ2))))))
def l_X5_present_4 (b0 : Nat) (σ : Sg) (k34 : Int32 → Option Int32) : Nat → Int32 → Int32 → Option Int32
  | 0, _, _ => none
  | N1 + 1, x1, x2 =>
    (if (nI (rLen b0)) ≤ x2 then
    (k34 x1)
    else
    (ck (inB x2 (rLen b0)) (nm (fun (u1_28 : Int32) => (nm (x2 + (1 : Int32)) (fun y2 => (l_X5_present_4 b0 σ k34 N1 u1_28 y2))))
    (fun k28 => (if (gS σ (16 * (rBase b0 + x2.toNatClampNeg) + 1)) < 0 then
    (k28 x1)
    else
    (nm (x1 + (1 : Int32)) (fun y3 => (k28 y3))))))))
def f_X5_present (g0 : Nat) (σ : Sg) : Option Int32 :=
    (l_X5_present_4 g0 σ 
    (fun (v1_34 : Int32) => (some v1_34)) FU (0 : Int32) (0 : Int32))
def f_X5_row (i1 : Int32) (i2 : Int32) (σ : Sg) : Option (Int32 × Sg) :=
    (bnd (f_X5_pick 71 i1) (fun r1 => oc r1
    (some ((-1 : Int32), σ))
    (fun g1 => (if i2 ≤ (40 : Int32) then
    (if 0 ≤ i2 then
    (bnd (f_X0_fill g1 i2 (0 : Int32) σ) (fun σ2 => (some (i2, σ2))))
    else
    (bnd2 (f_X5_found (5 : Int32) σ) (fun r3 σ3 => (some (r3, σ3)))))
    else
    (some ((-1 : Int32), σ))))))
def f_X5_lay (i1 : Int32) (i2 : Int32) (i3 : Int32) (σ : Sg) : Option (Int32 × Sg) :=
    (bnd (f_X5_pick 71 i1) (fun r1 => oc r1
    (bnd2 (f_X5_refusedAt none i2 σ) (fun r2 σ2 => (some (r2, σ2))))
    (fun g1 => (bnd2 (f_X5_refusedAt (some g1) i2 σ) (fun r3 σ3 => (if r3 = 0 then
    (bnd (f_X0_get g1 i2 σ3) (fun r4 => (nm (pS σ3 9 r4) (fun σ5 => (bnd (f_X0_set g1 i2 i3 σ5) (fun σ6 => (some ((1 : Int32), σ6))))))))
    else
    (some (r3, σ3))))))))
def f_X5_at (i1 : Int32) (i2 : Int32) (σ : Sg) : Option (Int32 × Sg) :=
    (bnd (f_X5_pick 71 i1) (fun r1 => oc r1
    (bnd2 (f_X5_refusedAt none i2 σ) (fun r2 σ2 => (some (r2, σ2))))
    (fun g1 => (bnd2 (f_X5_refusedAt (some g1) i2 σ) (fun r3 σ3 => (if r3 = 0 then
    (bnd (f_X0_get g1 i2 σ3) (fun r4 => (nm (pS σ3 9 r4) (fun σ5 => (some ((1 : Int32), σ5))))))
    else
    (some (r3, σ3))))))))
def f_X5_tear (i1 : Int32) (σ : Sg) : Option (Int32 × Sg) :=
    (bnd (f_X5_pick 71 i1) (fun r1 => oc r1
    (bnd2 (f_X5_refused none σ) (fun r2 σ2 => (some (r2, σ2))))
    (fun g1 => (bnd2 (f_X5_refused (some g1) σ) (fun r3 σ3 => (if r3 = 0 then
    (bnd (f_X0_drop g1 σ3) (fun σ4 => (some ((1 : Int32), σ4))))
    else
    (some (r3, σ3))))))))
def f_X5_copy (i1 : Int32) (i2 : Int32) (i3 : Int32) (i4 : Int32) (i5 : Int32) (σ : Sg) : Option (Int32 × Sg) :=
    (bnd (f_X5_pick 71 i1) (fun r1 => oc r1
    (bnd (f_X5_pick 71 i3) (fun r2 => oc r2
    (some ((-1 : Int32), σ))
    (fun g2 => (some ((-1 : Int32), σ)))))
    (fun g1 => (bnd (f_X5_pick 71 i3) (fun r3 => oc r3
    (some ((-1 : Int32), σ))
    (fun g3 => (if 0 ≤ i5 then
    (nm (bnd2 (f_X5_found (1 : Int32) σ) (fun r4 σ4 => (some (r4, σ4))))
    (fun k59 => (if (gS σ (16 * g1 + 1)) < 0 then
    k59
    else
    (if 0 ≤ (gS σ (16 * g3 + 1)) then
    (bnd (f_X0_spans g1 i2 i5 σ) (fun r5 => (nm (bnd2 (f_X5_found (2 : Int32) σ) (fun r6 σ6 => (some (r6, σ6))))
    (fun k88 => (bf r5
    (bnd (f_X0_spans g3 i4 i5 σ) (fun r7 => (bf r7
    (bnd (f_X0_copyOut g1 i2 g3 i4 i5 σ) (fun σ8 => (some ((1 : Int32), σ8))))
    k88)))
    k88)))))
    else
    k59))))
    else
    (bnd2 (f_X5_found (5 : Int32) σ) (fun r9 σ9 => (some (r9, σ9)))))))))))
def l_X5_mean_44 (b2 : Nat) (σ : Sg) (k71 : Int64 → Option (Int32 × Sg)) : Nat → Int64 → Int32 → Option (Int32 × Sg)
  | 0, _, _ => none
  | N1 + 1, x4, x6 =>
    (if (gS σ (16 * b2 + 1)) ≤ x6 then
    (k71 x4)
    else
    (bnd (f_X0_get b2 x6 σ) (fun r5 => (nm (x4 + (r5.toInt64)) (fun y6 => (nm (x6 + (1 : Int32)) (fun y7 => (l_X5_mean_44 b2 σ k71 N1 y6 y7))))))))
def f_X5_mean (i1 : Int32) (σ : Sg) : Option (Int32 × Sg) :=
    (bnd (f_X5_pick 71 i1) (fun r1 => oc r1
    (bnd2 (f_X5_refused none σ) (fun r2 σ2 => (some (r2, σ2))))
    (fun g1 => (bnd2 (f_X5_refused (some g1) σ) (fun r3 σ3 => (if r3 = 0 then
    (if (gS σ3 (16 * g1 + 1)) = 0 then
    (bnd2 (f_X5_found (4 : Int32) σ3) (fun r4 σ4 => (some (r4, σ4))))
    else
    (l_X5_mean_44 g1 σ3 
    (fun (v4_71 : Int64) => (ck (decide (¬ ((gS σ3 (16 * g1 + 1)).toInt64) = 0)) (nm (pS σ3 9 ((v4_71 / ((gS σ3 (16 * g1 + 1)).toInt64)).toInt32)) (fun σ8 => (some ((1 : Int32), σ8)))))) FU (0 : Int64) (0 : Int32)))
    else
    (some (r3, σ3))))))))
def f_X5_text (i1 : Int32) (i2 : Int32) (σ : Sg) : Option (Int32 × Sg) :=
    (bnd (f_X5_pick 72 i1) (fun r1 => oc r1
    (some ((-1 : Int32), σ))
    (fun g1 => (if i2 ≤ (60 : Int32) then
    (if 0 ≤ i2 then
    (bnd (f_X0_fill g1 i2 (32 : Int32) σ) (fun σ2 => (some (i2, σ2))))
    else
    (bnd2 (f_X5_found (5 : Int32) σ) (fun r3 σ3 => (some (r3, σ3)))))
    else
    (some ((-1 : Int32), σ))))))
def f_X5_put (i1 : Int32) (i2 : Int32) (i3 : Int32) (σ : Sg) : Option (Int32 × Sg) :=
    (bnd (f_X5_pick 72 i1) (fun r1 => oc r1
    (bnd2 (f_X5_refusedAt none i2 σ) (fun r2 σ2 => (some (r2, σ2))))
    (fun g1 => (bnd2 (f_X5_refusedAt (some g1) i2 σ) (fun r3 σ3 => (if r3 = 0 then
    (bnd (f_X0_get g1 i2 σ3) (fun r4 => (bnd (f_X0_set g1 i2 (i3.toInt8.toInt32) σ3) (fun σ5 => (some (((1000 : Int32) + r4), σ5))))))
    else
    (some (r3, σ3))))))))
def f_X5_fault (i1 : Int32) (σ : Sg) : Option (Int32 × Sg) :=
    (bnd (f_X5_pick 72 i1) (fun r1 => oc r1
    (bnd2 (f_X5_refused none σ) (fun r2 σ2 => (some (r2, σ2))))
    (fun g1 => (bnd2 (f_X5_refused (some g1) σ) (fun r3 σ3 => (if r3 = 0 then
    (bnd2 (f_X2_read g1 (gR σ3 1) σ3) (fun r5 σ5 => (some (r5, σ5))))
    else
    (some (r3, σ3))))))))
def l_X5_town_87 (k122 : Sg → Option (Int32 × Sg)) : Nat → Int32 → Sg → Option (Int32 × Sg)
  | 0, _, _ => none
  | N1 + 1, x5, σx =>
    (if (nI (rLen 73)) ≤ x5 then
    (k122 σx)
    else
    (ck (inB x5 (rLen 73)) (nm (fun (σj116 : Sg) => (nm (x5 + (1 : Int32)) (fun y15 => (l_X5_town_87 k122 N1 y15 σj116))))
    (fun k116 => (bnd (f_X0_drop (rBase 73 + x5.toNatClampNeg) σx) (fun σ16 => (k116 σ16)))))))
def f_X5_town (i1 : Int32) (σ : Sg) : Option (Int32 × Sg) :=
    (bnd (f_X5_pick 72 i1) (fun r1 => oc r1
    (bnd2 (f_X5_refused none σ) (fun r2 σ2 => (some (r2, σ2))))
    (fun g1 => (bnd2 (f_X5_refused (some g1) σ) (fun r3 σ3 => (if r3 = 0 then
    (bnd2 (f_X2_read g1 (gR σ3 1) σ3) (fun r5 σ5 => (if r5 = (-9 : Int32) then
    (nm (pR σ5 0 (gR σ5 1)) (fun σ8 => (nm (pR σ8 1 (gR σ5 0)) (fun σ9 => (bnd (f_X0_fill (stI (gR σ9 0) 6) (0 : Int32) (0 : Int32) σ9) (fun σ11 => (bnd (f_X4_replay (gR σ11 0) σ11) (fun σ13 => (l_X5_town_87 
    (fun (σv122 : Sg) => (some ((gS σv122 (16 * (gR σv122 0) + 7)), σv122))) FU (0 : Int32) σ13)))))))))
    else
    (some ((-4 : Int32), σ5)))))
    else
    (some (r3, σ3))))))))
def f_X5_house (i1 : Int32) (i2 : Int32) (σ : Sg) : Option (Int32 × Sg) :=
    (bnd (f_X4_isHouse (gR σ 0) i1 σ) (fun r2 => (bf r2
    (bnd (f_X5_within i2 (0 : Int32) (5 : Int32)) (fun r3 => (bf r3
    (bnd (f_X4_tell (gR σ 0) i1 i2 σ) (fun r5 => (nm (pS σ 9 r5) (fun σ6 => (some ((1 : Int32), σ6))))))
    (some ((-1 : Int32), σ)))))
    (some ((-1 : Int32), σ)))))
def f_X5_mark (i1 : Int32) (i2 : Int32) (σ : Sg) : Option (Int32 × Sg) :=
    (bnd (f_X4_isHouse (gR σ 0) i1 σ) (fun r2 => (bf r2
    (bnd (f_X5_within i2 (1 : Int32) (5 : Int32)) (fun r3 => (bf r3
    (bnd (f_X0_get (stI (gR σ 0) 0) i1 σ) (fun r5 => (bnd (f_X1_isOf r5 i2) (fun r6 => (bf r6
    (bnd (f_X0_get (stI (gR σ 0) 3) i1 σ) (fun r8 => (bnd (f_X4_tapsFor (gR σ 0) i1 r8 σ) (fun r10 => (if i2 = (1 : Int32) then
    (if r10 = (-9 : Int32) then
    (some ((-9 : Int32), σ))
    else
    (bnd (f_X1_taps (0 : Int32) r8 (gS σ (16 * (gR σ 0) + 10))) (fun r12 => (some ((r10 - r12), σ)))))
    else
    (if i2 = (2 : Int32) then
    (bnd (f_X4_fee (gR σ 0) i1 σ) (fun r14 => (bnd (f_X1_fee (0 : Int32)) (fun r15 => (some ((r14 - r15), σ))))))
    else
    (if i2 = (3 : Int32) then
    (bnd (f_X4_othersAwake (gR σ 0) i1 σ) (fun r17 => (some (r17, σ))))
    else
    (if i2 = (4 : Int32) then
    (some (r10, σ))
    else
    (bnd (f_X4_othersEarlier (gR σ 0) i1 σ) (fun r19 => (some (r19, σ))))))))))))
    (bnd2 (f_X5_found (3 : Int32) σ) (fun r20 σ20 => (some (r20, σ20)))))))))
    (some ((-1 : Int32), σ)))))
    (some ((-1 : Int32), σ)))))
def f_X5_isFull (i1 : Int32) (σ : Sg) : Option Bool :=
    (if ((gS σ (16 * (stI (gR σ 0) 6) + 1)) + i1) ≤ (40 : Int32) then
    (some false)
    else
    (some true))
def f_X5_walk (i1 : Int32) (σ : Sg) : Option (Int32 × Sg) :=
    (bnd (f_X4_isHouse (gR σ 0) i1 σ) (fun r2 => (bf r2
    (if (gS σ (16 * (gR σ 0) + 13)) = i1 then
    (some ((-4 : Int32), σ))
    else
    (bnd (f_X5_isFull (1 : Int32) σ) (fun r4 => (bf r4
    (some ((-2 : Int32), σ))
    (bnd (f_X4_does (gR σ 0) (0 : Int32) i1 (0 : Int32) σ) (fun σ6 => (some ((gS σ6 (16 * (gR σ6 0) + 11)), σ6))))))))
    (some ((-1 : Int32), σ)))))
def f_X5_tap  (σ : Sg) : Option (Int32 × Sg) :=
    (if (gS σ (16 * (gR σ 0) + 7)) = 0 then
    (some ((-4 : Int32), σ))
    else
    (bnd (f_X5_isFull (1 : Int32) σ) (fun r2 => (bf r2
    (some ((-2 : Int32), σ))
    (bnd (f_X4_does (gR σ 0) (1 : Int32) (0 : Int32) (0 : Int32) σ) (fun σ4 => (bnd (f_X4_isAwake (gR σ4 0) (gS σ4 (16 * (gR σ4 0) + 13)) σ4) (fun r7 => (bf r7
    (some ((1 : Int32), σ4))
    (some ((0 : Int32), σ4)))))))))))
def f_X5_slate (i1 : Int32) (i2 : Int32) (σ : Sg) : Option (Int32 × Sg) :=
    (bnd (f_X4_isHouse (gR σ 0) i1 σ) (fun r2 => (bf r2
    (bnd (f_X5_isDate i2) (fun r3 => (bf r3
    (bnd (f_X0_get (stI (gR σ 0) 3) i1 σ) (fun r5 => (if r5 = i2 then
    (some ((-4 : Int32), σ))
    else
    (bnd (f_X5_isFull (1 : Int32) σ) (fun r6 => (bf r6
    (some ((-2 : Int32), σ))
    (bnd (f_X4_does (gR σ 0) (2 : Int32) i1 i2 σ) (fun σ8 => (some (r5, σ8))))))))))
    (some ((-1 : Int32), σ)))))
    (some ((-1 : Int32), σ)))))
def f_X5_frost (i1 : Int32) (σ : Sg) : Option (Int32 × Sg) :=
    (bnd (f_X5_within i1 (0 : Int32) (1 : Int32)) (fun r1 => (bf r1
    (if (gS σ (16 * (gR σ 0) + 7)) = 0 then
    (some ((-4 : Int32), σ))
    else
    (if (gS σ (16 * (gR σ 0) + 10)) = i1 then
    (some ((-4 : Int32), σ))
    else
    (bnd (f_X5_isFull (1 : Int32) σ) (fun r4 => (bf r4
    (some ((-2 : Int32), σ))
    (bnd (f_X4_does (gR σ 0) (3 : Int32) (0 : Int32) i1 σ) (fun σ6 => (some (i1, σ6)))))))))
    (some ((-1 : Int32), σ)))))
def f_X5_night  (σ : Sg) : Option (Int32 × Sg) :=
    (if (gS σ (16 * (gR σ 0) + 7)) = 0 then
    (some ((-4 : Int32), σ))
    else
    (bnd (f_X5_isFull (1 : Int32) σ) (fun r2 => (bf r2
    (some ((-2 : Int32), σ))
    (bnd (f_X4_awakeSet (gR σ 0) σ) (fun r4 => (bnd (f_J6_bitCount_0f7a4 r4) (fun r5 => (bnd (f_X4_does (gR σ 0) (4 : Int32) (0 : Int32) (0 : Int32) σ) (fun σ7 => (some (r5, σ7))))))))))))
def f_X5_undo (i1 : Int32) (σ : Sg) : Option (Int32 × Sg) :=
    (nm (gS σ (16 * (stI (gR σ 0) 6) + 1)) (fun y2 => (bnd (f_X5_within i1 (0 : Int32) y2) (fun r3 => (bf r3
    (bnd (f_X0_cut (stI (gR σ 0) 6) i1 σ) (fun σ5 => (bnd (f_X4_replay (gR σ5 0) σ5) (fun σ7 => (some ((y2 - i1), σ7))))))
    (some ((-1 : Int32), σ)))))))
def f_X5_keep (i1 : Int32) (σ : Sg) : Option (Int32 × Sg) :=
    (bnd (f_X5_pick 73 i1) (fun r1 => oc r1
    (some ((-1 : Int32), σ))
    (fun g1 => (if (gS σ (16 * (gR σ 0) + 7)) = 0 then
    (some ((-4 : Int32), σ))
    else
    (bnd (f_X0_takeFrom g1 (stI (gR σ 0) 6) σ) (fun σ4 => (some ((gS σ4 (16 * g1 + 1)), σ4))))))))
def f_X5_on (i1 : Int32) (σ : Sg) : Option (Int32 × Sg) :=
    (bnd (f_X5_pick 73 i1) (fun r1 => oc r1
    (bnd2 (f_X5_refused none σ) (fun r2 σ2 => (some (r2, σ2))))
    (fun g1 => (bnd2 (f_X5_refused (some g1) σ) (fun r3 σ3 => (if r3 = 0 then
    (bnd (f_X0_takeFrom (stI (gR σ3 0) 6) g1 σ3) (fun σ5 => (bnd (f_X4_replay (gR σ5 0) σ5) (fun σ7 => (some ((gS σ7 (16 * (stI (gR σ7 0) 6) + 1)), σ7))))))
    else
    (some (r3, σ3))))))))
def f_X5_takes (i1 : Int32) (i2 : Int32) (σ : Sg) : Option Int32 :=
    (bnd (f_X4_isHouse (gR σ 0) i1 σ) (fun r2 => (bf r2
    (bnd (f_X5_isDate i2) (fun r3 => (bf r3
    (bnd (f_X4_tapsFor (gR σ 0) i1 i2 σ) (fun r5 => (some r5)))
    (some (-1 : Int32)))))
    (some (-1 : Int32)))))
def f_X5_pays (i1 : Int32) (σ : Sg) : Option Int32 :=
    (bnd (f_X4_isHouse (gR σ 0) i1 σ) (fun r2 => (bf r2
    (bnd (f_X4_fee (gR σ 0) i1 σ) (fun r4 => (some r4)))
    (some (-1 : Int32)))))
def l_X5_who_24 (a1 : Int32) (a2 : Int32) (σ : Sg) (k63 : Int32 → Option Int32) : Nat → Int32 → Int32 → Option Int32
  | 0, _, _ => none
  | N1 + 1, x3, x4 =>
    (if (gS σ (16 * (gR σ 0) + 7)) ≤ x4 then
    (k63 x3)
    else
    (bnd (f_X4_tapsFor (gR σ 0) x4 a1 σ) (fun r5 => (nm (fun (u3_57 : Int32) => (nm (x4 + (1 : Int32)) (fun y6 => (l_X5_who_24 a1 a2 σ k63 N1 u3_57 y6))))
    (fun k57 => (if r5 = a2 then
    (nm (x3 ||| ((1 : Int32) <<< (x4 &&& 31))) (fun y7 => (k57 y7)))
    else
    (k57 x3)))))))
def f_X5_who (i1 : Int32) (i2 : Int32) (σ : Sg) : Option Int32 :=
    (bnd (f_X5_isDate i1) (fun r1 => (bf r1
    (bnd (f_X5_within i2 (1 : Int32) (9 : Int32)) (fun r2 => (bf r2
    (l_X5_who_24 i1 i2 σ 
    (fun (v3_63 : Int32) => (some v3_63)) FU (0 : Int32) (0 : Int32))
    (some (-1 : Int32)))))
    (some (-1 : Int32)))))
def f_X5_quarrels  (σ : Sg) : Option Int32 :=
    (if (gS σ (16 * (gR σ 0) + 7)) = 0 then
    (some (-4 : Int32))
    else
    (bnd (f_X4_quarrelling (gR σ 0) σ) (fun r3 => (some r3))))
def f_X5_soonest (i1 : Int32) (σ : Sg) : Option Int32 :=
    (bnd (f_X4_isSet (gR σ 0) i1 σ) (fun r2 => (bf r2
    (bnd (f_X4_canWake (gR σ 0) i1 σ) (fun r4 => (bf r4
    (bnd (f_X4_tapsLeft (gR σ 0) i1 σ) (fun r6 => (bnd (f_X3_walkOver i1 (gS σ (16 * (gR σ 0) + 13))) (fun r8 => (some (r6 + r8))))))
    (some (-4 : Int32)))))
    (some (-1 : Int32)))))
def f_X5_intime (i1 : Int32) (i2 : Int32) (σ : Sg) : Option (Int32 × Sg) :=
    (bnd (f_X5_pick 71 i2) (fun r1 => oc r1
    (some ((-1 : Int32), σ))
    (fun g1 => (bnd (f_X4_isSet (gR σ 0) i1 σ) (fun r3 => (bf r3
    (bnd (f_X4_canWake (gR σ 0) i1 σ) (fun r5 => (bf r5
    (bnd2 (f_X3_fewest (gR σ 0) i1 σ) (fun r7 σ7 => (if r7 = (-9 : Int32) then
    (some (r7, σ7))
    else
    (bnd (f_X0_takeFrom g1 37 σ7) (fun σ8 => (some (r7, σ8)))))))
    (some ((-4 : Int32), σ)))))
    (some ((-1 : Int32), σ))))))))
def f_X5_many  (σ : Sg) : Option (Int32 × Sg) :=
    (if (gS σ (16 * (gR σ 0) + 7)) = 0 then
    (some ((-4 : Int32), σ))
    else
    (bnd2 (f_X3_greatest (gR σ 0) σ) (fun r3 σ3 => (nm (pS σ3 9 r3) (fun σ4 => (bnd (f_J6_bitCount_0f7a4 (gS σ4 9)) (fun r5 => (some (r5, σ4)))))))))
def l_X5_dates_80 (b2 : Nat) (a3 : Int32) (a4 : Int32) (a5 : Int32) (k128 : Sg → Option (Int32 × Sg)) : Nat → Int32 → Int32 → Sg → Option (Int32 × Sg)
  | 0, _, _, _ => none
  | N1 + 1, x6, x7, σx =>
    (if (gS σx (16 * (gR σx 0) + 7)) ≤ x7 then
    (k128 σx)
    else
    (bnd (f_X4_nextByDate (gR σx 0) x6 a5 σx) (fun r11 => (bnd (f_X0_set b2 x7 r11 σx) (fun σ12 => (nm (x6 ||| ((1 : Int32) <<< (r11 &&& 31))) (fun y13 => (nm (x7 + (1 : Int32)) (fun y14 => (l_X5_dates_80 b2 a3 a4 a5 k128 N1 y13 y14 σ12))))))))))
def f_X5_dates (i1 : Int32) (σ : Sg) : Option (Int32 × Sg) :=
    (bnd (f_X5_pick 71 i1) (fun r1 => oc r1
    (some ((-1 : Int32), σ))
    (fun g1 => (if (gS σ (16 * (gR σ 0) + 7)) = 0 then
    (some ((-4 : Int32), σ))
    else
    (bnd (f_X4_nextByDate (gR σ 0) (0 : Int32) (1 : Int32) σ) (fun r4 => (bnd (f_X4_nextByDate (gR σ 0) (0 : Int32) (-1 : Int32) σ) (fun r6 => (nm (fun (t0_60 : Int32) => (bnd (f_X0_fill g1 (gS σ (16 * (gR σ 0) + 7)) (0 : Int32) σ) (fun σ8 => (l_X5_dates_80 g1 r4 r6 t0_60 
    (fun (σv128 : Sg) => (bnd (f_X0_get (stI (gR σv128 0) 3) r6 σv128) (fun r16 => (bnd (f_X0_get (stI (gR σv128 0) 3) r4 σv128) (fun r18 => (some ((r16 - r18), σv128))))))) FU (0 : Int32) (0 : Int32) σ8))))
    (fun k60 => (if r6 < r4 then
    (k60 (-1 : Int32))
    else
    (k60 (1 : Int32)))))))))))))
def l_X5_refusedPairs_42 (b1 : Nat) (σ : Sg) (k77 : Option (Int32 × Sg)) : Nat → Int32 → Option (Int32 × Sg)
  | 0, _ => none
  | N1 + 1, x3 =>
    (if (gS σ (16 * b1 + 1)) ≤ x3 then
    (some ((0 : Int32), σ))
    else
    (bnd (f_X0_get b1 x3 σ) (fun r4 => (bnd (f_X5_isDate r4) (fun r5 => (bf r5
    (bnd (f_X0_get b1 (x3 + (1 : Int32)) σ) (fun r6 => (bnd (f_X5_within r6 (0 : Int32) (9 : Int32)) (fun r7 => (bf r7
    (nm (x3 + (2 : Int32)) (fun y8 => (l_X5_refusedPairs_42 b1 σ k77 N1 y8)))
    k77)))))
    k77))))))
def f_X5_refusedPairs (o1 : Option Nat) (σ : Sg) : Option (Int32 × Sg) :=
    oc o1
    (bnd2 (f_X5_refused none σ) (fun r1 σ1 => (some (r1, σ1))))
    (fun q1 => (bnd2 (f_X5_refused (some q1) σ) (fun r2 σ2 => (if r2 = 0 then
    (nm (bnd2 (f_X5_found (5 : Int32) σ2) (fun r3 σ3 => (some (r3, σ3))))
    (fun k34 => (if ((gS σ2 (16 * q1 + 1)) - (gS σ2 (16 * q1 + 1)) / (2 : Int32) * (2 : Int32)) = 0 then
    (if (gS σ2 (16 * q1 + 1)) ≤ (16 : Int32) then
    (l_X5_refusedPairs_42 q1 σ2 
    ((bnd2 (f_X5_found (3 : Int32) σ2) (fun r9 σ9 => (some (r9, σ9))))) FU (0 : Int32))
    else
    k34)
    else
    k34)))
    else
    (some (r2, σ2))))))
def f_X5_tookOf (i0 : Int32) (i1 : Int32) (i2 : Int32) : Option Int32 :=
    (bnd (f_X1_taps i0 i1 i2) (fun r1 => (if r1 = (-9 : Int32) then
    (some (0 : Int32))
    else
    (some r1))))
def l_X5_canBe_2 (a1 : Int32) (b2 : Nat) (σ : Sg) : Nat → Int32 → Option Bool
  | 0, _ => none
  | N1 + 1, x3 =>
    (if (gS σ (16 * b2 + 1)) ≤ x3 then
    (some true)
    else
    (bnd (f_X0_get b2 x3 σ) (fun r1 => (bnd (f_X5_tookOf a1 r1 (gS σ (16 * (gR σ 0) + 10))) (fun r3 => (bnd (f_X0_get b2 (x3 + (1 : Int32)) σ) (fun r4 => (if r3 = r4 then
    (nm (x3 + (2 : Int32)) (fun y5 => (l_X5_canBe_2 a1 b2 σ N1 y5)))
    else
    (some false)))))))))
def f_X5_canBe (i1 : Int32) (g2 : Nat) (σ : Sg) : Option Bool :=
    (l_X5_canBe_2 i1 g2 σ FU (0 : Int32))
def l_X5_kindsBy_4 (b1 : Nat) (σ : Sg) (k31 : Int32 → Option Int32) : Nat → Int32 → Int32 → Option Int32
  | 0, _, _ => none
  | N1 + 1, x2, x3 =>
    (if (6 : Int32) ≤ x3 then
    (k31 x2)
    else
    (bnd (f_X5_canBe x3 b1 σ) (fun r1 => (nm (fun (u2_25 : Int32) => (nm (x3 + (1 : Int32)) (fun y2 => (l_X5_kindsBy_4 b1 σ k31 N1 u2_25 y2))))
    (fun k25 => (bf r1
    (nm (x2 ||| ((1 : Int32) <<< (x3 &&& 31))) (fun y3 => (k25 y3)))
    (k25 x2)))))))
def f_X5_kindsBy (g1 : Nat) (σ : Sg) : Option Int32 :=
    (l_X5_kindsBy_4 g1 σ 
    (fun (v2_31 : Int32) => (some v2_31)) FU (0 : Int32) (0 : Int32))
def l_X5_partOf_6 (a1 : Int32) (a2 : Int32) (a3 : Int32) (σ : Sg) (k55 : Int32 → Option Int32) : Nat → Int32 → Int32 → Option Int32
  | 0, _, _ => none
  | N1 + 1, x4, x5 =>
    (if (6 : Int32) ≤ x5 then
    (k55 x4)
    else
    (bnd (f_X5_holds a1 x5) (fun r1 => (nm (fun (t0_46 : Bool) => (nm (x4 + (b2i t0_46)) (fun y2 => (nm (x5 + (1 : Int32)) (fun y3 => (l_X5_partOf_6 a1 a2 a3 σ k55 N1 y2 y3))))))
    (fun k46 => (nm (k46 false)
    (fun k45 => (bf r1
    (bnd (f_X5_tookOf x5 a2 (gS σ (16 * (gR σ 0) + 10))) (fun r5 => (if r5 = a3 then
    (k46 true)
    else
    k45)))
    k45))))))))
def f_X5_partOf (i1 : Int32) (i2 : Int32) (i3 : Int32) (σ : Sg) : Option Int32 :=
    (l_X5_partOf_6 i1 i2 i3 σ 
    (fun (v4_55 : Int32) => (some v4_55)) FU (0 : Int32) (0 : Int32))
def l_X5_greatestPart_5 (a1 : Int32) (a2 : Int32) (σ : Sg) (k55 : Int32 → Option Int32) : Nat → Int32 → Int32 → Option Int32
  | 0, _, _ => none
  | N1 + 1, x3, x4 =>
    (if (6 : Int32) ≤ x4 then
    (k55 x3)
    else
    (bnd (f_X5_holds a1 x4) (fun r1 => (nm (fun (u3_49 : Int32) => (nm (x4 + (1 : Int32)) (fun y2 => (l_X5_greatestPart_5 a1 a2 σ k55 N1 u3_49 y2))))
    (fun k49 => (bf r1
    (bnd (f_X5_tookOf x4 a2 (gS σ (16 * (gR σ 0) + 10))) (fun r4 => (bnd (f_X5_partOf a1 a2 r4 σ) (fun r5 => (nm (mmax x3 r5) (fun y6 => (k49 y6)))))))
    (k49 x3)))))))
def f_X5_greatestPart (i1 : Int32) (i2 : Int32) (σ : Sg) : Option Int32 :=
    (l_X5_greatestPart_5 i1 i2 σ 
    (fun (v3_55 : Int32) => (some v3_55)) FU (0 : Int32) (0 : Int32))
def l_X5_whose_31 (b2 : Nat) (σ : Sg) (k78 : Int32 → Option (Int32 × Sg)) : Nat → Int32 → Int32 → Option (Int32 × Sg)
  | 0, _, _ => none
  | N1 + 1, x4, x5 =>
    (if (gS σ (16 * (gR σ 0) + 7)) ≤ x5 then
    (k78 x4)
    else
    (bnd (f_X0_get (stI (gR σ 0) 0) x5 σ) (fun r6 => (bnd (f_X5_canBe r6 b2 σ) (fun r7 => (nm (fun (u4_72 : Int32) => (nm (x5 + (1 : Int32)) (fun y8 => (l_X5_whose_31 b2 σ k78 N1 u4_72 y8))))
    (fun k72 => (bf r7
    (nm (x4 ||| ((1 : Int32) <<< (x5 &&& 31))) (fun y9 => (k72 y9)))
    (k72 x4)))))))))
def f_X5_whose (i1 : Int32) (σ : Sg) : Option (Int32 × Sg) :=
    (bnd (f_X5_pick 71 i1) (fun r1 => oc r1
    (bnd2 (f_X5_refusedPairs none σ) (fun r2 σ2 => (some (r2, σ2))))
    (fun g1 => (bnd2 (f_X5_refusedPairs (some g1) σ) (fun r3 σ3 => (if r3 = 0 then
    (l_X5_whose_31 g1 σ3 
    (fun (v4_78 : Int32) => (some (v4_78, σ3))) FU (0 : Int32) (0 : Int32))
    else
    (some (r3, σ3))))))))
def f_X5_kinds (i1 : Int32) (σ : Sg) : Option (Int32 × Sg) :=
    (bnd (f_X5_pick 71 i1) (fun r1 => oc r1
    (bnd2 (f_X5_refusedPairs none σ) (fun r2 σ2 => (some (r2, σ2))))
    (fun g1 => (bnd2 (f_X5_refusedPairs (some g1) σ) (fun r3 σ3 => (if r3 = 0 then
    (bnd (f_X5_kindsBy g1 σ3) (fun r4 => (some (r4, σ3))))
    else
    (some (r3, σ3))))))))
def l_X5_test_55 (a4 : Int32) (σ : Sg) (k93 : Int32 → Int32 → Option (Int32 × Sg)) : Nat → Int32 → Int32 → Int32 → Option (Int32 × Sg)
  | 0, _, _, _ => none
  | N1 + 1, x5, x6, x7 =>
    (if (99 : Int32) < x7 then
    (k93 x5 x6)
    else
    (bnd (f_X5_greatestPart a4 x7 σ) (fun r6 => (nm (fun (u5_87 : Int32) (u6_87 : Int32) => (nm (x7 + (1 : Int32)) (fun y7 => (l_X5_test_55 a4 σ k93 N1 u5_87 u6_87 y7))))
    (fun k87 => (if x6 ≤ r6 then
    (k87 x5 x6)
    else
    (k87 x7 r6)))))))
def f_X5_test (i1 : Int32) (σ : Sg) : Option (Int32 × Sg) :=
    (bnd (f_X5_pick 71 i1) (fun r1 => oc r1
    (bnd2 (f_X5_refusedPairs none σ) (fun r2 σ2 => (some (r2, σ2))))
    (fun g1 => (bnd2 (f_X5_refusedPairs (some g1) σ) (fun r3 σ3 => (if r3 = 0 then
    (bnd (f_X5_kindsBy g1 σ3) (fun r4 => (if r4 = 0 then
    (some ((-9 : Int32), σ3))
    else
    (bnd (f_X5_greatestPart r4 (0 : Int32) σ3) (fun r5 => (l_X5_test_55 r4 σ3 
    (fun (v5_93 : Int32) (v6_93 : Int32) => (nm (pS σ3 9 v6_93) (fun σ8 => (some (v5_93, σ8))))) FU (0 : Int32) r5 (1 : Int32)))))))
    else
    (some (r3, σ3))))))))
def l_X5_divisor_3 (k32 : Int64 → Option Int64) : Nat → Int64 → Int64 → Int32 → Option Int64
  | 0, _, _, _ => none
  | N1 + 1, x0, x2, x4 =>
    (if (100 : Int32) ≤ x4 then
    (k32 x0)
    else
    (if (lg_cmp x2 (0 : Int64)) = 0 then
    (k32 x0)
    else
    (ck (decide (¬ x2 = 0)) (nm (x0 - x0 / x2 * x2) (fun y1 => (nm (x4 + (1 : Int32)) (fun y2 => (l_X5_divisor_3 k32 N1 x2 y1 y2))))))))
def f_X5_divisor (l0 : Int64) (l2 : Int64) : Option Int64 :=
    (l_X5_divisor_3 
    (fun (v0_32 : Int64) => (some v0_32)) FU l0 l2 (0 : Int32))
def f_X5_tellRatio (l1 : Int64) (l3 : Int64) (σ : Sg) : Option Sg :=
    (bnd (f_X5_divisor l1 l3) (fun r1 => (nm (fun (t0_23 : Int64) => (nm (pL σ 10 t0_23) (fun σ2 => (if (lg_cmp r1 (0 : Int64)) ≤ 0 then
    (nm (pL σ2 11 l3) (fun σ3 => (some σ3)))
    else
    (ck (decide (¬ r1 = 0)) (nm (pL σ2 11 (l3 / r1)) (fun σ4 => (some σ4))))))))
    (fun k23 => (if (lg_cmp r1 (0 : Int64)) ≤ 0 then
    (k23 l1)
    else
    (ck (decide (¬ r1 = 0)) (k23 (l1 / r1))))))))
def l_X5_sets_33 (a1 : Int32) (σ : Sg) (k80 : Int32 → Int32 → Option (Int32 × Sg)) : Nat → Int32 → Int32 → Int32 → Option (Int32 × Sg)
  | 0, _, _, _ => none
  | N1 + 1, x2, x3, x4 =>
    (if ((1 : Int32) <<< ((gS σ (16 * (gR σ 0) + 7)) &&& 31)) ≤ x4 then
    (k80 x2 x3)
    else
    (bnd (f_X4_fees (gR σ 0) x4 σ) (fun r5 => (nm (fun (u2_74 : Int32) (u3_74 : Int32) => (nm (x4 + (1 : Int32)) (fun y6 => (l_X5_sets_33 a1 σ k80 N1 u2_74 u3_74 y6))))
    (fun k74 => (if r5 = a1 then
    (nm (fun (t0_70 : Int32) => (nm (x3 + (1 : Int32)) (fun y7 => (k74 t0_70 y7))))
    (fun k70 => (if x3 = 0 then
    (k70 x4)
    else
    (k70 x2))))
    else
    (k74 x2 x3)))))))
def f_X5_sets (i1 : Int32) (σ : Sg) : Option (Int32 × Sg) :=
    (bnd (f_X5_within i1 (0 : Int32) (99 : Int32)) (fun r1 => (bf r1
    (if (gS σ (16 * (gR σ 0) + 7)) = 0 then
    (some ((-4 : Int32), σ))
    else
    (l_X5_sets_33 i1 σ 
    (fun (v2_80 : Int32) (v3_80 : Int32) => (nm (pS σ 9 v2_80) (fun σ8 => (bnd (f_X5_tellRatio (v3_80.toInt64) (1 : Int64) σ8) (fun σ9 => (some ((1 : Int32), σ9))))))) FU (-9 : Int32) (0 : Int32) (0 : Int32)))
    (some ((-1 : Int32), σ)))))
def l_X5_sure_48 (a1 : Int32) (a2 : Int32) (σ : Sg) (k88 : Int32 → Int32 → Int32 → Option (Int32 × Sg)) : Nat → Int32 → Int32 → Int32 → Int32 → Option (Int32 × Sg)
  | 0, _, _, _, _ => none
  | N1 + 1, x3, x4, x5, x6 =>
    (if a2 < x6 then
    (k88 x3 x4 x5)
    else
    (bnd (f_X4_fees (gR σ 0) x6 σ) (fun r6 => (nm (fun (u3_82 : Int32) (u4_82 : Int32) (u5_82 : Int32) => (nm (x6 + (1 : Int32)) (fun y7 => (l_X5_sure_48 a1 a2 σ k88 N1 u3_82 u4_82 u5_82 y7))))
    (fun k82 => (if r6 = a1 then
    (nm (x3 &&& x6) (fun y8 => (nm (x4 ||| x6) (fun y9 => (nm (x5 + (1 : Int32)) (fun y10 => (k82 y8 y9 y10)))))))
    else
    (k82 x3 x4 x5)))))))
def f_X5_sure (i1 : Int32) (σ : Sg) : Option (Int32 × Sg) :=
    (bnd (f_X5_within i1 (0 : Int32) (99 : Int32)) (fun r1 => (bf r1
    (if (gS σ (16 * (gR σ 0) + 7)) = 0 then
    (some ((-4 : Int32), σ))
    else
    (nm (((1 : Int32) <<< ((gS σ (16 * (gR σ 0) + 7)) &&& 31)) - (1 : Int32)) (fun y4 => (l_X5_sure_48 i1 y4 σ 
    (fun (v3_88 : Int32) (v4_88 : Int32) (v5_88 : Int32) => (if v5_88 = 0 then
    (bnd2 (f_X5_found (4 : Int32) σ) (fun r11 σ11 => (some (r11, σ11))))
    else
    (nm (pS σ 9 (y4 &&& (v4_88 ^^^ (-1 : Int32)))) (fun σ12 => (some (v3_88, σ12)))))) FU y4 (0 : Int32) (0 : Int32) (0 : Int32)))))
    (some ((-1 : Int32), σ)))))
def f_X5_duel (i1 : Int32) (σ : Sg) : Option (Int32 × Sg) :=
    (bnd (f_X5_within i1 (0 : Int32) (3 : Int32)) (fun r1 => (bf r1
    (if (gS σ (16 * (gR σ 0) + 7)) = 0 then
    (some ((-4 : Int32), σ))
    else
    (bnd (f_X4_mostAwake (gR σ 0) (0 : Int32) i1 σ) (fun r4 => (bnd (f_X4_mostAwake (gR σ 0) (1 : Int32) i1 σ) (fun r6 => (nm (pS σ 9 (r4 - r6)) (fun σ7 => (some ((1 : Int32), σ7)))))))))
    (some ((-1 : Int32), σ)))))
def l_X5_power_5 (a0 : Int64) (a2 : Int32) (k21 : Int64 → Option Int64) : Nat → Int64 → Int32 → Option Int64
  | 0, _, _ => none
  | N1 + 1, x3, x5 =>
    (if a2 ≤ x5 then
    (k21 x3)
    else
    (nm (x3 * a0) (fun y1 => (nm (x5 + (1 : Int32)) (fun y2 => (l_X5_power_5 a0 a2 k21 N1 y1 y2))))))
def f_X5_power (l0 : Int64) (i2 : Int32) : Option Int64 :=
    (l_X5_power_5 l0 i2 
    (fun (v3_21 : Int64) => (some v3_21)) FU (1 : Int64) (0 : Int32))
def l_X5_ways_5 (a0 : Int32) (a1 : Int32) (k31 : Int64 → Option Int64) : Nat → Int64 → Int32 → Option Int64
  | 0, _, _ => none
  | N1 + 1, x2, x4 =>
    (if a1 ≤ x4 then
    (k31 x2)
    else
    (ck (decide (¬ ((x4 + (1 : Int32)).toInt64) = 0)) (nm ((x2 * ((a0 - x4).toInt64)) / ((x4 + (1 : Int32)).toInt64)) (fun y1 => (nm (x4 + (1 : Int32)) (fun y2 => (l_X5_ways_5 a0 a1 k31 N1 y1 y2)))))))
def f_X5_ways (i0 : Int32) (i1 : Int32) : Option Int64 :=
    (l_X5_ways_5 i0 i1 
    (fun (v2_31 : Int64) => (some v2_31)) FU (1 : Int64) (0 : Int32))
def f_X5_weight (i0 : Int32) (i1 : Int32) (i2 : Int32) : Option Int64 :=
    (bnd (f_X5_ways i0 i1) (fun r1 => (bnd (f_X5_power (i2.toInt64) i1) (fun r2 => (bnd (f_X5_power (((12 : Int32) - i2).toInt64) (i0 - i1)) (fun r3 => (some ((r1 * r2) * r3))))))))
def f_X5_isTry (i1 : Int32) (i2 : Int32) (i3 : Int32) (σ : Sg) : Option Bool :=
    (bnd (f_X4_isHouse (gR σ 0) i1 σ) (fun r2 => (bf r2
    (bnd (f_X5_within i2 (0 : Int32) (8 : Int32)) (fun r3 => (bf r3
    (bnd (f_X5_within i3 (0 : Int32) (12 : Int32)) (fun r4 => (bf r4
    (some true)
    (some false))))
    (some false))))
    (some false))))
def l_X5_odds_28 (a2 : Int32) (a3 : Int32) (a4 : Int32) (σ : Sg) (k70 : Int64 → Option (Int32 × Sg)) : Nat → Int64 → Int32 → Option (Int32 × Sg)
  | 0, _, _ => none
  | N1 + 1, x5, x7 =>
    (if a2 < x7 then
    (k70 x5)
    else
    (if a4 = (-9 : Int32) then
    (k70 x5)
    else
    (nm (fun (t0_61 : Int64) => (nm (x5 + t0_61) (fun y4 => (nm (x7 + (1 : Int32)) (fun y5 => (l_X5_odds_28 a2 a3 a4 σ k70 N1 y4 y5))))))
    (fun k61 => (if x7 < a4 then
    (k61 (0 : Int64))
    else
    (bnd (f_X5_weight a2 x7 a3) (fun r6 => (k61 r6))))))))
def f_X5_odds (i1 : Int32) (i2 : Int32) (i3 : Int32) (σ : Sg) : Option (Int32 × Sg) :=
    (bnd (f_X5_isTry i1 i2 i3 σ) (fun r1 => (bf r1
    (bnd (f_X4_more (gR σ 0) i1 σ) (fun r3 => (l_X5_odds_28 i2 i3 r3 σ 
    (fun (v5_70 : Int64) => (bnd (f_X5_power (12 : Int64) i2) (fun r7 => (bnd (f_X5_tellRatio v5_70 r7 σ) (fun σ8 => (some ((1 : Int32), σ8))))))) FU (0 : Int64) (0 : Int32))))
    (some ((-1 : Int32), σ)))))
def l_X5_mid_41 (a2 : Int32) (a3 : Int32) (a4 : Int32) (σ : Sg) (k76 : Int64 → Option (Int32 × Sg)) : Nat → Int64 → Int32 → Option (Int32 × Sg)
  | 0, _, _ => none
  | N1 + 1, x5, x7 =>
    (if a2 < x7 then
    (k76 x5)
    else
    (bnd (f_X5_weight a2 x7 a3) (fun r5 => (nm (x5 + (r5 * ((mmax (0 : Int32) (a4 - x7)).toInt64))) (fun y6 => (nm (x7 + (1 : Int32)) (fun y7 => (l_X5_mid_41 a2 a3 a4 σ k76 N1 y6 y7))))))))
def f_X5_mid (i1 : Int32) (i2 : Int32) (i3 : Int32) (σ : Sg) : Option (Int32 × Sg) :=
    (bnd (f_X5_isTry i1 i2 i3 σ) (fun r1 => (bf r1
    (bnd (f_X4_more (gR σ 0) i1 σ) (fun r3 => (if r3 = (-9 : Int32) then
    (bnd2 (f_X5_found (4 : Int32) σ) (fun r4 σ4 => (some (r4, σ4))))
    else
    (l_X5_mid_41 i2 i3 r3 σ 
    (fun (v5_76 : Int64) => (bnd (f_X5_power (12 : Int64) i2) (fun r8 => (bnd (f_X5_tellRatio v5_76 r8 σ) (fun σ9 => (some ((1 : Int32), σ9))))))) FU (0 : Int64) (0 : Int32)))))
    (some ((-1 : Int32), σ)))))
def l_X5_lots_56 (a1 : Int32) (k87 : Sg → Option (Int32 × Sg)) : Nat → Int64 → Int32 → Sg → Option (Int32 × Sg)
  | 0, _, _, _ => none
  | N1 + 1, x3, x5, σx =>
    (if a1 ≤ x5 then
    (k87 σx)
    else
    (nm ((x3 * (48271 : Int64)) - (x3 * (48271 : Int64)) / (2147483647 : Int64) * (2147483647 : Int64)) (fun y5 => (bnd (f_X4_doesByLot (gR σx 0) (y5.toInt32) σx) (fun σ7 => (nm (x5 + (1 : Int32)) (fun y8 => (l_X5_lots_56 a1 k87 N1 y5 y8 σ7))))))))
def f_X5_lots (i1 : Int32) (i2 : Int32) (σ : Sg) : Option (Int32 × Sg) :=
    (bnd (f_X5_within i1 (1 : Int32) (20 : Int32)) (fun r1 => (bf r1
    (if i2 < (1 : Int32) then
    (some ((-1 : Int32), σ))
    else
    (if (lg_cmp (i2.toInt64) (2147483647 : Int64)) < 0 then
    (if (gS σ (16 * (gR σ 0) + 7)) = 0 then
    (some ((-4 : Int32), σ))
    else
    (bnd (f_X5_isFull i1 σ) (fun r3 => (bf r3
    (some ((-2 : Int32), σ))
    (nm (i2.toInt64) (fun y4 => (l_X5_lots_56 i1 
    (fun (σv87 : Sg) => (bnd (f_X4_awakeSet (gR σv87 0) σv87) (fun r10 => (bnd (f_J6_bitCount_0f7a4 r10) (fun r11 => (some (r11, σv87))))))) FU y4 (0 : Int32) σ)))))))
    else
    (some ((-1 : Int32), σ))))
    (some ((-1 : Int32), σ)))))
def f_X5_asked  (σ : Sg) : Option Int32 :=
    (some (gS σ 9))
def f_X5_upper  (σ : Sg) : Option Int64 :=
    (some (gL σ 10))
def f_X5_lower  (σ : Sg) : Option Int64 :=
    (some (gL σ 11))
def f_X5_count (i1 : Int32) (σ : Sg) : Option Int32 :=
    (if i1 = (0 : Int32) then
    (some (gS σ (16 * (gR σ 0) + 7)))
    else
    (if i1 = (1 : Int32) then
    (some (gS σ (16 * (gR σ 0) + 11)))
    else
    (if i1 = (2 : Int32) then
    (some (gS σ (16 * (gR σ 0) + 12)))
    else
    (if i1 = (3 : Int32) then
    (some (gS σ (16 * (stI (gR σ 0) 6) + 1)))
    else
    (if i1 = (4 : Int32) then
    (some (gS σ (16 * (gR σ 0) + 13)))
    else
    (if i1 = (5 : Int32) then
    (some (gS σ (16 * (gR σ 0) + 10)))
    else
    (if i1 = (6 : Int32) then
    (bnd (f_X4_awakeSet (gR σ 0) σ) (fun r8 => (some r8)))
    else
    (if i1 = (7 : Int32) then
    (some (gS σ (16 * (gR σ 0) + 14)))
    else
    (if i1 = (8 : Int32) then
    (bnd (f_X4_manyOf (gR σ 0) (1 : Int32) σ) (fun r11 => (some r11)))
    else
    (if i1 = (9 : Int32) then
    (bnd (f_X4_manyOf (gR σ 0) (2 : Int32) σ) (fun r13 => (some r13)))
    else
    (if i1 = (10 : Int32) then
    (bnd (f_X5_present 71 σ) (fun r14 => (some r14)))
    else
    (if i1 = (11 : Int32) then
    (bnd (f_X5_present 72 σ) (fun r15 => (some r15)))
    else
    (if i1 = (12 : Int32) then
    (bnd (f_X5_present 73 σ) (fun r16 => (some r16)))
    else
    (if i1 = (13 : Int32) then
    (some (gS σ (16 * (gR σ 0) + 8)))
    else
    (some (-1 : Int32))))))))))))))))
def f_X5_finding  (σ : Sg) : Option Int32 :=
    (some (gS σ 8))
def f_X5_findings (i1 : Int32) (σ : Sg) : Option Int32 :=
    (bnd (f_X5_within i1 (1 : Int32) (5 : Int32)) (fun r1 => (bf r1
    (bnd (f_X0_get 18 i1 σ) (fun r2 => (some r2)))
    (some (-1 : Int32)))))
def l_X5_digestOf_34 (b0 : Nat) (a3 : Int32) (b4 : Nat) (σ : Sg) (k65 : Int64 → Option Int64) : Nat → Int64 → Int32 → Option Int64
  | 0, _, _ => none
  | N1 + 1, x1, x5 =>
    (if (gS σ (16 * b4 + 1)) ≤ x5 then
    (k65 x1)
    else
    (bnd (f_X0_get b4 x5 σ) (fun r4 => (nm (((31 : Int64) * x1) + (r4.toInt64)) (fun y5 => (nm (x5 + (1 : Int32)) (fun y6 => (l_X5_digestOf_34 b0 a3 b4 σ k65 N1 y5 y6))))))))
def l_X5_digestOf_2 (b0 : Nat) (σ : Sg) (k71 : Int64 → Option Int64) : Nat → Int64 → Int32 → Option Int64
  | 0, _, _ => none
  | N1 + 1, x1, x3 =>
    (if (nI (rLen b0)) ≤ x3 then
    (k71 x1)
    else
    (ck (inB x3 (rLen b0)) (nm (fun (u1_65 : Int64) => (nm (x3 + (1 : Int32)) (fun y2 => (l_X5_digestOf_2 b0 σ k71 N1 u1_65 y2))))
    (fun k65 => (nm (((31 : Int64) * x1) + ((gS σ (16 * (rBase b0 + x3.toNatClampNeg) + 1)).toInt64)) (fun y3 => (l_X5_digestOf_34 b0 x3 (rBase b0 + x3.toNatClampNeg) σ 
    (fun (v1_65 : Int64) => (k65 v1_65)) FU y3 (0 : Int32))))))))
def f_X5_digestOf (g0 : Nat) (l1 : Int64) (σ : Sg) : Option Int64 :=
    (l_X5_digestOf_2 g0 σ 
    (fun (v1_71 : Int64) => (some v1_71)) FU l1 (0 : Int32))
def l_X5_digest_6 (σ : Sg) (k31 : Int64 → Option Int64) : Nat → Int64 → Int32 → Option Int64
  | 0, _, _ => none
  | N1 + 1, x1, x3 =>
    (if (14 : Int32) ≤ x3 then
    (k31 x1)
    else
    (bnd (f_X5_count x3 σ) (fun r1 => (nm (((31 : Int64) * x1) + (r1.toInt64)) (fun y2 => (nm (x3 + (1 : Int32)) (fun y3 => (l_X5_digest_6 σ k31 N1 y2 y3))))))))
def l_X5_digest_47 (a3 : Int32) (σ : Sg) (k78 : Int64 → Option Int64) : Nat → Int64 → Int32 → Option Int64
  | 0, _, _ => none
  | N1 + 1, x1, x4 =>
    (if (6 : Int32) ≤ x4 then
    (k78 x1)
    else
    (bnd (f_X4_tell (gR σ 0) a3 x4 σ) (fun r6 => (nm (((31 : Int64) * x1) + (r6.toInt64)) (fun y7 => (nm (x4 + (1 : Int32)) (fun y8 => (l_X5_digest_47 a3 σ k78 N1 y7 y8))))))))
def l_X5_digest_33 (σ : Sg) (k84 : Int64 → Option Int64) : Nat → Int64 → Int32 → Option Int64
  | 0, _, _ => none
  | N1 + 1, x1, x3 =>
    (if (gS σ (16 * (gR σ 0) + 7)) ≤ x3 then
    (k84 x1)
    else
    (l_X5_digest_47 x3 σ 
    (fun (v1_78 : Int64) => (nm (x3 + (1 : Int32)) (fun y9 => (l_X5_digest_33 σ k84 N1 v1_78 y9)))) FU x1 (0 : Int32)))
def l_X5_digest_86 (σ : Sg) (k131 : Int64 → Option Int64) : Nat → Int64 → Int32 → Option Int64
  | 0, _, _ => none
  | N1 + 1, x1, x3 =>
    (if (nI (rLen 73)) ≤ x3 then
    (k131 x1)
    else
    (ck (inB x3 (rLen 73)) (nm (fun (t0_122 : Int32) => (nm (((31 : Int64) * x1) + (t0_122.toInt64)) (fun y11 => (nm (x3 + (1 : Int32)) (fun y12 => (l_X5_digest_86 σ k131 N1 y11 y12))))))
    (fun k122 => (k122 (gS σ (16 * (rBase 73 + x3.toNatClampNeg) + 1)))))))
def f_X5_digest  (σ : Sg) : Option Int64 :=
    (l_X5_digest_6 σ 
    (fun (v1_31 : Int64) => (l_X5_digest_33 σ 
    (fun (v1_84 : Int64) => (l_X5_digest_86 σ 
    (fun (v1_131 : Int64) => (bnd (f_X5_digestOf 71 v1_131 σ) (fun r13 => (bnd (f_X5_digestOf 72 r13 σ) (fun r14 => (some r14)))))) FU v1_84 (0 : Int32))) FU v1_31 (0 : Int32))) FU (17 : Int64) (0 : Int32))
def f_X6_in (i0 : Int32) (i1 : Int32) (i2 : Int32) : Option Bool :=
    (if i0 < i1 then
    (some false)
    else
    (if i2 < i0 then
    (some false)
    else
    (some true)))
def f_X6_has (i0 : Int32) (i1 : Int32) : Option Bool :=
    (if ((i0 >>> (i1 &&& 31)) &&& (1 : Int32)) = (1 : Int32) then
    (some true)
    else
    (some false))
def l_X6_bits_4 (a0 : Int32) (k24 : Int32 → Option Int32) : Nat → Int32 → Int32 → Option Int32
  | 0, _, _ => none
  | N1 + 1, x1, x2 =>
    (if (6 : Int32) ≤ x2 then
    (k24 x1)
    else
    (nm (x1 + ((a0 >>> (x2 &&& 31)) &&& (1 : Int32))) (fun y1 => (nm (x2 + (1 : Int32)) (fun y2 => (l_X6_bits_4 a0 k24 N1 y1 y2))))))
def f_X6_bits (i0 : Int32) : Option Int32 :=
    (l_X6_bits_4 i0 
    (fun (v1_24 : Int32) => (some v1_24)) FU (0 : Int32) (0 : Int32))
def f_X6_finds (i1 : Int32) (σ : Sg) : Option (Int32 × Sg) :=
    (nm (pS σ 4 i1) (fun σ1 => (ck (inB i1 (mLen 5)) (ck (inB i1 (mLen 5)) (nm (pA σ1 5 (upd (gA σ1 5) i1.toNatClampNeg ((gA σ1 5 i1.toNatClampNeg) + (1 : Int32)))) (fun σ2 => (some ((-3 : Int32), σ2))))))))
def f_X6_tells (i1 : Int32) (σ : Sg) : Option (Int32 × Sg) :=
    (nm (pS σ 6 i1) (fun σ1 => (some ((1 : Int32), σ1))))
def l_X6_bring_3 (b0 : Nat) (a1 : Int32) (b2 : Nat) (a3 : Int32) (a4 : Int32) (k28 : Sg → Option Sg) : Nat → Int32 → Sg → Option Sg
  | 0, _, _ => none
  | N1 + 1, x5, σx =>
    (if a4 ≤ x5 then
    (k28 σx)
    else
    (ck (inB (a1 + x5) (mLen b0)) (ck (inB (a3 + x5) (mLen b2)) (nm (pA σx b2 (upd (gA σx b2) (a3 + x5).toNatClampNeg (gA σx b0 (a1 + x5).toNatClampNeg))) (fun σ1 => (nm (x5 + (1 : Int32)) (fun y2 => (l_X6_bring_3 b0 a1 b2 a3 a4 k28 N1 y2 σ1))))))))
def f_X6_bring (g0 : Nat) (i1 : Int32) (g2 : Nat) (i3 : Int32) (i4 : Int32) (σ : Sg) : Option Sg :=
    (l_X6_bring_3 g0 i1 g2 i3 i4 
    (fun (σv28 : Sg) => (some σv28)) FU (0 : Int32) σ)
def f_X6_isOne (i1 : Int32) (σ : Sg) : Option Bool :=
    (bnd (f_X6_in i1 (0 : Int32) ((gS σ 17) - (1 : Int32))) (fun r1 => (some r1)))
def l_X6_row_36 (a1 : Int32) (a2 : Int32) (k60 : Sg → Option (Int32 × Sg)) : Nat → Int32 → Sg → Option (Int32 × Sg)
  | 0, _, _ => none
  | N1 + 1, x3, σx =>
    (if (40 : Int32) ≤ x3 then
    (k60 σx)
    else
    (ck (inB (((40 : Int32) * a1) + x3) (mLen 2)) (nm (pA σx 2 (upd (gA σx 2) (((40 : Int32) * a1) + x3).toNatClampNeg (0 : Int32))) (fun σ3 => (nm (x3 + (1 : Int32)) (fun y4 => (l_X6_row_36 a1 a2 k60 N1 y4 σ3)))))))
def f_X6_row (i1 : Int32) (i2 : Int32) (σ : Sg) : Option (Int32 × Sg) :=
    (bnd (f_X6_in i1 (0 : Int32) (5 : Int32)) (fun r1 => (bf r1
    (if i2 ≤ (40 : Int32) then
    (if 0 ≤ i2 then
    (ck (inB i1 (mLen 1)) (nm (pA σ 1 (upd (gA σ 1) i1.toNatClampNeg i2)) (fun σ2 => (l_X6_row_36 i1 i2 
    (fun (σv60 : Sg) => (some (i2, σv60))) FU (0 : Int32) σ2))))
    else
    (bnd2 (f_X6_finds (5 : Int32) σ) (fun r5 σ5 => (some (r5, σ5)))))
    else
    (some ((-1 : Int32), σ)))
    (some ((-1 : Int32), σ)))))
def f_X6_wrongAt (i1 : Int32) (i2 : Int32) (σ : Sg) : Option (Int32 × Sg) :=
    (bnd (f_X6_in i1 (0 : Int32) (5 : Int32)) (fun r1 => (bf r1
    (ck (inB i1 (mLen 1)) (if 0 ≤ (gA σ 1 i1.toNatClampNeg) then
    (ck (inB i1 (mLen 1)) (bnd (f_X6_in i2 (0 : Int32) ((gA σ 1 i1.toNatClampNeg) - (1 : Int32))) (fun r2 => (bf r2
    (some ((0 : Int32), σ))
    (bnd2 (f_X6_finds (2 : Int32) σ) (fun r3 σ3 => (some (r3, σ3))))))))
    else
    (bnd2 (f_X6_finds (1 : Int32) σ) (fun r4 σ4 => (some (r4, σ4))))))
    (some ((-1 : Int32), σ)))))
def f_X6_lay (i1 : Int32) (i2 : Int32) (i3 : Int32) (σ : Sg) : Option (Int32 × Sg) :=
    (bnd2 (f_X6_wrongAt i1 i2 σ) (fun r1 σ1 => (if r1 = 0 then
    (ck (inB (((40 : Int32) * i1) + i2) (mLen 2)) (nm (gA σ1 2 (((40 : Int32) * i1) + i2).toNatClampNeg) (fun y2 => (ck (inB (((40 : Int32) * i1) + i2) (mLen 2)) (nm (pA σ1 2 (upd (gA σ1 2) (((40 : Int32) * i1) + i2).toNatClampNeg i3)) (fun σ3 => (bnd2 (f_X6_tells y2 σ3) (fun r4 σ4 => (some (r4, σ4))))))))))
    else
    (some (r1, σ1)))))
def f_X6_at (i1 : Int32) (i2 : Int32) (σ : Sg) : Option (Int32 × Sg) :=
    (bnd2 (f_X6_wrongAt i1 i2 σ) (fun r1 σ1 => (if r1 = 0 then
    (ck (inB (((40 : Int32) * i1) + i2) (mLen 2)) (bnd2 (f_X6_tells (gA σ1 2 (((40 : Int32) * i1) + i2).toNatClampNeg) σ1) (fun r2 σ2 => (some (r2, σ2)))))
    else
    (some (r1, σ1)))))
def f_X6_tear (i1 : Int32) (σ : Sg) : Option (Int32 × Sg) :=
    (bnd (f_X6_in i1 (0 : Int32) (5 : Int32)) (fun r1 => (bf r1
    (ck (inB i1 (mLen 1)) (if 0 ≤ (gA σ 1 i1.toNatClampNeg) then
    (ck (inB i1 (mLen 1)) (nm (pA σ 1 (upd (gA σ 1) i1.toNatClampNeg (-1 : Int32))) (fun σ2 => (some ((1 : Int32), σ2)))))
    else
    (bnd2 (f_X6_finds (1 : Int32) σ) (fun r3 σ3 => (some (r3, σ3))))))
    (some ((-1 : Int32), σ)))))
def f_X6_isPart (i0 : Int32) (i1 : Int32) (i2 : Int32) : Option Bool :=
    (if i0 < 0 then
    (some false)
    else
    (if i2 < i1 then
    (some false)
    else
    (if (i2 - i1) < i0 then
    (some false)
    else
    (some true))))
def l_X6_copy_113 (a1 : Int32) (a2 : Int32) (a3 : Int32) (a4 : Int32) (a5 : Int32) (a6 : Bool) (k174 : Sg → Option (Int32 × Sg)) : Nat → Int32 → Sg → Option (Int32 × Sg)
  | 0, _, _ => none
  | N1 + 1, x7, σx =>
    (if a5 ≤ x7 then
    (k174 σx)
    else
    (nm (fun (t0_137 : Int32) => (ck (inB ((((40 : Int32) * a1) + a2) + t0_137) (mLen 2)) (ck (inB ((((40 : Int32) * a3) + a4) + t0_137) (mLen 2)) (nm (pA σx 2 (upd (gA σx 2) ((((40 : Int32) * a3) + a4) + t0_137).toNatClampNeg (gA σx 2 ((((40 : Int32) * a1) + a2) + t0_137).toNatClampNeg))) (fun σ7 => (nm (x7 + (1 : Int32)) (fun y8 => (l_X6_copy_113 a1 a2 a3 a4 a5 a6 k174 N1 y8 σ7))))))))
    (fun k137 => (bf a6
    (k137 ((a5 - (1 : Int32)) - x7))
    (k137 x7)))))
def f_X6_copy (i1 : Int32) (i2 : Int32) (i3 : Int32) (i4 : Int32) (i5 : Int32) (σ : Sg) : Option (Int32 × Sg) :=
    (bnd (f_X6_in i1 (0 : Int32) (5 : Int32)) (fun r1 => (bf r1
    (bnd (f_X6_in i3 (0 : Int32) (5 : Int32)) (fun r2 => (bf r2
    (if 0 ≤ i5 then
    (ck (inB i1 (mLen 1)) (nm (bnd2 (f_X6_finds (1 : Int32) σ) (fun r3 σ3 => (some (r3, σ3))))
    (fun k49 => (if (gA σ 1 i1.toNatClampNeg) < 0 then
    k49
    else
    (ck (inB i3 (mLen 1)) (if 0 ≤ (gA σ 1 i3.toNatClampNeg) then
    (ck (inB i1 (mLen 1)) (bnd (f_X6_isPart i2 i5 (gA σ 1 i1.toNatClampNeg)) (fun r4 => (nm (bnd2 (f_X6_finds (2 : Int32) σ) (fun r5 σ5 => (some (r5, σ5))))
    (fun k86 => (bf r4
    (ck (inB i3 (mLen 1)) (bnd (f_X6_isPart i4 i5 (gA σ 1 i3.toNatClampNeg)) (fun r6 => (bf r6
    (nm (fun (t0_108 : Bool) => (l_X6_copy_113 i1 i2 i3 i4 i5 t0_108 
    (fun (σv174 : Sg) => (some ((1 : Int32), σv174))) FU (0 : Int32) σ))
    (fun k108 => (nm (k108 false)
    (fun k107 => (if i1 = i3 then
    (if i4 ≤ i2 then
    k107
    else
    (k108 true))
    else
    k107)))))
    k86))))
    k86))))))
    else
    k49))))))
    else
    (bnd2 (f_X6_finds (5 : Int32) σ) (fun r9 σ9 => (some (r9, σ9)))))
    (some ((-1 : Int32), σ)))))
    (some ((-1 : Int32), σ)))))
def l_X6_mean_46 (a1 : Int32) (σ : Sg) (k79 : Int64 → Option (Int32 × Sg)) : Nat → Int64 → Int32 → Option (Int32 × Sg)
  | 0, _, _ => none
  | N1 + 1, x2, x4 =>
    (ck (inB a1 (mLen 1)) (if (gA σ 1 a1.toNatClampNeg) ≤ x4 then
    (k79 x2)
    else
    (ck (inB (((40 : Int32) * a1) + x4) (mLen 2)) (nm (x2 + ((gA σ 2 (((40 : Int32) * a1) + x4).toNatClampNeg).toInt64)) (fun y3 => (nm (x4 + (1 : Int32)) (fun y4 => (l_X6_mean_46 a1 σ k79 N1 y3 y4))))))))
def f_X6_mean (i1 : Int32) (σ : Sg) : Option (Int32 × Sg) :=
    (bnd (f_X6_in i1 (0 : Int32) (5 : Int32)) (fun r1 => (bf r1
    (ck (inB i1 (mLen 1)) (if 0 ≤ (gA σ 1 i1.toNatClampNeg) then
    (ck (inB i1 (mLen 1)) (if (gA σ 1 i1.toNatClampNeg) = 0 then
    (bnd2 (f_X6_finds (4 : Int32) σ) (fun r2 σ2 => (some (r2, σ2))))
    else
    (l_X6_mean_46 i1 σ 
    (fun (v2_79 : Int64) => (ck (inB i1 (mLen 1)) (ck (decide (¬ ((gA σ 1 i1.toNatClampNeg).toInt64) = 0)) (bnd2 (f_X6_tells ((v2_79 / ((gA σ 1 i1.toNatClampNeg).toInt64)).toInt32) σ) (fun r5 σ5 => (some (r5, σ5))))))) FU (0 : Int64) (0 : Int32))))
    else
    (bnd2 (f_X6_finds (1 : Int32) σ) (fun r6 σ6 => (some (r6, σ6))))))
    (some ((-1 : Int32), σ)))))
def l_X6_text_36 (a1 : Int32) (a2 : Int32) (k61 : Sg → Option (Int32 × Sg)) : Nat → Int32 → Sg → Option (Int32 × Sg)
  | 0, _, _ => none
  | N1 + 1, x3, σx =>
    (if (60 : Int32) ≤ x3 then
    (k61 σx)
    else
    (ck (inB (((60 : Int32) * a1) + x3) (mLen 4)) (nm (pA σx 4 (upd (gA σx 4) (((60 : Int32) * a1) + x3).toNatClampNeg (32 : Int32))) (fun σ3 => (nm (x3 + (1 : Int32)) (fun y4 => (l_X6_text_36 a1 a2 k61 N1 y4 σ3)))))))
def f_X6_text (i1 : Int32) (i2 : Int32) (σ : Sg) : Option (Int32 × Sg) :=
    (bnd (f_X6_in i1 (0 : Int32) (3 : Int32)) (fun r1 => (bf r1
    (if i2 ≤ (60 : Int32) then
    (if 0 ≤ i2 then
    (ck (inB i1 (mLen 3)) (nm (pA σ 3 (upd (gA σ 3) i1.toNatClampNeg i2)) (fun σ2 => (l_X6_text_36 i1 i2 
    (fun (σv61 : Sg) => (some (i2, σv61))) FU (0 : Int32) σ2))))
    else
    (bnd2 (f_X6_finds (5 : Int32) σ) (fun r5 σ5 => (some (r5, σ5)))))
    else
    (some ((-1 : Int32), σ)))
    (some ((-1 : Int32), σ)))))
def f_X6_put (i1 : Int32) (i2 : Int32) (i3 : Int32) (σ : Sg) : Option (Int32 × Sg) :=
    (bnd (f_X6_in i1 (0 : Int32) (3 : Int32)) (fun r1 => (bf r1
    (ck (inB i1 (mLen 3)) (if 0 ≤ (gA σ 3 i1.toNatClampNeg) then
    (ck (inB i1 (mLen 3)) (bnd (f_X6_in i2 (0 : Int32) ((gA σ 3 i1.toNatClampNeg) - (1 : Int32))) (fun r2 => (bf r2
    (ck (inB (((60 : Int32) * i1) + i2) (mLen 4)) (nm (gA σ 4 (((60 : Int32) * i1) + i2).toNatClampNeg) (fun y3 => (ck (inB (((60 : Int32) * i1) + i2) (mLen 4)) (nm (pA σ 4 (upd (gA σ 4) (((60 : Int32) * i1) + i2).toNatClampNeg (i3.toInt8.toInt32))) (fun σ4 => (some ((y3 + (1000 : Int32)), σ4))))))))
    (bnd2 (f_X6_finds (2 : Int32) σ) (fun r5 σ5 => (some (r5, σ5))))))))
    else
    (bnd2 (f_X6_finds (1 : Int32) σ) (fun r6 σ6 => (some (r6, σ6))))))
    (some ((-1 : Int32), σ)))))
def f_X6_letterAt (i1 : Int32) (σ : Sg) : Option Int32 :=
    (if (gS σ 11) ≤ i1 then
    (some (-1000 : Int32))
    else
    (ck (inB ((gS σ 10) + i1) (mLen 4)) (some (gA σ 4 ((gS σ 10) + i1).toNatClampNeg))))
def f_X6_figure (i1 : Int32) (i2 : Int32) (σ : Sg) : Option (Int32 × Sg) :=
    (bnd (f_X6_letterAt (gS σ 9) σ) (fun r1 => (nm (r1 - (48 : Int32)) (fun y2 => (bnd (f_X6_in y2 i1 i2) (fun r3 => (bf r3
    (nm (pS σ 9 ((gS σ 9) + (1 : Int32))) (fun σ4 => (some (y2, σ4))))
    (some ((-1 : Int32), σ)))))))))
def l_X6_skip_0 (k26 : Sg → Option Sg) : Nat → Sg → Option Sg
  | 0, _ => none
  | N1 + 1, σx =>
    (bnd (f_X6_letterAt (gS σx 9) σx) (fun r1 => (if r1 = (32 : Int32) then
    (nm (pS σx 9 ((gS σx 9) + (1 : Int32))) (fun σ2 => (l_X6_skip_0 k26 N1 σ2)))
    else
    (k26 σx))))
def f_X6_skip  (σ : Sg) : Option Sg :=
    (l_X6_skip_0 
    (fun (σv26 : Sg) => (some σv26)) FU σ)
def f_X6_sortBy (i0 : Int32) : Option Int32 :=
    (if i0 = (104 : Int32) then
    (some (0 : Int32))
    else
    (if i0 = (118 : Int32) then
    (some (1 : Int32))
    else
    (if i0 = (114 : Int32) then
    (some (2 : Int32))
    else
    (if i0 = (100 : Int32) then
    (some (3 : Int32))
    else
    (if i0 = (105 : Int32) then
    (some (4 : Int32))
    else
    (if i0 = (109 : Int32) then
    (some (5 : Int32))
    else
    (some (-1 : Int32))))))))
def f_X6_twoFigures  (σ : Sg) : Option (Int32 × Sg) :=
    (bnd2 (f_X6_figure (0 : Int32) (9 : Int32) σ) (fun r1 σ1 => (if 0 ≤ r1 then
    (bnd2 (f_X6_figure (0 : Int32) (9 : Int32) σ1) (fun r2 σ2 => (if 0 ≤ r2 then
    (some ((((10 : Int32) * r1) + r2), σ2))
    else
    (some ((-1 : Int32), σ2)))))
    else
    (some ((-1 : Int32), σ1)))))
def f_X6_isStreet  (σ : Sg) : Option (Bool × Sg) :=
    (bnd (f_X6_letterAt (gS σ 9) σ) (fun r1 => (if r1 = (115 : Int32) then
    (nm (pS σ 9 ((gS σ 9) + (1 : Int32))) (fun σ2 => (bnd2 (f_X6_figure (0 : Int32) (1 : Int32) σ2) (fun r3 σ3 => (nm (pS σ3 12 r3) (fun σ4 => (if 0 ≤ (gS σ4 12) then
    (bnd2 (f_X6_twoFigures σ4) (fun r5 σ5 => (nm (pS σ5 13 r5) (fun σ6 => (if (gS σ6 13) < 0 then
    (some (false, σ6))
    else
    (some (true, σ6)))))))
    else
    (some (false, σ4)))))))))
    else
    (some (false, σ)))))
def f_X6_isHouseItem  (σ : Sg) : Option (Bool × Sg) :=
    (bnd (f_X6_letterAt (gS σ 9) σ) (fun r1 => (bnd (f_X6_sortBy r1) (fun r2 => (if r2 < 0 then
    (some (false, σ))
    else
    (if (gS σ 14) = (6 : Int32) then
    (some (false, σ))
    else
    (nm (pS σ 9 ((gS σ 9) + (1 : Int32))) (fun σ3 => (bnd2 (f_X6_twoFigures σ3) (fun r4 σ4 => (if 0 ≤ r4 then
    (bnd2 (f_X6_twoFigures σ4) (fun r5 σ5 => (if 0 ≤ r5 then
    (ck (inB ((3 : Int32) * (gS σ5 14)) (mLen 6)) (nm (pA σ5 6 (upd (gA σ5 6) ((3 : Int32) * (gS σ5 14)).toNatClampNeg r2)) (fun σ6 => (ck (inB (((3 : Int32) * (gS σ6 14)) + (1 : Int32)) (mLen 6)) (nm (pA σ6 6 (upd (gA σ6 6) (((3 : Int32) * (gS σ6 14)) + (1 : Int32)).toNatClampNeg r4)) (fun σ7 => (ck (inB (((3 : Int32) * (gS σ7 14)) + (2 : Int32)) (mLen 6)) (nm (pA σ7 6 (upd (gA σ7 6) (((3 : Int32) * (gS σ7 14)) + (2 : Int32)).toNatClampNeg r5)) (fun σ8 => (nm (pS σ8 14 ((gS σ8 14) + (1 : Int32))) (fun σ9 => (some (true, σ9)))))))))))))
    else
    (some (false, σ5)))))
    else
    (some (false, σ4)))))))))))))
def l_X6_read_48 (k78 : Sg → Option (Int32 × Sg)) : Nat → Sg → Option (Int32 × Sg)
  | 0, _ => none
  | N1 + 1, σx =>
    (if (gS σx 11) ≤ (gS σx 9) then
    (k78 σx)
    else
    (bnd2 (f_X6_isHouseItem σx) (fun r8 σ8 => (bf r8
    (bnd (f_X6_skip σ8) (fun σ9 => (l_X6_read_48 k78 N1 σ9)))
    (some ((gS σ8 9), σ8))))))
def f_X6_read (i1 : Int32) (σ : Sg) : Option (Int32 × Sg) :=
    (nm (pS σ 10 ((60 : Int32) * i1)) (fun σ1 => (ck (inB i1 (mLen 3)) (nm (pS σ1 11 (gA σ1 3 i1.toNatClampNeg)) (fun σ2 => (nm (pS σ2 9 (0 : Int32)) (fun σ3 => (nm (pS σ3 14 (0 : Int32)) (fun σ4 => (bnd (f_X6_skip σ4) (fun σ5 => (bnd2 (f_X6_isStreet σ5) (fun r6 σ6 => (bf r6
    (bnd (f_X6_skip σ6) (fun σ7 => (l_X6_read_48 
    (fun (σv78 : Sg) => (if (gS σv78 14) = 0 then
    (some ((gS σv78 11), σv78))
    else
    (some ((-9 : Int32), σv78)))) FU σ7)))
    (some ((gS σ6 9), σ6))))))))))))))))
def f_X6_fault (i1 : Int32) (σ : Sg) : Option (Int32 × Sg) :=
    (bnd (f_X6_in i1 (0 : Int32) (3 : Int32)) (fun r1 => (bf r1
    (ck (inB i1 (mLen 3)) (if 0 ≤ (gA σ 3 i1.toNatClampNeg) then
    (bnd2 (f_X6_read i1 σ) (fun r2 σ2 => (some (r2, σ2))))
    else
    (bnd2 (f_X6_finds (1 : Int32) σ) (fun r3 σ3 => (some (r3, σ3))))))
    (some ((-1 : Int32), σ)))))
def l_X6_town_57 (k87 : Sg → Option (Int32 × Sg)) : Nat → Int32 → Sg → Option (Int32 × Sg)
  | 0, _, _ => none
  | N1 + 1, x2, σx =>
    (if (23 : Int32) ≤ x2 then
    (k87 σx)
    else
    (nm (fun (t0_80 : Int32) => (ck (inB x2 (mLen 9)) (nm (pA σx 9 (upd (gA σx 9) x2.toNatClampNeg t0_80)) (fun σ5 => (nm (x2 + (1 : Int32)) (fun y6 => (l_X6_town_57 k87 N1 y6 σ5)))))))
    (fun k80 => (if (17 : Int32) ≤ x2 then
    (k80 (-9 : Int32))
    else
    (k80 (0 : Int32))))))
def l_X6_town_99 (k161 : Sg → Option (Int32 × Sg)) : Nat → Int32 → Sg → Option (Int32 × Sg)
  | 0, _, _ => none
  | N1 + 1, x2, σx =>
    (if (gS σx 17) ≤ x2 then
    (k161 σx)
    else
    (ck (inB ((3 : Int32) * x2) (mLen 6)) (ck (inB x2 (mLen 7)) (nm (pA σx 7 (upd (gA σx 7) x2.toNatClampNeg (gA σx 6 ((3 : Int32) * x2).toNatClampNeg))) (fun σ8 => (ck (inB (((3 : Int32) * x2) + (1 : Int32)) (mLen 6)) (ck (inB ((5 : Int32) + x2) (mLen 9)) (nm (pA σ8 9 (upd (gA σ8 9) ((5 : Int32) + x2).toNatClampNeg (gA σ8 6 (((3 : Int32) * x2) + (1 : Int32)).toNatClampNeg))) (fun σ9 => (ck (inB (((3 : Int32) * x2) + (2 : Int32)) (mLen 6)) (ck (inB x2 (mLen 8)) (nm (pA σ9 8 (upd (gA σ9 8) x2.toNatClampNeg (gA σ9 6 (((3 : Int32) * x2) + (2 : Int32)).toNatClampNeg))) (fun σ10 => (nm (x2 + (1 : Int32)) (fun y11 => (l_X6_town_99 k161 N1 y11 σ10))))))))))))))))
def l_X6_town_168 (k186 : Sg → Option (Int32 × Sg)) : Nat → Int32 → Sg → Option (Int32 × Sg)
  | 0, _, _ => none
  | N1 + 1, x2, σx =>
    (if (3 : Int32) ≤ x2 then
    (k186 σx)
    else
    (ck (inB x2 (mLen 13)) (nm (pA σx 13 (upd (gA σx 13) x2.toNatClampNeg (-1 : Int32))) (fun σ13 => (nm (x2 + (1 : Int32)) (fun y14 => (l_X6_town_168 k186 N1 y14 σ13)))))))
def f_X6_town (i1 : Int32) (σ : Sg) : Option (Int32 × Sg) :=
    (bnd (f_X6_in i1 (0 : Int32) (3 : Int32)) (fun r1 => (bf r1
    (ck (inB i1 (mLen 3)) (if 0 ≤ (gA σ 3 i1.toNatClampNeg) then
    (bnd2 (f_X6_read i1 σ) (fun r2 σ2 => (if r2 = (-9 : Int32) then
    (nm (pS σ2 16 (gS σ2 13)) (fun σ3 => (nm (pS σ3 17 (gS σ3 14)) (fun σ4 => (l_X6_town_57 
    (fun (σv87 : Sg) => (ck (inB (3 : Int32) (mLen 9)) (nm (pA σv87 9 (upd (gA σv87 9) (3 : Int32).toNatClampNeg (gS σv87 12))) (fun σ7 => (l_X6_town_99 
    (fun (σv161 : Sg) => (nm (pS σv161 22 (0 : Int32)) (fun σ12 => (l_X6_town_168 
    (fun (σv186 : Sg) => (some ((gS σv186 17), σv186))) FU (0 : Int32) σ12)))) FU (0 : Int32) σ7))))) FU (0 : Int32) σ4)))))
    else
    (some ((-4 : Int32), σ2)))))
    else
    (bnd2 (f_X6_finds (1 : Int32) σ) (fun r15 σ15 => (some (r15, σ15))))))
    (some ((-1 : Int32), σ)))))
def f_X6_is (i0 : Int32) (i1 : Int32) : Option Bool :=
    (if i0 = i1 then
    (some true)
    else
    (if i1 = 0 then
    (some true)
    else
    (nm (if i0 = (5 : Int32) then
    (if i1 = (2 : Int32) then
    (some true)
    else
    (some false))
    else
    (some false))
    (fun k19 => (if i0 = (4 : Int32) then
    (if i1 = (1 : Int32) then
    (some true)
    else
    k19)
    else
    k19)))))
def f_X6_takesBy (i1 : Int32) (i2 : Int32) (σ : Sg) : Option Int32 :=
    (ck (inB (3 : Int32) (mLen 9)) (nm (fun (t0_31 : Bool) => (nm (fun (t0_43 : Int32) => (if i1 = (3 : Int32) then
    (some (-9 : Int32))
    else
    (bf t0_31
    (some (-9 : Int32))
    (if i1 = (1 : Int32) then
    (some ((2 : Int32) * t0_43))
    else
    (if i1 = (4 : Int32) then
    (some (((2 : Int32) * t0_43) + (1 : Int32)))
    else
    (some t0_43))))))
    (fun k43 => (if (50 : Int32) ≤ i2 then
    (k43 (1 : Int32))
    else
    (k43 (2 : Int32))))))
    (fun k31 => (nm (k31 false)
    (fun k30 => (if (gA σ 9 (3 : Int32).toNatClampNeg) = (1 : Int32) then
    (bnd (f_X6_in i2 (40 : Int32) (49 : Int32)) (fun r1 => (bf r1
    (if i1 = (5 : Int32) then
    k30
    else
    (k31 true))
    k30)))
    else
    k30))))))
def f_X6_takesOf (i1 : Int32) (σ : Sg) : Option Int32 :=
    (ck (inB i1 (mLen 7)) (ck (inB ((5 : Int32) + i1) (mLen 9)) (bnd (f_X6_takesBy (gA σ 7 i1.toNatClampNeg) (gA σ 9 ((5 : Int32) + i1).toNatClampNeg) σ) (fun r1 => (some r1)))))
def f_X6_paysBy (i0 : Int32) : Option Int32 :=
    (if i0 = (3 : Int32) then
    (some (0 : Int32))
    else
    (if i0 = (2 : Int32) then
    (some (2 : Int32))
    else
    (if i0 = (5 : Int32) then
    (some (5 : Int32))
    else
    (some (1 : Int32)))))
def f_X6_isAwake (i1 : Int32) (σ : Sg) : Option Bool :=
    (ck (inB ((17 : Int32) + i1) (mLen 9)) (if (gA σ 9 ((17 : Int32) + i1).toNatClampNeg) = (-9 : Int32) then
    (some false)
    else
    (some true)))
def f_X6_moreOf (i1 : Int32) (σ : Sg) : Option Int32 :=
    (bnd (f_X6_isAwake i1 σ) (fun r1 => (bf r1
    (some (0 : Int32))
    (bnd (f_X6_takesOf i1 σ) (fun r2 => (if r2 = (-9 : Int32) then
    (some (-9 : Int32))
    else
    (ck (inB ((11 : Int32) + i1) (mLen 9)) (if r2 ≤ (gA σ 9 ((11 : Int32) + i1).toNatClampNeg) then
    (some (1 : Int32))
    else
    (ck (inB ((11 : Int32) + i1) (mLen 9)) (some (r2 - (gA σ 9 ((11 : Int32) + i1).toNatClampNeg))))))))))))
def f_X6_houseTells (i1 : Int32) (i2 : Int32) (σ : Sg) : Option Int32 :=
    (if i2 = (0 : Int32) then
    (ck (inB i1 (mLen 7)) (some (gA σ 7 i1.toNatClampNeg)))
    else
    (if i2 = (1 : Int32) then
    (ck (inB ((5 : Int32) + i1) (mLen 9)) (some (gA σ 9 ((5 : Int32) + i1).toNatClampNeg)))
    else
    (if i2 = (2 : Int32) then
    (ck (inB i1 (mLen 8)) (some (gA σ 8 i1.toNatClampNeg)))
    else
    (if i2 = (3 : Int32) then
    (ck (inB ((11 : Int32) + i1) (mLen 9)) (some (gA σ 9 ((11 : Int32) + i1).toNatClampNeg)))
    else
    (if i2 = (4 : Int32) then
    (ck (inB ((17 : Int32) + i1) (mLen 9)) (some (gA σ 9 ((17 : Int32) + i1).toNatClampNeg)))
    else
    (bnd (f_X6_moreOf i1 σ) (fun r1 => (some r1))))))))
def f_X6_house (i1 : Int32) (i2 : Int32) (σ : Sg) : Option (Int32 × Sg) :=
    (bnd (f_X6_isOne i1 σ) (fun r1 => (bf r1
    (bnd (f_X6_in i2 (0 : Int32) (5 : Int32)) (fun r2 => (bf r2
    (bnd (f_X6_houseTells i1 i2 σ) (fun r3 => (bnd2 (f_X6_tells r3 σ) (fun r4 σ4 => (some (r4, σ4))))))
    (some ((-1 : Int32), σ)))))
    (some ((-1 : Int32), σ)))))
def l_X6_awakeOnes_4 (σ : Sg) (k36 : Int32 → Option Int32) : Nat → Int32 → Int32 → Option Int32
  | 0, _, _ => none
  | N1 + 1, x1, x2 =>
    (if (gS σ 17) ≤ x2 then
    (k36 x1)
    else
    (bnd (f_X6_isAwake x2 σ) (fun r1 => (nm (fun (t0_28 : Int32) => (nm (x1 ||| t0_28) (fun y2 => (nm (x2 + (1 : Int32)) (fun y3 => (l_X6_awakeOnes_4 σ k36 N1 y2 y3))))))
    (fun k28 => (bf r1
    (k28 ((1 : Int32) <<< (x2 &&& 31)))
    (k28 (0 : Int32))))))))
def f_X6_awakeOnes  (σ : Sg) : Option Int32 :=
    (l_X6_awakeOnes_4 σ 
    (fun (v1_36 : Int32) => (some v1_36)) FU (0 : Int32) (0 : Int32))
def l_X6_earlier_4 (a1 : Int32) (σ : Sg) (k45 : Int32 → Option Int32) : Nat → Int32 → Int32 → Option Int32
  | 0, _, _ => none
  | N1 + 1, x2, x3 =>
    (if (gS σ 17) ≤ x3 then
    (k45 x2)
    else
    (ck (inB ((5 : Int32) + x3) (mLen 9)) (ck (inB ((5 : Int32) + a1) (mLen 9)) (nm (fun (t0_37 : Bool) => (nm (x2 + (b2i t0_37)) (fun y1 => (nm (x3 + (1 : Int32)) (fun y2 => (l_X6_earlier_4 a1 σ k45 N1 y1 y2))))))
    (fun k37 => (if (gA σ 9 ((5 : Int32) + a1).toNatClampNeg) ≤ (gA σ 9 ((5 : Int32) + x3).toNatClampNeg) then
    (k37 false)
    else
    (k37 true)))))))
def f_X6_earlier (i1 : Int32) (σ : Sg) : Option Int32 :=
    (l_X6_earlier_4 i1 σ 
    (fun (v2_45 : Int32) => (some v2_45)) FU (0 : Int32) (0 : Int32))
def f_X6_mark (i1 : Int32) (i2 : Int32) (σ : Sg) : Option (Int32 × Sg) :=
    (bnd (f_X6_isOne i1 σ) (fun r1 => (bf r1
    (bnd (f_X6_in i2 (1 : Int32) (5 : Int32)) (fun r2 => (bf r2
    (ck (inB i1 (mLen 7)) (bnd (f_X6_is (gA σ 7 i1.toNatClampNeg) i2) (fun r3 => (bf r3
    (bnd (f_X6_takesOf i1 σ) (fun r4 => (if i2 = (1 : Int32) then
    (if r4 = (-9 : Int32) then
    (some ((-9 : Int32), σ))
    else
    (ck (inB ((5 : Int32) + i1) (mLen 9)) (bnd (f_X6_takesBy (0 : Int32) (gA σ 9 ((5 : Int32) + i1).toNatClampNeg) σ) (fun r5 => (some ((r4 - r5), σ))))))
    else
    (if i2 = (2 : Int32) then
    (ck (inB i1 (mLen 7)) (bnd (f_X6_paysBy (gA σ 7 i1.toNatClampNeg)) (fun r6 => (bnd (f_X6_paysBy (0 : Int32)) (fun r7 => (some ((r6 - r7), σ)))))))
    else
    (if i2 = (3 : Int32) then
    (bnd (f_X6_awakeOnes σ) (fun r8 => (bnd (f_X6_bits (r8 &&& (((1 : Int32) <<< (i1 &&& 31)) ^^^ (-1 : Int32)))) (fun r9 => (some (r9, σ))))))
    else
    (if i2 = (4 : Int32) then
    (some (r4, σ))
    else
    (bnd (f_X6_earlier i1 σ) (fun r10 => (some (r10, σ))))))))))
    (bnd2 (f_X6_finds (3 : Int32) σ) (fun r11 σ11 => (some (r11, σ11))))))))
    (some ((-1 : Int32), σ)))))
    (some ((-1 : Int32), σ)))))
def f_X6_note  (σ : Sg) : Option Sg :=
    (bnd (f_X6_bring 9 (0 : Int32) 10 ((23 : Int32) * (gS σ 22)) (23 : Int32) σ) (fun σ1 => (nm (pS σ1 22 ((gS σ1 22) + (1 : Int32))) (fun σ2 => (some σ2)))))
def f_X6_far (i0 : Int32) (i1 : Int32) : Option Int32 :=
    (if i0 ≤ i1 then
    (some (i1 - i0))
    else
    (some (i0 - i1)))
def f_X6_goes (i1 : Int32) (σ : Sg) : Option Sg :=
    (ck (inB (0 : Int32) (mLen 9)) (ck (inB (2 : Int32) (mLen 9)) (bnd (f_X6_far i1 (gA σ 9 (2 : Int32).toNatClampNeg)) (fun r1 => (ck (inB (0 : Int32) (mLen 9)) (nm (pA σ 9 (upd (gA σ 9) (0 : Int32).toNatClampNeg ((gA σ 9 (0 : Int32).toNatClampNeg) + r1))) (fun σ2 => (ck (inB (2 : Int32) (mLen 9)) (nm (pA σ2 9 (upd (gA σ2 9) (2 : Int32).toNatClampNeg i1)) (fun σ3 => (some σ3)))))))))))
def f_X6_taps  (σ : Sg) : Option Sg :=
    (ck (inB (2 : Int32) (mLen 9)) (nm (gA σ 9 (2 : Int32).toNatClampNeg) (fun y1 => (bnd (f_X6_takesOf y1 σ) (fun r2 => (ck (inB (0 : Int32) (mLen 9)) (ck (inB (0 : Int32) (mLen 9)) (nm (pA σ 9 (upd (gA σ 9) (0 : Int32).toNatClampNeg ((gA σ 9 (0 : Int32).toNatClampNeg) + (1 : Int32)))) (fun σ3 => (ck (inB ((11 : Int32) + y1) (mLen 9)) (ck (inB ((11 : Int32) + y1) (mLen 9)) (nm (pA σ3 9 (upd (gA σ3 9) ((11 : Int32) + y1).toNatClampNeg ((gA σ3 9 ((11 : Int32) + y1).toNatClampNeg) + (1 : Int32)))) (fun σ4 => (bnd (f_X6_isAwake y1 σ4) (fun r5 => (bf r5
    (some σ4)
    (if r2 = (-9 : Int32) then
    (some σ4)
    else
    (ck (inB ((11 : Int32) + y1) (mLen 9)) (if (gA σ4 9 ((11 : Int32) + y1).toNatClampNeg) < r2 then
    (some σ4)
    else
    (ck (inB (4 : Int32) (mLen 9)) (ck (inB y1 (mLen 7)) (bnd (f_X6_paysBy (gA σ4 7 y1.toNatClampNeg)) (fun r6 => (nm ((gA σ4 9 (4 : Int32).toNatClampNeg) + r6) (fun y7 => (ck (inB ((5 : Int32) + y1) (mLen 9)) (ck (inB ((17 : Int32) + y1) (mLen 9)) (nm (pA σ4 9 (upd (gA σ4 9) ((17 : Int32) + y1).toNatClampNeg (gA σ4 9 ((5 : Int32) + y1).toNatClampNeg))) (fun σ8 => (if y7 ≤ (9999 : Int32) then
    (ck (inB (4 : Int32) (mLen 9)) (nm (pA σ8 9 (upd (gA σ8 9) (4 : Int32).toNatClampNeg y7)) (fun σ9 => (some σ9))))
    else
    (ck (inB (4 : Int32) (mLen 9)) (nm (pA σ8 9 (upd (gA σ8 9) (4 : Int32).toNatClampNeg (9999 : Int32))) (fun σ10 => (some σ10))))))))))))))))))))))))))))))))))
def f_X6_changes (i1 : Int32) (i2 : Int32) (σ : Sg) : Option Sg :=
    (ck (inB ((5 : Int32) + i1) (mLen 9)) (nm (pA σ 9 (upd (gA σ 9) ((5 : Int32) + i1).toNatClampNeg i2)) (fun σ1 => (ck (inB ((11 : Int32) + i1) (mLen 9)) (nm (pA σ1 9 (upd (gA σ1 9) ((11 : Int32) + i1).toNatClampNeg (0 : Int32))) (fun σ2 => (some σ2)))))))
def f_X6_walk (i1 : Int32) (σ : Sg) : Option (Int32 × Sg) :=
    (bnd (f_X6_isOne i1 σ) (fun r1 => (bf r1
    (ck (inB (2 : Int32) (mLen 9)) (if i1 = (gA σ 9 (2 : Int32).toNatClampNeg) then
    (some ((-4 : Int32), σ))
    else
    (if (gS σ 22) = (40 : Int32) then
    (some ((-2 : Int32), σ))
    else
    (bnd (f_X6_note σ) (fun σ2 => (bnd (f_X6_goes i1 σ2) (fun σ3 => (ck (inB (0 : Int32) (mLen 9)) (some ((gA σ3 9 (0 : Int32).toNatClampNeg), σ3))))))))))
    (some ((-1 : Int32), σ)))))
def f_X6_tap  (σ : Sg) : Option (Int32 × Sg) :=
    (if (gS σ 17) = 0 then
    (some ((-4 : Int32), σ))
    else
    (if (gS σ 22) = (40 : Int32) then
    (some ((-2 : Int32), σ))
    else
    (bnd (f_X6_note σ) (fun σ1 => (bnd (f_X6_taps σ1) (fun σ2 => (ck (inB (2 : Int32) (mLen 9)) (bnd (f_X6_isAwake (gA σ2 9 (2 : Int32).toNatClampNeg) σ2) (fun r3 => (bf r3
    (some ((1 : Int32), σ2))
    (some ((0 : Int32), σ2))))))))))))
def f_X6_slate (i1 : Int32) (i2 : Int32) (σ : Sg) : Option (Int32 × Sg) :=
    (bnd (f_X6_isOne i1 σ) (fun r1 => (bf r1
    (bnd (f_X6_in i2 (0 : Int32) (99 : Int32)) (fun r2 => (bf r2
    (ck (inB ((5 : Int32) + i1) (mLen 9)) (nm (gA σ 9 ((5 : Int32) + i1).toNatClampNeg) (fun y3 => (if y3 = i2 then
    (some ((-4 : Int32), σ))
    else
    (if (gS σ 22) = (40 : Int32) then
    (some ((-2 : Int32), σ))
    else
    (bnd (f_X6_note σ) (fun σ4 => (bnd (f_X6_changes i1 i2 σ4) (fun σ5 => (some (y3, σ5)))))))))))
    (some ((-1 : Int32), σ)))))
    (some ((-1 : Int32), σ)))))
def f_X6_frost (i1 : Int32) (σ : Sg) : Option (Int32 × Sg) :=
    (bnd (f_X6_in i1 (0 : Int32) (1 : Int32)) (fun r1 => (bf r1
    (if (gS σ 17) = 0 then
    (some ((-4 : Int32), σ))
    else
    (ck (inB (3 : Int32) (mLen 9)) (if (gA σ 9 (3 : Int32).toNatClampNeg) = i1 then
    (some ((-4 : Int32), σ))
    else
    (if (gS σ 22) = (40 : Int32) then
    (some ((-2 : Int32), σ))
    else
    (bnd (f_X6_note σ) (fun σ2 => (ck (inB (3 : Int32) (mLen 9)) (nm (pA σ2 9 (upd (gA σ2 9) (3 : Int32).toNatClampNeg i1)) (fun σ3 => (some (i1, σ3)))))))))))
    (some ((-1 : Int32), σ)))))
def l_X6_night_60 (a1 : Int32) (k93 : Sg → Option (Int32 × Sg)) : Nat → Int32 → Sg → Option (Int32 × Sg)
  | 0, _, _ => none
  | N1 + 1, x2, σx =>
    (if (6 : Int32) ≤ x2 then
    (k93 σx)
    else
    (ck (inB ((11 : Int32) + x2) (mLen 9)) (nm (pA σx 9 (upd (gA σx 9) ((11 : Int32) + x2).toNatClampNeg (0 : Int32))) (fun σ7 => (ck (inB ((17 : Int32) + x2) (mLen 9)) (nm (pA σ7 9 (upd (gA σ7 9) ((17 : Int32) + x2).toNatClampNeg (-9 : Int32))) (fun σ8 => (nm (x2 + (1 : Int32)) (fun y9 => (l_X6_night_60 a1 k93 N1 y9 σ8))))))))))
def f_X6_night  (σ : Sg) : Option (Int32 × Sg) :=
    (if (gS σ 17) = 0 then
    (some ((-4 : Int32), σ))
    else
    (if (gS σ 22) = (40 : Int32) then
    (some ((-2 : Int32), σ))
    else
    (bnd (f_X6_note σ) (fun σ1 => (bnd (f_X6_awakeOnes σ1) (fun r2 => (bnd (f_X6_bits r2) (fun r3 => (ck (inB (0 : Int32) (mLen 9)) (nm (pA σ1 9 (upd (gA σ1 9) (0 : Int32).toNatClampNeg (0 : Int32))) (fun σ4 => (ck (inB (1 : Int32) (mLen 9)) (ck (inB (1 : Int32) (mLen 9)) (nm (pA σ4 9 (upd (gA σ4 9) (1 : Int32).toNatClampNeg ((gA σ4 9 (1 : Int32).toNatClampNeg) + (1 : Int32)))) (fun σ5 => (ck (inB (2 : Int32) (mLen 9)) (nm (pA σ5 9 (upd (gA σ5 9) (2 : Int32).toNatClampNeg (0 : Int32))) (fun σ6 => (l_X6_night_60 r3 
    (fun (σv93 : Sg) => (some (r3, σv93))) FU (0 : Int32) σ6)))))))))))))))))))
def f_X6_undo (i1 : Int32) (σ : Sg) : Option (Int32 × Sg) :=
    (bnd (f_X6_in i1 (0 : Int32) (gS σ 22)) (fun r1 => (bf r1
    (nm ((gS σ 22) - i1) (fun y2 => (nm (fun (σj43 : Sg) => (nm (pS σj43 22 i1) (fun σ3 => (some (y2, σ3)))))
    (fun k43 => (if y2 ≤ 0 then
    (k43 σ)
    else
    (bnd (f_X6_bring 10 ((23 : Int32) * i1) 9 (0 : Int32) (23 : Int32) σ) (fun σ4 => (k43 σ4))))))))
    (some ((-1 : Int32), σ)))))
def f_X6_keep (i1 : Int32) (σ : Sg) : Option (Int32 × Sg) :=
    (bnd (f_X6_in i1 (0 : Int32) (2 : Int32)) (fun r1 => (bf r1
    (if (gS σ 17) = 0 then
    (some ((-4 : Int32), σ))
    else
    (bnd (f_X6_bring 9 (0 : Int32) 11 ((23 : Int32) * i1) (23 : Int32) σ) (fun σ2 => (bnd (f_X6_bring 10 (0 : Int32) 12 ((920 : Int32) * i1) (920 : Int32) σ2) (fun σ3 => (ck (inB i1 (mLen 13)) (nm (pA σ3 13 (upd (gA σ3 13) i1.toNatClampNeg (gS σ3 22))) (fun σ4 => (some ((gS σ4 22), σ4))))))))))
    (some ((-1 : Int32), σ)))))
def f_X6_on (i1 : Int32) (σ : Sg) : Option (Int32 × Sg) :=
    (bnd (f_X6_in i1 (0 : Int32) (2 : Int32)) (fun r1 => (bf r1
    (ck (inB i1 (mLen 13)) (if 0 ≤ (gA σ 13 i1.toNatClampNeg) then
    (bnd (f_X6_bring 11 ((23 : Int32) * i1) 9 (0 : Int32) (23 : Int32) σ) (fun σ2 => (bnd (f_X6_bring 12 ((920 : Int32) * i1) 10 (0 : Int32) (920 : Int32) σ2) (fun σ3 => (ck (inB i1 (mLen 13)) (nm (pS σ3 22 (gA σ3 13 i1.toNatClampNeg)) (fun σ4 => (some ((gS σ4 22), σ4)))))))))
    else
    (bnd2 (f_X6_finds (1 : Int32) σ) (fun r5 σ5 => (some (r5, σ5))))))
    (some ((-1 : Int32), σ)))))
def f_X6_takes (i1 : Int32) (i2 : Int32) (σ : Sg) : Option Int32 :=
    (bnd (f_X6_isOne i1 σ) (fun r1 => (bf r1
    (bnd (f_X6_in i2 (0 : Int32) (99 : Int32)) (fun r2 => (bf r2
    (ck (inB i1 (mLen 7)) (bnd (f_X6_takesBy (gA σ 7 i1.toNatClampNeg) i2 σ) (fun r3 => (some r3))))
    (some (-1 : Int32)))))
    (some (-1 : Int32)))))
def f_X6_pays (i1 : Int32) (σ : Sg) : Option Int32 :=
    (bnd (f_X6_isOne i1 σ) (fun r1 => (bf r1
    (ck (inB i1 (mLen 7)) (bnd (f_X6_paysBy (gA σ 7 i1.toNatClampNeg)) (fun r2 => (some r2))))
    (some (-1 : Int32)))))
def l_X6_who_27 (a1 : Int32) (a2 : Int32) (σ : Sg) (k69 : Int32 → Option Int32) : Nat → Int32 → Int32 → Option Int32
  | 0, _, _ => none
  | N1 + 1, x3, x4 =>
    (if (gS σ 17) ≤ x4 then
    (k69 x3)
    else
    (ck (inB x4 (mLen 7)) (bnd (f_X6_takesBy (gA σ 7 x4.toNatClampNeg) a1 σ) (fun r3 => (nm (fun (t0_61 : Int32) => (nm (x3 ||| t0_61) (fun y4 => (nm (x4 + (1 : Int32)) (fun y5 => (l_X6_who_27 a1 a2 σ k69 N1 y4 y5))))))
    (fun k61 => (if r3 = a2 then
    (k61 ((1 : Int32) <<< (x4 &&& 31)))
    else
    (k61 (0 : Int32)))))))))
def f_X6_who (i1 : Int32) (i2 : Int32) (σ : Sg) : Option Int32 :=
    (bnd (f_X6_in i1 (0 : Int32) (99 : Int32)) (fun r1 => (bf r1
    (bnd (f_X6_in i2 (1 : Int32) (9 : Int32)) (fun r2 => (bf r2
    (l_X6_who_27 i1 i2 σ 
    (fun (v3_69 : Int32) => (some v3_69)) FU (0 : Int32) (0 : Int32))
    (some (-1 : Int32)))))
    (some (-1 : Int32)))))
def l_X6_quarrels_14 (σ : Sg) (k84 : Int32 → Option Int32) : Nat → Int32 → Int32 → Option Int32
  | 0, _, _ => none
  | N1 + 1, x1, x2 =>
    (if (gS σ 17) ≤ x2 then
    (k84 x1)
    else
    (bnd (f_X6_isAwake x2 σ) (fun r1 => (nm (fun (t0_76 : Bool) => (nm (x1 + (b2i t0_76)) (fun y2 => (nm (x2 + (1 : Int32)) (fun y3 => (l_X6_quarrels_14 σ k84 N1 y2 y3))))))
    (fun k76 => (nm (k76 false)
    (fun k75 => (bf r1
    (bnd (f_X6_isAwake (x2 - (1 : Int32)) σ) (fun r4 => (bf r4
    (ck (inB ((17 : Int32) + x2) (mLen 9)) (ck (inB (((17 : Int32) + x2) - (1 : Int32)) (mLen 9)) (bnd (f_X6_far (gA σ 9 ((17 : Int32) + x2).toNatClampNeg) (gA σ 9 (((17 : Int32) + x2) - (1 : Int32)).toNatClampNeg)) (fun r5 => (if r5 ≤ (gS σ 16) then
    k75
    else
    (k76 true))))))
    k75)))
    k75))))))))
def f_X6_quarrels  (σ : Sg) : Option Int32 :=
    (if (gS σ 17) = 0 then
    (some (-4 : Int32))
    else
    (l_X6_quarrels_14 σ 
    (fun (v1_84 : Int32) => (some v1_84)) FU (0 : Int32) (1 : Int32)))
def l_X6_wakable_4 (σ : Sg) (k36 : Int32 → Option Int32) : Nat → Int32 → Int32 → Option Int32
  | 0, _, _ => none
  | N1 + 1, x1, x2 =>
    (if (gS σ 17) ≤ x2 then
    (k36 x1)
    else
    (bnd (f_X6_moreOf x2 σ) (fun r1 => (nm (fun (t0_28 : Int32) => (nm (x1 ||| t0_28) (fun y2 => (nm (x2 + (1 : Int32)) (fun y3 => (l_X6_wakable_4 σ k36 N1 y2 y3))))))
    (fun k28 => (if r1 ≤ 0 then
    (k28 (0 : Int32))
    else
    (k28 ((1 : Int32) <<< (x2 &&& 31)))))))))
def f_X6_wakable  (σ : Sg) : Option Int32 :=
    (l_X6_wakable_4 σ 
    (fun (v1_36 : Int32) => (some v1_36)) FU (0 : Int32) (0 : Int32))
def f_X6_isSet (i1 : Int32) (σ : Sg) : Option Bool :=
    (bnd (f_X6_in i1 (0 : Int32) (((1 : Int32) <<< ((gS σ 17) &&& 31)) - (1 : Int32))) (fun r1 => (some r1)))
def l_X6_soonest_41 (a1 : Int32) (σ : Sg) (k91 : Int32 → Int32 → Int32 → Option Int32) : Nat → Int32 → Int32 → Int32 → Int32 → Option Int32
  | 0, _, _, _, _ => none
  | N1 + 1, x2, x3, x4, x5 =>
    (if (gS σ 17) ≤ x5 then
    (k91 x2 x3 x4)
    else
    (bnd (f_X6_has a1 x5) (fun r3 => (nm (fun (u2_85 : Int32) (u3_85 : Int32) (u4_85 : Int32) => (nm (x5 + (1 : Int32)) (fun y4 => (l_X6_soonest_41 a1 σ k91 N1 u2_85 u3_85 u4_85 y4))))
    (fun k85 => (bf r3
    (bnd (f_X6_moreOf x5 σ) (fun r5 => (nm (x2 + r5) (fun y6 => (nm (fun (t0_80 : Int32) => (k85 y6 t0_80 x5))
    (fun k80 => (if x3 ≤ x5 then
    (k80 x3)
    else
    (k80 x5))))))))
    (k85 x2 x3 x4)))))))
def f_X6_soonest (i1 : Int32) (σ : Sg) : Option Int32 :=
    (bnd (f_X6_isSet i1 σ) (fun r1 => (bf r1
    (bnd (f_X6_wakable σ) (fun r2 => (if (i1 &&& (r2 ^^^ (-1 : Int32))) = 0 then
    (if i1 = 0 then
    (some (0 : Int32))
    else
    (l_X6_soonest_41 i1 σ 
    (fun (v2_91 : Int32) (v3_91 : Int32) (v4_91 : Int32) => (ck (inB (2 : Int32) (mLen 9)) (bnd (f_X6_far (gA σ 9 (2 : Int32).toNatClampNeg) v3_91) (fun r7 => (ck (inB (2 : Int32) (mLen 9)) (bnd (f_X6_far (gA σ 9 (2 : Int32).toNatClampNeg) v4_91) (fun r8 => (if r8 ≤ r7 then
    (some (((v2_91 + v4_91) - v3_91) + r8))
    else
    (some (((v2_91 + v4_91) - v3_91) + r7)))))))))) FU (0 : Int32) (6 : Int32) (-1 : Int32) (0 : Int32)))
    else
    (some (-4 : Int32)))))
    (some (-1 : Int32)))))
def l_X6_layRow_11 (a3 : Int32) (k55 : Int32 → Sg → Option (Bool × Sg)) : Nat → Int32 → Int32 → Int32 → Sg → Option (Bool × Sg)
  | 0, _, _, _, _ => none
  | N1 + 1, x4, x5, x6, σx =>
    (if x6 < 0 then
    (k55 x5 σx)
    else
    (ck (inB x6 (mLen 14)) (nm (pA σx 14 (upd (gA σx 14) x6.toNatClampNeg (x4 - x4 / (6 : Int32) * (6 : Int32)))) (fun σ2 => (nm (x4 / (6 : Int32)) (fun y3 => (ck (inB x6 (mLen 14)) (nm (x5 ||| ((1 : Int32) <<< ((gA σ2 14 x6.toNatClampNeg) &&& 31))) (fun y4 => (nm (x6 + (-1 : Int32)) (fun y5 => (l_X6_layRow_11 a3 k55 N1 y3 y4 y5 σ2))))))))))))
def f_X6_layRow (i1 : Int32) (i2 : Int32) (i3 : Int32) (σ : Sg) : Option (Bool × Sg) :=
    (nm (i2 - (1 : Int32)) (fun y1 => (l_X6_layRow_11 i3 
    (fun (v5_55 : Int32) (σv55 : Sg) => (if v5_55 = i3 then
    (some (true, σv55))
    else
    (some (false, σv55)))) FU i1 (0 : Int32) y1 σ)))
def l_X6_rowsOf_4 (a0 : Int32) (k20 : Int32 → Option Int32) : Nat → Int32 → Int32 → Option Int32
  | 0, _, _ => none
  | N1 + 1, x1, x2 =>
    (if a0 ≤ x2 then
    (k20 x1)
    else
    (nm (x1 * (6 : Int32)) (fun y1 => (nm (x2 + (1 : Int32)) (fun y2 => (l_X6_rowsOf_4 a0 k20 N1 y1 y2))))))
def f_X6_rowsOf (i0 : Int32) : Option Int32 :=
    (l_X6_rowsOf_4 i0 
    (fun (v1_20 : Int32) => (some v1_20)) FU (1 : Int32) (0 : Int32))
def l_X6_minutesOf_12 (a1 : Int32) (σ : Sg) : Nat → Int32 → Int32 → Int32 → Option Int32
  | 0, _, _, _ => none
  | N1 + 1, x2, x3, x4 =>
    (if a1 ≤ x4 then
    (some x2)
    else
    (ck (inB x4 (mLen 14)) (bnd (f_X6_far x3 (gA σ 14 x4.toNatClampNeg)) (fun r2 => (ck (inB x4 (mLen 14)) (bnd (f_X6_moreOf (gA σ 14 x4.toNatClampNeg) σ) (fun r3 => (nm (x2 + (r2 + r3)) (fun y4 => (ck (inB x4 (mLen 14)) (nm (gA σ 14 x4.toNatClampNeg) (fun y5 => (ck (inB (0 : Int32) (mLen 9)) (ck (inB x4 (mLen 14)) (ck (inB (gA σ 14 x4.toNatClampNeg) (mLen 8)) (if ((gA σ 9 (0 : Int32).toNatClampNeg) + y4) ≤ (gA σ 8 (gA σ 14 x4.toNatClampNeg).toNatClampNeg) then
    (nm (x4 + (1 : Int32)) (fun y6 => (l_X6_minutesOf_12 a1 σ N1 y4 y5 y6)))
    else
    (some (-9 : Int32))))))))))))))))))
def f_X6_minutesOf (i1 : Int32) (σ : Sg) : Option Int32 :=
    (ck (inB (2 : Int32) (mLen 9)) (nm (gA σ 9 (2 : Int32).toNatClampNeg) (fun y1 => (l_X6_minutesOf_12 i1 σ FU (0 : Int32) y1 (0 : Int32)))))
def l_X6_bestOf_11 (a1 : Int32) (a2 : Int32) (k81 : Int32 → Sg → Option (Int32 × Sg)) : Nat → Int32 → Int32 → Sg → Option (Int32 × Sg)
  | 0, _, _, _ => none
  | N1 + 1, x3, x4, σx =>
    (bnd (f_X6_rowsOf a2) (fun r2 => (if r2 ≤ x4 then
    (k81 x3 σx)
    else
    (bnd2 (f_X6_layRow x4 a2 a1 σx) (fun r3 σ3 => (nm (fun (u3_75 : Int32) (σj75 : Sg) => (nm (x4 + (1 : Int32)) (fun y4 => (l_X6_bestOf_11 a1 a2 k81 N1 u3_75 y4 σj75))))
    (fun k75 => (bf r3
    (bnd (f_X6_minutesOf a2 σ3) (fun r5 => (if r5 = (-9 : Int32) then
    (k75 x3 σ3)
    else
    (nm (bnd (f_X6_bring 14 (0 : Int32) 15 (0 : Int32) (6 : Int32) σ3) (fun σ6 => (k75 r5 σ6)))
    (fun k57 => (if x3 = (-9 : Int32) then
    k57
    else
    (if x3 ≤ r5 then
    (k75 x3 σ3)
    else
    k57)))))))
    (k75 x3 σ3)))))))))
def f_X6_bestOf (i1 : Int32) (σ : Sg) : Option (Int32 × Sg) :=
    (bnd (f_X6_bits i1) (fun r1 => (l_X6_bestOf_11 i1 r1 
    (fun (v3_81 : Int32) (σv81 : Sg) => (some (v3_81, σv81))) FU (-9 : Int32) (0 : Int32) σ)))
def l_X6_anew_9 (a1 : Int32) (a2 : Int32) (k47 : Sg → Option Sg) : Nat → Int32 → Sg → Option Sg
  | 0, _, _ => none
  | N1 + 1, x3, σx =>
    (if (40 : Int32) ≤ x3 then
    (k47 σx)
    else
    (nm (fun (t0_40 : Int32) => (ck (inB (((40 : Int32) * a1) + x3) (mLen 2)) (nm (pA σx 2 (upd (gA σx 2) (((40 : Int32) * a1) + x3).toNatClampNeg t0_40)) (fun σ2 => (nm (x3 + (1 : Int32)) (fun y3 => (l_X6_anew_9 a1 a2 k47 N1 y3 σ2)))))))
    (fun k40 => (if a2 ≤ x3 then
    (k40 (0 : Int32))
    else
    (ck (inB x3 (mLen 15)) (k40 (gA σx 15 x3.toNatClampNeg)))))))
def f_X6_anew (i1 : Int32) (i2 : Int32) (σ : Sg) : Option Sg :=
    (ck (inB i1 (mLen 1)) (nm (pA σ 1 (upd (gA σ 1) i1.toNatClampNeg i2)) (fun σ1 => (l_X6_anew_9 i1 i2 
    (fun (σv47 : Sg) => (some σv47)) FU (0 : Int32) σ1))))
def f_X6_intime (i1 : Int32) (i2 : Int32) (σ : Sg) : Option (Int32 × Sg) :=
    (bnd (f_X6_isSet i1 σ) (fun r1 => (bf r1
    (bnd (f_X6_in i2 (0 : Int32) (5 : Int32)) (fun r2 => (bf r2
    (bnd (f_X6_wakable σ) (fun r3 => (if (i1 &&& (r3 ^^^ (-1 : Int32))) = 0 then
    (bnd2 (f_X6_bestOf i1 σ) (fun r4 σ4 => (if r4 = (-9 : Int32) then
    (some (r4, σ4))
    else
    (bnd (f_X6_bits i1) (fun r5 => (bnd (f_X6_anew i2 r5 σ4) (fun σ6 => (some (r4, σ6)))))))))
    else
    (some ((-4 : Int32), σ)))))
    (some ((-1 : Int32), σ)))))
    (some ((-1 : Int32), σ)))))
def l_X6_many_19 (a1 : Int32) (k65 : Int32 → Sg → Option (Int32 × Sg)) : Nat → Int32 → Int32 → Sg → Option (Int32 × Sg)
  | 0, _, _, _ => none
  | N1 + 1, x2, x3, σx =>
    (if a1 < x3 then
    (k65 x2 σx)
    else
    (nm (fun (t0_58 : Int32) (σj58 : Sg) => (nm (x3 + (1 : Int32)) (fun y2 => (l_X6_many_19 a1 k65 N1 t0_58 y2 σj58))))
    (fun k58 => (nm (fun (σj57 : Sg) => (k58 x2 σj57))
    (fun k57 => (if (x3 &&& (a1 ^^^ (-1 : Int32))) = 0 then
    (bnd (f_X6_bits x3) (fun r3 => (bnd (f_X6_bits x2) (fun r4 => (if r3 ≤ r4 then
    (k57 σx)
    else
    (bnd2 (f_X6_bestOf x3 σx) (fun r5 σ5 => (if r5 = (-9 : Int32) then
    (k57 σ5)
    else
    (k58 x3 σ5)))))))))
    else
    (k57 σx)))))))
def f_X6_many  (σ : Sg) : Option (Int32 × Sg) :=
    (if (gS σ 17) = 0 then
    (some ((-4 : Int32), σ))
    else
    (bnd (f_X6_wakable σ) (fun r1 => (l_X6_many_19 r1 
    (fun (v2_65 : Int32) (σv65 : Sg) => (bnd2 (f_X6_tells v2_65 σv65) (fun r6 σ6 => (bnd (f_X6_bits v2_65) (fun r7 => (some (r7, σ6))))))) FU (0 : Int32) (1 : Int32) σ))))
def l_X6_dates_63 (a1 : Int32) (a2 : Int32) (a3 : Int32) (σ : Sg) (k116 : Int32 → Option (Int32 × Sg)) : Nat → Int32 → Int32 → Option (Int32 × Sg)
  | 0, _, _ => none
  | N1 + 1, x4, x5 =>
    (if (gS σ 17) ≤ x5 then
    (k116 x4)
    else
    (ck (inB x5 (mLen 14)) (ck (inB ((5 : Int32) + (gA σ 14 x5.toNatClampNeg)) (mLen 9)) (ck (inB (x5 - (1 : Int32)) (mLen 14)) (ck (inB ((5 : Int32) + (gA σ 14 (x5 - (1 : Int32)).toNatClampNeg)) (mLen 9)) (bnd (f_X6_far (gA σ 9 ((5 : Int32) + (gA σ 14 x5.toNatClampNeg)).toNatClampNeg) (gA σ 9 ((5 : Int32) + (gA σ 14 (x5 - (1 : Int32)).toNatClampNeg)).toNatClampNeg)) (fun r5 => (nm (x4 + r5) (fun y6 => (nm (x5 + (1 : Int32)) (fun y7 => (l_X6_dates_63 a1 a2 a3 σ k116 N1 y6 y7))))))))))))
def l_X6_dates_26 (a1 : Int32) (k146 : Int32 → Sg → Option (Int32 × Sg)) : Nat → Int32 → Int32 → Sg → Option (Int32 × Sg)
  | 0, _, _, _ => none
  | N1 + 1, x2, x3, σx =>
    (bnd (f_X6_rowsOf (gS σx 17)) (fun r2 => (if r2 ≤ x3 then
    (k146 x2 σx)
    else
    (bnd2 (f_X6_layRow x3 (gS σx 17) (((1 : Int32) <<< ((gS σx 17) &&& 31)) - (1 : Int32)) σx) (fun r3 σ3 => (nm (fun (u2_140 : Int32) (σj140 : Sg) => (nm (x3 + (1 : Int32)) (fun y4 => (l_X6_dates_26 a1 k146 N1 u2_140 y4 σj140))))
    (fun k140 => (bf r3
    (l_X6_dates_63 a1 x2 x3 σ3 
    (fun (v4_116 : Int32) => (if x2 ≤ v4_116 then
    (k140 x2 σ3)
    else
    (bnd (f_X6_bring 14 (0 : Int32) 15 (0 : Int32) (6 : Int32) σ3) (fun σ8 => (k140 v4_116 σ8))))) FU (0 : Int32) (1 : Int32))
    (k140 x2 σ3)))))))))
def f_X6_dates (i1 : Int32) (σ : Sg) : Option (Int32 × Sg) :=
    (bnd (f_X6_in i1 (0 : Int32) (5 : Int32)) (fun r1 => (bf r1
    (if (gS σ 17) = 0 then
    (some ((-4 : Int32), σ))
    else
    (l_X6_dates_26 i1 
    (fun (v2_146 : Int32) (σv146 : Sg) => (bnd (f_X6_anew i1 (gS σv146 17) σv146) (fun σ9 => (some (v2_146, σ9))))) FU (99999 : Int32) (0 : Int32) σ))
    (some ((-1 : Int32), σ)))))
def l_X6_wrongPairs_48 (a1 : Int32) (σ : Sg) (k105 : Bool → Option (Int32 × Sg)) : Nat → Bool → Int32 → Option (Int32 × Sg)
  | 0, _, _ => none
  | N1 + 1, x2, x3 =>
    (ck (inB a1 (mLen 1)) (if (gA σ 1 a1.toNatClampNeg) ≤ x3 then
    (k105 x2)
    else
    (nm (fun (t0_98 : Bool) => (nm (x3 + (1 : Int32)) (fun y2 => (l_X6_wrongPairs_48 a1 σ k105 N1 t0_98 y2))))
    (fun k98 => (nm (k98 false)
    (fun k97 => (bf x2
    (ck (inB (((40 : Int32) * a1) + x3) (mLen 2)) (nm (fun (t0_87 : Int32) => (bnd (f_X6_in (gA σ 2 (((40 : Int32) * a1) + x3).toNatClampNeg) (0 : Int32) t0_87) (fun r3 => (bf r3
    (k98 true)
    k97))))
    (fun k87 => (if (x3 - x3 / (2 : Int32) * (2 : Int32)) = 0 then
    (k87 (99 : Int32))
    else
    (k87 (9 : Int32))))))
    k97)))))))
def f_X6_wrongPairs (i1 : Int32) (σ : Sg) : Option (Int32 × Sg) :=
    (ck (inB i1 (mLen 1)) (if 0 ≤ (gA σ 1 i1.toNatClampNeg) then
    (ck (inB i1 (mLen 1)) (nm (bnd2 (f_X6_finds (5 : Int32) σ) (fun r1 σ1 => (some (r1, σ1))))
    (fun k38 => (if ((gA σ 1 i1.toNatClampNeg) - (gA σ 1 i1.toNatClampNeg) / (2 : Int32) * (2 : Int32)) = (1 : Int32) then
    k38
    else
    (ck (inB i1 (mLen 1)) (if (gA σ 1 i1.toNatClampNeg) ≤ (16 : Int32) then
    (l_X6_wrongPairs_48 i1 σ 
    (fun (v2_105 : Bool) => (bf v2_105
    (some ((0 : Int32), σ))
    (bnd2 (f_X6_finds (3 : Int32) σ) (fun r4 σ4 => (some (r4, σ4)))))) FU true (0 : Int32))
    else
    k38))))))
    else
    (bnd2 (f_X6_finds (1 : Int32) σ) (fun r5 σ5 => (some (r5, σ5))))))
def f_X6_tookBy (i1 : Int32) (i2 : Int32) (σ : Sg) : Option Int32 :=
    (bnd (f_X6_takesBy i1 i2 σ) (fun r1 => (if r1 = (-9 : Int32) then
    (some (0 : Int32))
    else
    (some r1))))
def l_X6_tookSo_5 (a1 : Int32) (a2 : Int32) (σ : Sg) (k66 : Bool → Option Bool) : Nat → Bool → Int32 → Option Bool
  | 0, _, _ => none
  | N1 + 1, x3, x4 =>
    (ck (inB a1 (mLen 1)) (if (gA σ 1 a1.toNatClampNeg) ≤ x4 then
    (k66 x3)
    else
    (nm (fun (t0_59 : Bool) => (nm (x4 + (2 : Int32)) (fun y1 => (l_X6_tookSo_5 a1 a2 σ k66 N1 t0_59 y1))))
    (fun k59 => (nm (k59 false)
    (fun k58 => (bf x3
    (ck (inB (((40 : Int32) * a1) + x4) (mLen 2)) (bnd (f_X6_tookBy a2 (gA σ 2 (((40 : Int32) * a1) + x4).toNatClampNeg) σ) (fun r2 => (ck (inB ((((40 : Int32) * a1) + x4) + (1 : Int32)) (mLen 2)) (if r2 = (gA σ 2 ((((40 : Int32) * a1) + x4) + (1 : Int32)).toNatClampNeg) then
    (k59 true)
    else
    k58)))))
    k58)))))))
def f_X6_tookSo (i1 : Int32) (i2 : Int32) (σ : Sg) : Option Bool :=
    (l_X6_tookSo_5 i1 i2 σ 
    (fun (v3_66 : Bool) => (some v3_66)) FU true (0 : Int32))
def l_X6_kindsBy_4 (a1 : Int32) (σ : Sg) (k35 : Int32 → Option Int32) : Nat → Int32 → Int32 → Option Int32
  | 0, _, _ => none
  | N1 + 1, x2, x3 =>
    (if (6 : Int32) ≤ x3 then
    (k35 x2)
    else
    (bnd (f_X6_tookSo a1 x3 σ) (fun r1 => (nm (fun (t0_27 : Int32) => (nm (x2 ||| t0_27) (fun y2 => (nm (x3 + (1 : Int32)) (fun y3 => (l_X6_kindsBy_4 a1 σ k35 N1 y2 y3))))))
    (fun k27 => (bf r1
    (k27 ((1 : Int32) <<< (x3 &&& 31)))
    (k27 (0 : Int32))))))))
def f_X6_kindsBy (i1 : Int32) (σ : Sg) : Option Int32 :=
    (l_X6_kindsBy_4 i1 σ 
    (fun (v2_35 : Int32) => (some v2_35)) FU (0 : Int32) (0 : Int32))
def l_X6_whose_26 (a1 : Int32) (σ : Sg) (k64 : Int32 → Option (Int32 × Sg)) : Nat → Int32 → Int32 → Option (Int32 × Sg)
  | 0, _, _ => none
  | N1 + 1, x2, x3 =>
    (if (gS σ 17) ≤ x3 then
    (k64 x2)
    else
    (ck (inB x3 (mLen 7)) (bnd (f_X6_tookSo a1 (gA σ 7 x3.toNatClampNeg) σ) (fun r3 => (nm (fun (t0_56 : Int32) => (nm (x2 ||| t0_56) (fun y4 => (nm (x3 + (1 : Int32)) (fun y5 => (l_X6_whose_26 a1 σ k64 N1 y4 y5))))))
    (fun k56 => (bf r3
    (k56 ((1 : Int32) <<< (x3 &&& 31)))
    (k56 (0 : Int32)))))))))
def f_X6_whose (i1 : Int32) (σ : Sg) : Option (Int32 × Sg) :=
    (bnd (f_X6_in i1 (0 : Int32) (5 : Int32)) (fun r1 => (bf r1
    (bnd2 (f_X6_wrongPairs i1 σ) (fun r2 σ2 => (if r2 = 0 then
    (l_X6_whose_26 i1 σ2 
    (fun (v2_64 : Int32) => (some (v2_64, σ2))) FU (0 : Int32) (0 : Int32))
    else
    (some ((-3 : Int32), σ2)))))
    (some ((-1 : Int32), σ)))))
def f_X6_kinds (i1 : Int32) (σ : Sg) : Option (Int32 × Sg) :=
    (bnd (f_X6_in i1 (0 : Int32) (5 : Int32)) (fun r1 => (bf r1
    (bnd2 (f_X6_wrongPairs i1 σ) (fun r2 σ2 => (if r2 = 0 then
    (bnd (f_X6_kindsBy i1 σ2) (fun r3 => (some (r3, σ2))))
    else
    (some ((-3 : Int32), σ2)))))
    (some ((-1 : Int32), σ)))))
def l_X6_test_70 (a2 : Int32) (a3 : Int32) (a4 : Int32) (a5 : Int32) (a6 : Int32) (a7 : Int32) (σ : Sg) (k130 : Int32 → Option (Int32 × Sg)) : Nat → Int32 → Int32 → Option (Int32 × Sg)
  | 0, _, _ => none
  | N1 + 1, x8, x9 =>
    (if (6 : Int32) ≤ x9 then
    (k130 x8)
    else
    (bnd (f_X6_has a2 a7) (fun r4 => (nm (fun (t0_121 : Bool) => (nm (x8 + (b2i t0_121)) (fun y5 => (nm (x9 + (1 : Int32)) (fun y6 => (l_X6_test_70 a2 a3 a4 a5 a6 a7 σ k130 N1 y5 y6))))))
    (fun k121 => (nm (k121 false)
    (fun k120 => (bf r4
    (bnd (f_X6_has a2 x9) (fun r7 => (bf r7
    (bnd (f_X6_tookBy a7 a5 σ) (fun r8 => (bnd (f_X6_tookBy x9 a5 σ) (fun r9 => (if r8 = r9 then
    (k121 true)
    else
    k120)))))
    k120)))
    k120))))))))
def l_X6_test_57 (a2 : Int32) (a3 : Int32) (a4 : Int32) (a5 : Int32) (σ : Sg) (k152 : Int32 → Option (Int32 × Sg)) : Nat → Int32 → Int32 → Option (Int32 × Sg)
  | 0, _, _ => none
  | N1 + 1, x6, x7 =>
    (if (6 : Int32) ≤ x7 then
    (k152 x6)
    else
    (l_X6_test_70 a2 a3 a4 a5 x6 x7 σ 
    (fun (v8_130 : Int32) => (nm (fun (t0_144 : Int32) => (nm (x7 + (1 : Int32)) (fun y10 => (l_X6_test_57 a2 a3 a4 a5 σ k152 N1 t0_144 y10))))
    (fun k144 => (if v8_130 ≤ x6 then
    (k144 x6)
    else
    (k144 v8_130))))) FU (0 : Int32) (0 : Int32)))
def l_X6_test_44 (a2 : Int32) (σ : Sg) (k204 : Int32 → Int32 → Option (Int32 × Sg)) : Nat → Int32 → Int32 → Int32 → Option (Int32 × Sg)
  | 0, _, _, _ => none
  | N1 + 1, x3, x4, x5 =>
    (if (100 : Int32) ≤ x5 then
    (k204 x3 x4)
    else
    (l_X6_test_57 a2 x3 x4 x5 σ 
    (fun (v6_152 : Int32) => (nm (fun (t0_170 : Bool) => (nm (fun (t0_183 : Int32) => (nm (fun (t0_196 : Int32) => (nm (x5 + (1 : Int32)) (fun y11 => (l_X6_test_44 a2 σ k204 N1 t0_183 t0_196 y11))))
    (fun k196 => (bf t0_170
    (k196 v6_152)
    (k196 x4)))))
    (fun k183 => (bf t0_170
    (k183 x5)
    (k183 x3)))))
    (fun k170 => (nm (k170 true)
    (fun k165 => (if x3 = (-9 : Int32) then
    k165
    else
    (if x4 ≤ v6_152 then
    (k170 false)
    else
    k165))))))) FU (0 : Int32) (0 : Int32)))
def f_X6_test (i1 : Int32) (σ : Sg) : Option (Int32 × Sg) :=
    (bnd (f_X6_in i1 (0 : Int32) (5 : Int32)) (fun r1 => (bf r1
    (bnd2 (f_X6_wrongPairs i1 σ) (fun r2 σ2 => (if r2 = 0 then
    (bnd (f_X6_kindsBy i1 σ2) (fun r3 => (if r3 = 0 then
    (some ((-9 : Int32), σ2))
    else
    (l_X6_test_44 r3 σ2 
    (fun (v3_204 : Int32) (v4_204 : Int32) => (bnd2 (f_X6_tells v4_204 σ2) (fun r12 σ12 => (some (v3_204, σ12))))) FU (-9 : Int32) (0 : Int32) (0 : Int32)))))
    else
    (some ((-3 : Int32), σ2)))))
    (some ((-1 : Int32), σ)))))
def l_X6_pay_5 (a1 : Int32) (a2 : Int32) (σ : Sg) (k46 : Int32 → Option Bool) : Nat → Int32 → Int32 → Option Bool
  | 0, _, _ => none
  | N1 + 1, x3, x4 =>
    (if (gS σ 17) ≤ x4 then
    (k46 x3)
    else
    (bnd (f_X6_has a1 x4) (fun r1 => (nm (fun (t0_38 : Int32) => (nm (x3 + t0_38) (fun y2 => (nm (x4 + (1 : Int32)) (fun y3 => (l_X6_pay_5 a1 a2 σ k46 N1 y2 y3))))))
    (fun k38 => (bf r1
    (ck (inB x4 (mLen 7)) (bnd (f_X6_paysBy (gA σ 7 x4.toNatClampNeg)) (fun r4 => (k38 r4))))
    (k38 (0 : Int32))))))))
def f_X6_pay (i1 : Int32) (i2 : Int32) (σ : Sg) : Option Bool :=
    (l_X6_pay_5 i1 i2 σ 
    (fun (v3_46 : Int32) => (if v3_46 = i2 then
    (some true)
    else
    (some false))) FU (0 : Int32) (0 : Int32))
def l_X6_sets_37 (a1 : Int32) (σ : Sg) (k83 : Int32 → Int32 → Option (Int32 × Sg)) : Nat → Int32 → Int32 → Int32 → Option (Int32 × Sg)
  | 0, _, _, _ => none
  | N1 + 1, x2, x3, x4 =>
    (if x4 < 0 then
    (k83 x2 x3)
    else
    (bnd (f_X6_pay x4 a1 σ) (fun r3 => (nm (fun (t0_58 : Bool) => (nm (x2 + (b2i t0_58)) (fun y4 => (bnd (f_X6_pay x4 a1 σ) (fun r5 => (nm (fun (t0_76 : Int32) => (nm (x4 + (-1 : Int32)) (fun y6 => (l_X6_sets_37 a1 σ k83 N1 y4 t0_76 y6))))
    (fun k76 => (bf r5
    (k76 x4)
    (k76 x3)))))))))
    (fun k58 => (bf r3
    (k58 true)
    (k58 false)))))))
def f_X6_sets (i1 : Int32) (σ : Sg) : Option (Int32 × Sg) :=
    (bnd (f_X6_in i1 (0 : Int32) (99 : Int32)) (fun r1 => (bf r1
    (if (gS σ 17) = 0 then
    (some ((-4 : Int32), σ))
    else
    (nm (((1 : Int32) <<< ((gS σ 17) &&& 31)) - (1 : Int32)) (fun y2 => (l_X6_sets_37 i1 σ 
    (fun (v2_83 : Int32) (v3_83 : Int32) => (nm (pL σ 7 (v2_83.toInt64)) (fun σ7 => (nm (pL σ7 8 (1 : Int64)) (fun σ8 => (bnd2 (f_X6_tells v3_83 σ8) (fun r9 σ9 => (some (r9, σ9))))))))) FU (0 : Int32) (-9 : Int32) y2))))
    (some ((-1 : Int32), σ)))))
def l_X6_sure_39 (a1 : Int32) (σ : Sg) (k79 : Int32 → Int32 → Int32 → Option (Int32 × Sg)) : Nat → Int32 → Int32 → Int32 → Int32 → Option (Int32 × Sg)
  | 0, _, _, _, _ => none
  | N1 + 1, x2, x3, x4, x5 =>
    (if ((1 : Int32) <<< ((gS σ 17) &&& 31)) ≤ x5 then
    (k79 x2 x3 x4)
    else
    (bnd (f_X6_pay x5 a1 σ) (fun r3 => (nm (fun (u2_73 : Int32) (u3_73 : Int32) (u4_73 : Int32) => (nm (x5 + (1 : Int32)) (fun y4 => (l_X6_sure_39 a1 σ k79 N1 u2_73 u3_73 u4_73 y4))))
    (fun k73 => (bf r3
    (nm (x2 &&& x5) (fun y5 => (nm (x3 ||| x5) (fun y6 => (nm (x4 + (1 : Int32)) (fun y7 => (k73 y5 y6 y7)))))))
    (k73 x2 x3 x4)))))))
def f_X6_sure (i1 : Int32) (σ : Sg) : Option (Int32 × Sg) :=
    (bnd (f_X6_in i1 (0 : Int32) (99 : Int32)) (fun r1 => (bf r1
    (if (gS σ 17) = 0 then
    (some ((-4 : Int32), σ))
    else
    (nm (((1 : Int32) <<< ((gS σ 17) &&& 31)) - (1 : Int32)) (fun y2 => (l_X6_sure_39 i1 σ 
    (fun (v2_79 : Int32) (v3_79 : Int32) (v4_79 : Int32) => (if v4_79 = 0 then
    (bnd2 (f_X6_finds (4 : Int32) σ) (fun r8 σ8 => (some (r8, σ8))))
    else
    (bnd2 (f_X6_tells ((((1 : Int32) <<< ((gS σ 17) &&& 31)) - (1 : Int32)) &&& (v3_79 ^^^ (-1 : Int32))) σ) (fun r9 σ9 => (some (v2_79, σ9)))))) FU y2 (0 : Int32) (0 : Int32) (0 : Int32)))))
    (some ((-1 : Int32), σ)))))
def l_X6_ownBy_25 (a1 : Int32) (a2 : Int32) (a3 : Int32) (a4 : Int32) (σ : Sg) (k106 : Int32 → Bool → Option Int32) : Nat → Int32 → Bool → Int32 → Option Int32
  | 0, _, _, _ => none
  | N1 + 1, x5, x6, x7 =>
    (if (gS σ 17) ≤ x7 then
    (k106 x5 x6)
    else
    (bnd (f_X6_moreOf x7 σ) (fun r1 => (nm (fun (t0_77 : Bool) => (bnd (f_X6_has a4 x7) (fun r2 => (nm (fun (t0_97 : Int32) => (nm (x5 + t0_97) (fun y3 => (nm (x7 + (1 : Int32)) (fun y4 => (l_X6_ownBy_25 a1 a2 a3 a4 σ k106 N1 y3 t0_77 y4))))))
    (fun k97 => (bf r2
    (k97 r1)
    (k97 (0 : Int32))))))))
    (fun k77 => (nm (k77 false)
    (fun k76 => (bf x6
    (bnd (f_X6_has a4 x7) (fun r5 => (nm (k77 true)
    (fun k72 => (bf r5
    (if (x7 - x7 / (2 : Int32) * (2 : Int32)) = a1 then
    (if r1 = (-9 : Int32) then
    k76
    else
    k72)
    else
    k76)
    k72)))))
    k76))))))))
def l_X6_ownBy_5 (a1 : Int32) (a2 : Int32) (σ : Sg) (k142 : Int32 → Option Int32) : Nat → Int32 → Int32 → Option Int32
  | 0, _, _ => none
  | N1 + 1, x3, x4 =>
    (if ((1 : Int32) <<< ((gS σ 17) &&& 31)) ≤ x4 then
    (k142 x3)
    else
    (l_X6_ownBy_25 a1 a2 x3 x4 σ 
    (fun (v5_106 : Int32) (v6_106 : Bool) => (nm (fun (t0_135 : Int32) => (nm (x4 + (1 : Int32)) (fun y6 => (l_X6_ownBy_5 a1 a2 σ k142 N1 t0_135 y6))))
    (fun k135 => (nm (k135 x3)
    (fun k134 => (bf v6_106
    (if a2 < v5_106 then
    k134
    else
    (bnd (f_X6_bits x4) (fun r7 => (if r7 ≤ x3 then
    k134
    else
    (bnd (f_X6_bits x4) (fun r8 => (k135 r8)))))))
    k134)))))) FU (0 : Int32) true (0 : Int32)))
def f_X6_ownBy (i1 : Int32) (i2 : Int32) (σ : Sg) : Option Int32 :=
    (l_X6_ownBy_5 i1 i2 σ 
    (fun (v3_142 : Int32) => (some v3_142)) FU (0 : Int32) (0 : Int32))
def f_X6_duel (i1 : Int32) (σ : Sg) : Option (Int32 × Sg) :=
    (bnd (f_X6_in i1 (0 : Int32) (3 : Int32)) (fun r1 => (bf r1
    (if (gS σ 17) = 0 then
    (some ((-4 : Int32), σ))
    else
    (bnd (f_X6_ownBy (0 : Int32) i1 σ) (fun r2 => (bnd (f_X6_ownBy (1 : Int32) i1 σ) (fun r3 => (bnd2 (f_X6_tells (r2 - r3) σ) (fun r4 σ4 => (some (r4, σ4)))))))))
    (some ((-1 : Int32), σ)))))
def l_X6_tellsPart_6 (a1 : Int64) (a3 : Int64) (σ : Sg) (k31 : Int64 → Option Sg) : Nat → Int64 → Int64 → Option Sg
  | 0, _, _ => none
  | N1 + 1, x5, x7 =>
    (if (lg_cmp x7 (0 : Int64)) ≤ 0 then
    (k31 x5)
    else
    (ck (decide (¬ x7 = 0)) (nm (x5 - x5 / x7 * x7) (fun y1 => (l_X6_tellsPart_6 a1 a3 σ k31 N1 x7 y1)))))
def f_X6_tellsPart (l1 : Int64) (l3 : Int64) (σ : Sg) : Option Sg :=
    (l_X6_tellsPart_6 l1 l3 σ 
    (fun (v5_31 : Int64) => (ck (decide (¬ v5_31 = 0)) (nm (pL σ 7 (l1 / v5_31)) (fun σ2 => (ck (decide (¬ v5_31 = 0)) (nm (pL σ2 8 (l3 / v5_31)) (fun σ3 => (some σ3)))))))) FU l1 l3)
def l_X6_waysOf_5 (a0 : Int32) (a1 : Int32) (a2 : Int32) (k31 : Int64 → Option Int64) : Nat → Int64 → Int32 → Option Int64
  | 0, _, _ => none
  | N1 + 1, x3, x5 =>
    (if a1 ≤ x5 then
    (k31 x3)
    else
    (ck (decide (¬ ((x5 + (1 : Int32)).toInt64) = 0)) (nm ((x3 * ((a0 - x5).toInt64)) / ((x5 + (1 : Int32)).toInt64)) (fun y1 => (nm (x5 + (1 : Int32)) (fun y2 => (l_X6_waysOf_5 a0 a1 a2 k31 N1 y1 y2)))))))
def l_X6_waysOf_34 (a0 : Int32) (a1 : Int32) (a2 : Int32) (k65 : Int64 → Option Int64) : Nat → Int64 → Int32 → Option Int64
  | 0, _, _ => none
  | N1 + 1, x3, x5 =>
    (if a0 ≤ x5 then
    (k65 x3)
    else
    (nm (fun (t0_57 : Int64) => (nm (x3 * t0_57) (fun y3 => (nm (x5 + (1 : Int32)) (fun y4 => (l_X6_waysOf_34 a0 a1 a2 k65 N1 y3 y4))))))
    (fun k57 => (if a1 ≤ x5 then
    (k57 (((12 : Int32) - a2).toInt64))
    else
    (k57 (a2.toInt64))))))
def f_X6_waysOf (i0 : Int32) (i1 : Int32) (i2 : Int32) : Option Int64 :=
    (l_X6_waysOf_5 i0 i1 i2 
    (fun (v3_31 : Int64) => (l_X6_waysOf_34 i0 i1 i2 
    (fun (v3_65 : Int64) => (some v3_65)) FU v3_31 (0 : Int32))) FU (1 : Int64) (0 : Int32))
def l_X6_whole_4 (a0 : Int32) (k21 : Int64 → Option Int64) : Nat → Int64 → Int32 → Option Int64
  | 0, _, _ => none
  | N1 + 1, x1, x3 =>
    (if a0 ≤ x3 then
    (k21 x1)
    else
    (nm (x1 * (12 : Int64)) (fun y1 => (nm (x3 + (1 : Int32)) (fun y2 => (l_X6_whole_4 a0 k21 N1 y1 y2))))))
def f_X6_whole (i0 : Int32) : Option Int64 :=
    (l_X6_whole_4 i0 
    (fun (v1_21 : Int64) => (some v1_21)) FU (1 : Int64) (0 : Int32))
def l_X6_odds_43 (a2 : Int32) (a3 : Int32) (a4 : Int32) (σ : Sg) (k85 : Int64 → Option (Int32 × Sg)) : Nat → Int64 → Int32 → Option (Int32 × Sg)
  | 0, _, _ => none
  | N1 + 1, x5, x7 =>
    (if a2 < x7 then
    (k85 x5)
    else
    (nm (fun (t0_76 : Int64) => (nm (x5 + t0_76) (fun y5 => (nm (x7 + (1 : Int32)) (fun y6 => (l_X6_odds_43 a2 a3 a4 σ k85 N1 y5 y6))))))
    (fun k76 => (nm (k76 (0 : Int64))
    (fun k75 => (if a4 = (-9 : Int32) then
    k75
    else
    (if x7 < a4 then
    k75
    else
    (bnd (f_X6_waysOf a2 x7 a3) (fun r7 => (k76 r7))))))))))
def f_X6_odds (i1 : Int32) (i2 : Int32) (i3 : Int32) (σ : Sg) : Option (Int32 × Sg) :=
    (bnd (f_X6_isOne i1 σ) (fun r1 => (bf r1
    (bnd (f_X6_in i2 (0 : Int32) (8 : Int32)) (fun r2 => (bf r2
    (bnd (f_X6_in i3 (0 : Int32) (12 : Int32)) (fun r3 => (bf r3
    (bnd (f_X6_moreOf i1 σ) (fun r4 => (l_X6_odds_43 i2 i3 r4 σ 
    (fun (v5_85 : Int64) => (bnd (f_X6_whole i2) (fun r8 => (bnd (f_X6_tellsPart v5_85 r8 σ) (fun σ9 => (some ((1 : Int32), σ9))))))) FU (0 : Int64) (0 : Int32))))
    (some ((-1 : Int32), σ)))))
    (some ((-1 : Int32), σ)))))
    (some ((-1 : Int32), σ)))))
def l_X6_mid_56 (a2 : Int32) (a3 : Int32) (a4 : Int32) (σ : Sg) (k98 : Int64 → Option (Int32 × Sg)) : Nat → Int64 → Int32 → Option (Int32 × Sg)
  | 0, _, _ => none
  | N1 + 1, x5, x7 =>
    (if a2 < x7 then
    (k98 x5)
    else
    (nm (fun (t0_89 : Int64) => (nm (x5 + t0_89) (fun y6 => (nm (x7 + (1 : Int32)) (fun y7 => (l_X6_mid_56 a2 a3 a4 σ k98 N1 y6 y7))))))
    (fun k89 => (if a4 ≤ x7 then
    (k89 (0 : Int64))
    else
    (bnd (f_X6_waysOf a2 x7 a3) (fun r8 => (k89 (r8 * ((a4 - x7).toInt64)))))))))
def f_X6_mid (i1 : Int32) (i2 : Int32) (i3 : Int32) (σ : Sg) : Option (Int32 × Sg) :=
    (bnd (f_X6_isOne i1 σ) (fun r1 => (bf r1
    (bnd (f_X6_in i2 (0 : Int32) (8 : Int32)) (fun r2 => (bf r2
    (bnd (f_X6_in i3 (0 : Int32) (12 : Int32)) (fun r3 => (bf r3
    (bnd (f_X6_moreOf i1 σ) (fun r4 => (if r4 = (-9 : Int32) then
    (bnd2 (f_X6_finds (4 : Int32) σ) (fun r5 σ5 => (some (r5, σ5))))
    else
    (l_X6_mid_56 i2 i3 r4 σ 
    (fun (v5_98 : Int64) => (bnd (f_X6_whole i2) (fun r9 => (bnd (f_X6_tellsPart v5_98 r9 σ) (fun σ10 => (some ((1 : Int32), σ10))))))) FU (0 : Int64) (0 : Int32)))))
    (some ((-1 : Int32), σ)))))
    (some ((-1 : Int32), σ)))))
    (some ((-1 : Int32), σ)))))
def l_X6_lots_52 (a1 : Int32) (k169 : Sg → Option (Int32 × Sg)) : Nat → Int64 → Int32 → Sg → Option (Int32 × Sg)
  | 0, _, _, _ => none
  | N1 + 1, x3, x5, σx =>
    (if a1 ≤ x5 then
    (k169 σx)
    else
    (nm ((x3 * (48271 : Int64)) - (x3 * (48271 : Int64)) / (2147483647 : Int64) * (2147483647 : Int64)) (fun y4 => (nm (((y4 / (8 : Int64)) - (y4 / (8 : Int64)) / (8 : Int64) * (8 : Int64)).toInt32) (fun y5 => (ck (decide (¬ ((gS σx 17).toInt64) = 0)) (nm ((y4 - y4 / ((gS σx 17).toInt64) * ((gS σx 17).toInt64)).toInt32) (fun y6 => (bnd (f_X6_note σx) (fun σ7 => (nm (fun (σj163 : Sg) => (nm (x5 + (1 : Int32)) (fun y8 => (l_X6_lots_52 a1 k169 N1 y4 y8 σj163))))
    (fun k163 => (if (2 : Int32) ≤ y5 then
    (if (6 : Int32) ≤ y5 then
    (if y5 = (6 : Int32) then
    (bnd (f_X6_changes y6 (((y4 / (64 : Int64)) - (y4 / (64 : Int64)) / (100 : Int64) * (100 : Int64)).toInt32) σ7) (fun σ9 => (k163 σ9)))
    else
    (ck (inB (3 : Int32) (mLen 9)) (ck (inB (3 : Int32) (mLen 9)) (nm (pA σ7 9 (upd (gA σ7 9) (3 : Int32).toNatClampNeg ((1 : Int32) - (gA σ7 9 (3 : Int32).toNatClampNeg)))) (fun σ10 => (k163 σ10))))))
    else
    (bnd (f_X6_taps σ7) (fun σ11 => (k163 σ11))))
    else
    (bnd (f_X6_goes y6 σ7) (fun σ12 => (k163 σ12))))))))))))))))
def f_X6_lots (i1 : Int32) (i2 : Int32) (σ : Sg) : Option (Int32 × Sg) :=
    (bnd (f_X6_in i1 (1 : Int32) (20 : Int32)) (fun r1 => (bf r1
    (bnd (f_X6_in i2 (1 : Int32) (2147483646 : Int32)) (fun r2 => (bf r2
    (if (gS σ 17) = 0 then
    (some ((-4 : Int32), σ))
    else
    (if ((gS σ 22) + i1) ≤ (40 : Int32) then
    (nm (i2.toInt64) (fun y3 => (l_X6_lots_52 i1 
    (fun (σv169 : Sg) => (bnd (f_X6_awakeOnes σv169) (fun r13 => (bnd (f_X6_bits r13) (fun r14 => (some (r14, σv169))))))) FU y3 (0 : Int32) σ)))
    else
    (some ((-2 : Int32), σ))))
    (some ((-1 : Int32), σ)))))
    (some ((-1 : Int32), σ)))))
def f_X6_asked  (σ : Sg) : Option Int32 :=
    (some (gS σ 6))
def f_X6_upper  (σ : Sg) : Option Int64 :=
    (some (gL σ 7))
def f_X6_lower  (σ : Sg) : Option Int64 :=
    (some (gL σ 8))
def l_X6_thereOf_10 (b2 : Nat) (a3 : Int32) (σ : Sg) (k41 : Int32 → Option Int32) : Nat → Int32 → Int32 → Option Int32
  | 0, _, _ => none
  | N1 + 1, x1, x4 =>
    (if a3 ≤ x4 then
    (k41 x1)
    else
    (ck (inB x4 (mLen b2)) (nm (gA σ b2 x4.toNatClampNeg) (fun y2 => (nm (fun (t0_33 : Bool) => (nm (x1 + (b2i t0_33)) (fun y3 => (nm (x4 + (1 : Int32)) (fun y4 => (l_X6_thereOf_10 b2 a3 σ k41 N1 y3 y4))))))
    (fun k33 => (if 0 ≤ y2 then
    (k33 true)
    else
    (k33 false))))))))
def f_X6_thereOf (g0 : Nat) (σ : Sg) : Option Int32 :=
    (nm (nI (mLen g0)) (fun y1 => (l_X6_thereOf_10 g0 y1 σ 
    (fun (v1_41 : Int32) => (some v1_41)) FU (0 : Int32) (0 : Int32))))
def l_X6_kindMany_4 (a1 : Int32) (σ : Sg) (k39 : Int32 → Option Int32) : Nat → Int32 → Int32 → Option Int32
  | 0, _, _ => none
  | N1 + 1, x2, x3 =>
    (if (gS σ 17) ≤ x3 then
    (k39 x2)
    else
    (ck (inB x3 (mLen 7)) (bnd (f_X6_is (gA σ 7 x3.toNatClampNeg) a1) (fun r1 => (nm (fun (t0_31 : Bool) => (nm (x2 + (b2i t0_31)) (fun y2 => (nm (x3 + (1 : Int32)) (fun y3 => (l_X6_kindMany_4 a1 σ k39 N1 y2 y3))))))
    (fun k31 => (bf r1
    (k31 true)
    (k31 false))))))))
def f_X6_kindMany (i1 : Int32) (σ : Sg) : Option Int32 :=
    (l_X6_kindMany_4 i1 σ 
    (fun (v2_39 : Int32) => (some v2_39)) FU (0 : Int32) (0 : Int32))
def f_X6_count (i1 : Int32) (σ : Sg) : Option Int32 :=
    (if i1 = (0 : Int32) then
    (some (gS σ 17))
    else
    (if i1 = (1 : Int32) then
    (ck (inB (0 : Int32) (mLen 9)) (some (gA σ 9 (0 : Int32).toNatClampNeg)))
    else
    (if i1 = (2 : Int32) then
    (ck (inB (1 : Int32) (mLen 9)) (some (gA σ 9 (1 : Int32).toNatClampNeg)))
    else
    (if i1 = (3 : Int32) then
    (some (gS σ 22))
    else
    (if i1 = (4 : Int32) then
    (ck (inB (2 : Int32) (mLen 9)) (some (gA σ 9 (2 : Int32).toNatClampNeg)))
    else
    (if i1 = (5 : Int32) then
    (ck (inB (3 : Int32) (mLen 9)) (some (gA σ 9 (3 : Int32).toNatClampNeg)))
    else
    (if i1 = (6 : Int32) then
    (bnd (f_X6_awakeOnes σ) (fun r1 => (some r1)))
    else
    (if i1 = (7 : Int32) then
    (ck (inB (4 : Int32) (mLen 9)) (some (gA σ 9 (4 : Int32).toNatClampNeg)))
    else
    (if i1 = (8 : Int32) then
    (bnd (f_X6_kindMany (1 : Int32) σ) (fun r2 => (some r2)))
    else
    (if i1 = (9 : Int32) then
    (bnd (f_X6_kindMany (2 : Int32) σ) (fun r3 => (some r3)))
    else
    (if i1 = (10 : Int32) then
    (bnd (f_X6_thereOf 1 σ) (fun r4 => (some r4)))
    else
    (if i1 = (11 : Int32) then
    (bnd (f_X6_thereOf 3 σ) (fun r5 => (some r5)))
    else
    (if i1 = (12 : Int32) then
    (bnd (f_X6_thereOf 13 σ) (fun r6 => (some r6)))
    else
    (if i1 = (13 : Int32) then
    (some (gS σ 16))
    else
    (some (-1 : Int32))))))))))))))))
def f_X6_finding  (σ : Sg) : Option Int32 :=
    (some (gS σ 4))
def f_X6_findings (i1 : Int32) (σ : Sg) : Option Int32 :=
    (bnd (f_X6_in i1 (1 : Int32) (5 : Int32)) (fun r1 => (bf r1
    (ck (inB i1 (mLen 5)) (some (gA σ 5 i1.toNatClampNeg)))
    (some (-1 : Int32)))))
def l_X6_digest_6 (σ : Sg) (k31 : Int64 → Option Int64) : Nat → Int64 → Int32 → Option Int64
  | 0, _, _ => none
  | N1 + 1, x1, x3 =>
    (if (14 : Int32) ≤ x3 then
    (k31 x1)
    else
    (bnd (f_X6_count x3 σ) (fun r1 => (nm (((31 : Int64) * x1) + (r1.toInt64)) (fun y2 => (nm (x3 + (1 : Int32)) (fun y3 => (l_X6_digest_6 σ k31 N1 y2 y3))))))))
def l_X6_digest_44 (a3 : Int32) (σ : Sg) (k72 : Int64 → Option Int64) : Nat → Int64 → Int32 → Option Int64
  | 0, _, _ => none
  | N1 + 1, x1, x4 =>
    (if (6 : Int32) ≤ x4 then
    (k72 x1)
    else
    (bnd (f_X6_houseTells a3 x4 σ) (fun r4 => (nm (((31 : Int64) * x1) + (r4.toInt64)) (fun y5 => (nm (x4 + (1 : Int32)) (fun y6 => (l_X6_digest_44 a3 σ k72 N1 y5 y6))))))))
def l_X6_digest_33 (σ : Sg) (k78 : Int64 → Option Int64) : Nat → Int64 → Int32 → Option Int64
  | 0, _, _ => none
  | N1 + 1, x1, x3 =>
    (if (gS σ 17) ≤ x3 then
    (k78 x1)
    else
    (l_X6_digest_44 x3 σ 
    (fun (v1_72 : Int64) => (nm (x3 + (1 : Int32)) (fun y7 => (l_X6_digest_33 σ k78 N1 v1_72 y7)))) FU x1 (0 : Int32)))
def l_X6_digest_80 (σ : Sg) (k105 : Int64 → Option Int64) : Nat → Int64 → Int32 → Option Int64
  | 0, _, _ => none
  | N1 + 1, x1, x3 =>
    (if (3 : Int32) ≤ x3 then
    (k105 x1)
    else
    (ck (inB x3 (mLen 13)) (nm (((31 : Int64) * x1) + ((gA σ 13 x3.toNatClampNeg).toInt64)) (fun y8 => (nm (x3 + (1 : Int32)) (fun y9 => (l_X6_digest_80 σ k105 N1 y8 y9)))))))
def l_X6_digest_130 (a3 : Int32) (σ : Sg) (k167 : Int64 → Option Int64) : Nat → Int64 → Int32 → Option Int64
  | 0, _, _ => none
  | N1 + 1, x1, x4 =>
    (ck (inB a3 (mLen 1)) (if (gA σ 1 a3.toNatClampNeg) ≤ x4 then
    (k167 x1)
    else
    (ck (inB (((40 : Int32) * a3) + x4) (mLen 2)) (nm (((31 : Int64) * x1) + ((gA σ 2 (((40 : Int32) * a3) + x4).toNatClampNeg).toInt64)) (fun y11 => (nm (x4 + (1 : Int32)) (fun y12 => (l_X6_digest_130 a3 σ k167 N1 y11 y12))))))))
def l_X6_digest_107 (σ : Sg) (k173 : Int64 → Option Int64) : Nat → Int64 → Int32 → Option Int64
  | 0, _, _ => none
  | N1 + 1, x1, x3 =>
    (if (6 : Int32) ≤ x3 then
    (k173 x1)
    else
    (ck (inB x3 (mLen 1)) (nm (((31 : Int64) * x1) + ((gA σ 1 x3.toNatClampNeg).toInt64)) (fun y10 => (l_X6_digest_130 x3 σ 
    (fun (v1_167 : Int64) => (nm (x3 + (1 : Int32)) (fun y13 => (l_X6_digest_107 σ k173 N1 v1_167 y13)))) FU y10 (0 : Int32))))))
def l_X6_digest_197 (a3 : Int32) (σ : Sg) (k234 : Int64 → Option Int64) : Nat → Int64 → Int32 → Option Int64
  | 0, _, _ => none
  | N1 + 1, x1, x4 =>
    (ck (inB a3 (mLen 3)) (if (gA σ 3 a3.toNatClampNeg) ≤ x4 then
    (k234 x1)
    else
    (ck (inB (((60 : Int32) * a3) + x4) (mLen 4)) (nm (((31 : Int64) * x1) + ((gA σ 4 (((60 : Int32) * a3) + x4).toNatClampNeg).toInt64)) (fun y15 => (nm (x4 + (1 : Int32)) (fun y16 => (l_X6_digest_197 a3 σ k234 N1 y15 y16))))))))
def l_X6_digest_175 (σ : Sg) (k240 : Int64 → Option Int64) : Nat → Int64 → Int32 → Option Int64
  | 0, _, _ => none
  | N1 + 1, x1, x3 =>
    (if (4 : Int32) ≤ x3 then
    (k240 x1)
    else
    (ck (inB x3 (mLen 3)) (nm (((31 : Int64) * x1) + ((gA σ 3 x3.toNatClampNeg).toInt64)) (fun y14 => (l_X6_digest_197 x3 σ 
    (fun (v1_234 : Int64) => (nm (x3 + (1 : Int32)) (fun y17 => (l_X6_digest_175 σ k240 N1 v1_234 y17)))) FU y14 (0 : Int32))))))
def f_X6_digest  (σ : Sg) : Option Int64 :=
    (l_X6_digest_6 σ 
    (fun (v1_31 : Int64) => (l_X6_digest_33 σ 
    (fun (v1_78 : Int64) => (l_X6_digest_80 σ 
    (fun (v1_105 : Int64) => (l_X6_digest_107 σ 
    (fun (v1_173 : Int64) => (l_X6_digest_175 σ 
    (fun (v1_240 : Int64) => (some v1_240)) FU v1_173 (0 : Int32))) FU v1_105 (0 : Int32))) FU v1_78 (0 : Int32))) FU v1_31 (0 : Int32))) FU (17 : Int64) (0 : Int32))
