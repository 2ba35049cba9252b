def f_L_cell (L : Nat) (xs : Nat → Int32) (i1 : Int32) (σ : Sg) : Option Int32 :=
    (if (nI L) = 0 then
    (some (0 : Int32))
    else
    (ck (decide (¬ (nI L) = 0)) (ck (inB (i1 - i1 / (nI L) * (nI L)) L) (some (xs (i1 - i1 / (nI L) * (nI L)).toNatClampNeg)))))
def f_L_low (i0 : Int32) (i1 : Int32) : Option Int32 :=
    (ck (decide (¬ i1 = 0)) (some (((i0.toUInt32 >>> ((1 : Int32).toUInt32 &&& Int32.toUInt32 31)).toInt32) - ((i0.toUInt32 >>> ((1 : Int32).toUInt32 &&& Int32.toUInt32 31)).toInt32) / i1 * i1)))
def f_L_letter (i0 : Int32) : Option Int32 :=
    (if i0 = 0 then
    (some (104 : Int32))
    else
    (if i0 = (1 : Int32) then
    (some (118 : Int32))
    else
    (if i0 = (2 : Int32) then
    (some (114 : Int32))
    else
    (if i0 = (3 : Int32) then
    (some (100 : Int32))
    else
    (if i0 = (4 : Int32) then
    (some (105 : Int32))
    else
    (some (109 : Int32)))))))
def f_L_figures (i1 : Int32) (i2 : Int32) (i3 : Int32) (σ : Sg) : Option (Bool × Sg) :=
    (bnd2 (f_X5_put i1 i2 ((48 : Int32) + (i3 / (10 : Int32))) σ) (fun r1 σ1 => (if r1 = (1032 : Int32) then
    (bnd2 (f_X5_put i1 (i2 + (1 : Int32)) ((48 : Int32) + (i3 - i3 / (10 : Int32) * (10 : Int32))) σ1) (fun r2 σ2 => (if r2 = (1032 : Int32) then
    (some (true, σ2))
    else
    (some (false, σ2)))))
    else
    (some (false, σ1)))))
def l_L_built_10 (L : Nat) (xs : Nat → Int32) (a2 : Int32) (a3 : Int32) (b4 : Nat) (b5 : Nat) (a6 : Int32) (k41 : Sg → Option (Bool × Sg)) : Nat → Int32 → Sg → Option (Bool × Sg)
  | 0, _, _ => none
  | N1 + 1, x7, σx =>
    (if (23 : Int32) ≤ x7 then
    (k41 σx)
    else
    (nm (fun (t0_34 : Int32) => (ck (inB x7 (cLen b5)) (nm (pA σx b5 (upd (gA σx b5) x7.toNatClampNeg t0_34)) (fun σ2 => (nm (x7 + (1 : Int32)) (fun y3 => (l_L_built_10 L xs a2 a3 b4 b5 a6 k41 N1 y3 σ2)))))))
    (fun k34 => (if (17 : Int32) ≤ x7 then
    (k34 (-9 : Int32))
    else
    (k34 (0 : Int32))))))
def l_L_built_198 (L : Nat) (xs : Nat → Int32) (a2 : Int32) (b4 : Nat) (b5 : Nat) (k407 : Bool → Sg → Option (Bool × Sg)) : Nat → Bool → Int32 → Int32 → Sg → Option (Bool × Sg)
  | 0, _, _, _, _ => none
  | N1 + 1, x7, x8, x9, σx =>
    (ck (inB (1 : Int32) (cLen b4)) (if (gA σx b4 (1 : Int32).toNatClampNeg) ≤ x9 then
    (k407 x7 σx)
    else
    (bnd (f_L_cell L xs ((a2 + (1 : Int32)) + x9) σx) (fun r14 => (bnd (f_L_low r14 (6 : Int32)) (fun r15 => (ck (inB ((2 : Int32) + x9) (cLen b4)) (nm (pA σx b4 (upd (gA σx b4) ((2 : Int32) + x9).toNatClampNeg r15)) (fun σ16 => (bnd (f_L_low (r14 >>> ((3 : Int32) &&& 31)) (3 : Int32)) (fun r17 => (nm (fun (t0_274 : Int32) => (ck (inB ((5 : Int32) + x9) (cLen b5)) (nm (pA σ16 b5 (upd (gA σ16 b5) ((5 : Int32) + x9).toNatClampNeg t0_274)) (fun σ18 => (bnd (f_L_low (r14 >>> ((20 : Int32) &&& 31)) (2 : Int32)) (fun r19 => (nm (fun (t0_306 : Int32) => (bnd (f_L_low (r14 >>> ((12 : Int32) &&& 31)) t0_306) (fun r20 => (ck (inB ((8 : Int32) + x9) (cLen b4)) (nm (pA σ18 b4 (upd (gA σ18 b4) ((8 : Int32) + x9).toNatClampNeg r20)) (fun σ21 => (bnd (f_L_low (r14 >>> ((22 : Int32) &&& 31)) (3 : Int32)) (fun r22 => (nm (x8 + r22) (fun y23 => (nm (fun (t0_396 : Bool) (σj396 : Sg) => (nm (y23 + (5 : Int32)) (fun y24 => (nm (x9 + (1 : Int32)) (fun y25 => (l_L_built_198 L xs a2 b4 b5 k407 N1 t0_396 y24 y25 σj396))))))
    (fun k396 => (nm (fun (σj395 : Sg) => (k396 false σj395))
    (fun k395 => (bf x7
    (ck (inB ((2 : Int32) + x9) (cLen b4)) (bnd (f_L_letter (gA σ21 b4 ((2 : Int32) + x9).toNatClampNeg)) (fun r26 => (bnd2 (f_X5_put (3 : Int32) y23 r26 σ21) (fun r27 σ27 => (if r27 = (1032 : Int32) then
    (ck (inB ((5 : Int32) + x9) (cLen b5)) (bnd2 (f_L_figures (3 : Int32) (y23 + (1 : Int32)) (gA σ27 b5 ((5 : Int32) + x9).toNatClampNeg) σ27) (fun r28 σ28 => (bf r28
    (ck (inB ((8 : Int32) + x9) (cLen b4)) (bnd2 (f_L_figures (3 : Int32) (y23 + (3 : Int32)) (gA σ28 b4 ((8 : Int32) + x9).toNatClampNeg) σ28) (fun r29 σ29 => (bf r29
    (k396 true σ29)
    (k395 σ29)))))
    (k395 σ28)))))
    else
    (k395 σ27)))))))
    (k395 σ21))))))))))))))))
    (fun k306 => (if r19 = 0 then
    (k306 (100 : Int32))
    else
    (k306 (25 : Int32)))))))))))
    (fun k274 => (if r17 = 0 then
    (bnd (f_L_low (r14 >>> ((5 : Int32) &&& 31)) (12 : Int32)) (fun r30 => (k274 ((40 : Int32) + r30))))
    else
    (bnd (f_L_low (r14 >>> ((5 : Int32) &&& 31)) (100 : Int32)) (fun r31 => (k274 r31)))))))))))))))))
def s_L_built_407 (L : Nat) (xs : Nat → Int32) (b4 : Nat) (z7 : Bool) (σ : Sg) : Option (Bool × Sg) :=
    (bf z7
    (bnd2 (f_X5_fault (3 : Int32) σ) (fun r32 σ32 => (if r32 = (-9 : Int32) then
    (bnd2 (f_X5_town (3 : Int32) σ32) (fun r33 σ33 => (ck (inB (1 : Int32) (cLen b4)) (if r33 = (gA σ33 b4 (1 : Int32).toNatClampNeg) then
    (some (true, σ33))
    else
    (some (false, σ33))))))
    else
    (some (false, σ32)))))
    (some (false, σ)))
def s_L_built_41 (L : Nat) (xs : Nat → Int32) (z2 : Int32) (z3 : Int32) (b4 : Nat) (b5 : Nat) (z6 : Int32) (σ : Sg) : Option (Bool × Sg) :=
    (bnd (f_L_low (z6 >>> ((20 : Int32) &&& 31)) (2 : Int32)) (fun r4 => (nm (fun (t0_65 : Int32) => (bnd (f_L_low z6 t0_65) (fun r5 => (ck (inB (0 : Int32) (cLen b4)) (nm (pA σ b4 (upd (gA σ b4) (0 : Int32).toNatClampNeg r5)) (fun σ6 => (bnd (f_L_low (z6 >>> ((7 : Int32) &&& 31)) z3) (fun r7 => (ck (inB (1 : Int32) (cLen b4)) (nm (pA σ6 b4 (upd (gA σ6 b4) (1 : Int32).toNatClampNeg ((1 : Int32) + r7))) (fun σ8 => (bnd (f_L_low (z6 >>> ((10 : Int32) &&& 31)) (2 : Int32)) (fun r9 => (ck (inB (3 : Int32) (cLen b5)) (nm (pA σ8 b5 (upd (gA σ8 b5) (3 : Int32).toNatClampNeg r9)) (fun σ10 => (bnd2 (f_X5_text (3 : Int32) (50 : Int32) σ10) (fun r11 σ11 => (nm (fun (t0_114 : Bool) => (bnd (f_L_low (z6 >>> ((11 : Int32) &&& 31)) (3 : Int32)) (fun r12 => (nm (fun (t0_190 : Bool) (σj190 : Sg) => (nm (r12 + (4 : Int32)) (fun y13 => (l_L_built_198 L xs z2 b4 b5 
    (fun (v7_407 : Bool) (σv407 : Sg) => (s_L_built_407 L xs b4 v7_407 σv407)) FU t0_190 y13 (0 : Int32) σj190))))
    (fun k190 => (nm (fun (σj189 : Sg) => (k190 false σj189))
    (fun k189 => (bf t0_114
    (bnd2 (f_X5_put (3 : Int32) r12 (115 : Int32) σ11) (fun r34 σ34 => (if r34 = (1032 : Int32) then
    (ck (inB (3 : Int32) (cLen b5)) (bnd2 (f_X5_put (3 : Int32) (r12 + (1 : Int32)) ((48 : Int32) + (gA σ34 b5 (3 : Int32).toNatClampNeg)) σ34) (fun r35 σ35 => (if r35 = (1032 : Int32) then
    (ck (inB (0 : Int32) (cLen b4)) (bnd2 (f_L_figures (3 : Int32) (r12 + (2 : Int32)) (gA σ35 b4 (0 : Int32).toNatClampNeg) σ35) (fun r36 σ36 => (bf r36
    (k190 true σ36)
    (k189 σ36)))))
    else
    (k189 σ35)))))
    else
    (k189 σ34))))
    (k189 σ11)))))))))
    (fun k114 => (if r11 = (50 : Int32) then
    (k114 true)
    else
    (k114 false))))))))))))))))))))))
    (fun k65 => (if r4 = 0 then
    (k65 (100 : Int32))
    else
    (k65 (20 : Int32)))))))
def f_L_built (L : Nat) (xs : Nat → Int32) (i2 : Int32) (i3 : Int32) (g4 : Nat) (g5 : Nat) (σ : Sg) : Option (Bool × Sg) :=
    (bnd (f_L_cell L xs i2 σ) (fun r1 => (l_L_built_10 L xs i2 i3 g4 g5 r1 
    (fun (σv41 : Sg) => (s_L_built_41 L xs i2 i3 g4 g5 r1 σv41)) FU (0 : Int32) σ)))
def f_L_has (i0 : Int32) (i1 : Int32) : Option Bool :=
    (if ((i0 >>> (i1 &&& 31)) &&& (1 : Int32)) = (1 : Int32) then
    (some true)
    else
    (some false))
def l_L_bits_4 (a0 : Int32) (k24 : Int32 → Option Int32) : Nat → Int32 → Int32 → Option Int32
  | 0, _, _ => none
  | N1 + 1, x1, x2 =>
    (if (6 : Int32) ≤ x2 then
    (k24 x1)
    else
    (nm (x1 + ((a0 >>> (x2 &&& 31)) &&& (1 : Int32))) (fun y1 => (nm (x2 + (1 : Int32)) (fun y2 => (l_L_bits_4 a0 k24 N1 y1 y2))))))
def f_L_bits (i0 : Int32) : Option Int32 :=
    (l_L_bits_4 i0 
    (fun (v1_24 : Int32) => (some v1_24)) FU (0 : Int32) (0 : Int32))
def l_L_copy_2 (b0 : Nat) (b1 : Nat) (k20 : Sg → Option Sg) : Nat → Int32 → Sg → Option Sg
  | 0, _, _ => none
  | N1 + 1, x2, σx =>
    (if (23 : Int32) ≤ x2 then
    (k20 σx)
    else
    (ck (inB x2 (cLen b0)) (ck (inB x2 (cLen b1)) (nm (pA σx b1 (upd (gA σx b1) x2.toNatClampNeg (gA σx b0 x2.toNatClampNeg))) (fun σ1 => (nm (x2 + (1 : Int32)) (fun y2 => (l_L_copy_2 b0 b1 k20 N1 y2 σ1))))))))
def f_L_copy (g0 : Nat) (g1 : Nat) (σ : Sg) : Option Sg :=
    (l_L_copy_2 g0 g1 
    (fun (σv20 : Sg) => (some σv20)) FU (0 : Int32) σ)
def f_L_takes (i0 : Int32) (i1 : Int32) (i2 : Int32) : Option Int32 :=
    (nm (fun (t0_28 : Bool) => (nm (fun (t0_40 : Int32) => (bf t0_28
    (some (0 : Int32))
    (if i0 = (1 : Int32) then
    (some (t0_40 + t0_40))
    else
    (if i0 = (4 : Int32) then
    (some ((t0_40 + t0_40) + (1 : Int32)))
    else
    (some t0_40)))))
    (fun k40 => (if i1 ≤ (49 : Int32) then
    (k40 (2 : Int32))
    else
    (k40 (1 : Int32))))))
    (fun k28 => (nm (k28 true)
    (fun k23 => (if i0 = (3 : Int32) then
    k23
    else
    (nm (k28 false)
    (fun k27 => (if i2 = (1 : Int32) then
    (if (i1 / (10 : Int32)) = (4 : Int32) then
    (if i0 = (5 : Int32) then
    k27
    else
    k23)
    else
    k27)
    else
    k27))))))))
def f_L_pays (i0 : Int32) : Option Int32 :=
    (if i0 = (3 : Int32) then
    (some (0 : Int32))
    else
    (if i0 = (5 : Int32) then
    (some (5 : Int32))
    else
    (if i0 = (2 : Int32) then
    (some (2 : Int32))
    else
    (some (1 : Int32)))))
def f_L_more (g0 : Nat) (g1 : Nat) (i2 : Int32) (σ : Sg) : Option Int32 :=
    (ck (inB ((2 : Int32) + i2) (cLen g0)) (ck (inB ((5 : Int32) + i2) (cLen g1)) (ck (inB (3 : Int32) (cLen g1)) (bnd (f_L_takes (gA σ g0 ((2 : Int32) + i2).toNatClampNeg) (gA σ g1 ((5 : Int32) + i2).toNatClampNeg) (gA σ g1 (3 : Int32).toNatClampNeg)) (fun r1 => (ck (inB ((17 : Int32) + i2) (cLen g1)) (if (gA σ g1 ((17 : Int32) + i2).toNatClampNeg) < 0 then
    (if r1 = 0 then
    (some (-9 : Int32))
    else
    (ck (inB ((11 : Int32) + i2) (cLen g1)) (if (1 : Int32) ≤ (r1 - (gA σ g1 ((11 : Int32) + i2).toNatClampNeg)) then
    (ck (inB ((11 : Int32) + i2) (cLen g1)) (some (r1 - (gA σ g1 ((11 : Int32) + i2).toNatClampNeg))))
    else
    (some (1 : Int32)))))
    else
    (some (0 : Int32)))))))))
def l_L_awake_4 (b0 : Nat) (σ : Sg) (k35 : Int32 → Option Int32) : Nat → Int32 → Int32 → Option Int32
  | 0, _, _ => none
  | N1 + 1, x1, x2 =>
    (if (6 : Int32) ≤ x2 then
    (k35 x1)
    else
    (ck (inB ((17 : Int32) + x2) (cLen b0)) (nm (fun (t0_27 : Int32) => (nm (x1 ||| t0_27) (fun y1 => (nm (x2 + (1 : Int32)) (fun y2 => (l_L_awake_4 b0 σ k35 N1 y1 y2))))))
    (fun k27 => (if (gA σ b0 ((17 : Int32) + x2).toNatClampNeg) < 0 then
    (k27 (0 : Int32))
    else
    (k27 ((1 : Int32) <<< (x2 &&& 31))))))))
def f_L_awake (g0 : Nat) (σ : Sg) : Option Int32 :=
    (l_L_awake_4 g0 σ 
    (fun (v1_35 : Int32) => (some v1_35)) FU (0 : Int32) (0 : Int32))
def f_L_far (i0 : Int32) (i1 : Int32) : Option Int32 :=
    (if i1 ≤ i0 then
    (some (i0 - i1))
    else
    (some (i1 - i0)))
def f_L_walk (g0 : Nat) (i1 : Int32) (σ : Sg) : Option Sg :=
    (ck (inB (0 : Int32) (cLen g0)) (ck (inB (2 : Int32) (cLen g0)) (bnd (f_L_far (gA σ g0 (2 : Int32).toNatClampNeg) i1) (fun r1 => (ck (inB (0 : Int32) (cLen g0)) (nm (pA σ g0 (upd (gA σ g0) (0 : Int32).toNatClampNeg ((gA σ g0 (0 : Int32).toNatClampNeg) + r1))) (fun σ2 => (ck (inB (2 : Int32) (cLen g0)) (nm (pA σ2 g0 (upd (gA σ2 g0) (2 : Int32).toNatClampNeg i1)) (fun σ3 => (some σ3)))))))))))
def f_L_tap (g0 : Nat) (g1 : Nat) (σ : Sg) : Option (Int32 × Sg) :=
    (ck (inB (2 : Int32) (cLen g1)) (nm (gA σ g1 (2 : Int32).toNatClampNeg) (fun y1 => (ck (inB (0 : Int32) (cLen g1)) (ck (inB (0 : Int32) (cLen g1)) (nm (pA σ g1 (upd (gA σ g1) (0 : Int32).toNatClampNeg ((gA σ g1 (0 : Int32).toNatClampNeg) + (1 : Int32)))) (fun σ2 => (bnd (f_L_more g0 g1 y1 σ2) (fun r3 => (nm (fun (t0_26 : Bool) => (ck (inB ((11 : Int32) + y1) (cLen g1)) (ck (inB ((11 : Int32) + y1) (cLen g1)) (nm (pA σ2 g1 (upd (gA σ2 g1) ((11 : Int32) + y1).toNatClampNeg ((gA σ2 g1 ((11 : Int32) + y1).toNatClampNeg) + (1 : Int32)))) (fun σ4 => (nm (fun (σj91 : Sg) => (ck (inB ((17 : Int32) + y1) (cLen g1)) (if (gA σj91 g1 ((17 : Int32) + y1).toNatClampNeg) < 0 then
    (some ((0 : Int32), σj91))
    else
    (some ((1 : Int32), σj91)))))
    (fun k91 => (bf t0_26
    (ck (inB ((5 : Int32) + y1) (cLen g1)) (ck (inB ((17 : Int32) + y1) (cLen g1)) (nm (pA σ4 g1 (upd (gA σ4 g1) ((17 : Int32) + y1).toNatClampNeg (gA σ4 g1 ((5 : Int32) + y1).toNatClampNeg))) (fun σ5 => (ck (inB (4 : Int32) (cLen g1)) (ck (inB ((2 : Int32) + y1) (cLen g0)) (bnd (f_L_pays (gA σ5 g0 ((2 : Int32) + y1).toNatClampNeg)) (fun r6 => (nm (fun (t0_90 : Int32) => (ck (inB (4 : Int32) (cLen g1)) (nm (pA σ5 g1 (upd (gA σ5 g1) (4 : Int32).toNatClampNeg t0_90)) (fun σ7 => (k91 σ7)))))
    (fun k90 => (if (9999 : Int32) ≤ ((gA σ5 g1 (4 : Int32).toNatClampNeg) + r6) then
    (k90 (9999 : Int32))
    else
    (ck (inB (4 : Int32) (cLen g1)) (ck (inB ((2 : Int32) + y1) (cLen g0)) (bnd (f_L_pays (gA σ5 g0 ((2 : Int32) + y1).toNatClampNeg)) (fun r8 => (k90 ((gA σ5 g1 (4 : Int32).toNatClampNeg) + r8)))))))))))))))))
    (k91 σ4)))))))))
    (fun k26 => (if r3 = (1 : Int32) then
    (k26 true)
    else
    (k26 false)))))))))))))
def l_L_night_25 (b0 : Nat) (a1 : Int32) (k52 : Sg → Option (Int32 × Sg)) : Nat → Int32 → Sg → Option (Int32 × Sg)
  | 0, _, _ => none
  | N1 + 1, x2, σx =>
    (if (6 : Int32) ≤ x2 then
    (k52 σx)
    else
    (ck (inB ((11 : Int32) + x2) (cLen b0)) (nm (pA σx b0 (upd (gA σx b0) ((11 : Int32) + x2).toNatClampNeg (0 : Int32))) (fun σ6 => (ck (inB ((17 : Int32) + x2) (cLen b0)) (nm (pA σ6 b0 (upd (gA σ6 b0) ((17 : Int32) + x2).toNatClampNeg (-9 : Int32))) (fun σ7 => (nm (x2 + (1 : Int32)) (fun y8 => (l_L_night_25 b0 a1 k52 N1 y8 σ7))))))))))
def f_L_night (g0 : Nat) (σ : Sg) : Option (Int32 × Sg) :=
    (bnd (f_L_awake g0 σ) (fun r1 => (bnd (f_L_bits r1) (fun r2 => (ck (inB (0 : Int32) (cLen g0)) (nm (pA σ g0 (upd (gA σ g0) (0 : Int32).toNatClampNeg (0 : Int32))) (fun σ3 => (ck (inB (1 : Int32) (cLen g0)) (ck (inB (1 : Int32) (cLen g0)) (nm (pA σ3 g0 (upd (gA σ3 g0) (1 : Int32).toNatClampNeg ((gA σ3 g0 (1 : Int32).toNatClampNeg) + (1 : Int32)))) (fun σ4 => (ck (inB (2 : Int32) (cLen g0)) (nm (pA σ4 g0 (upd (gA σ4 g0) (2 : Int32).toNatClampNeg (0 : Int32))) (fun σ5 => (l_L_night_25 g0 r2 
    (fun (σv52 : Sg) => (some (r2, σv52))) FU (0 : Int32) σ5)))))))))))))))
def f_L_deed (i1 : Int32) (g2 : Nat) (g3 : Nat) (σ : Sg) : Option (Int32 × Sg) :=
    (bnd (f_L_low i1 (14 : Int32)) (fun r1 => (bnd (f_X5_count (3 : Int32) σ) (fun r2 => (nm (fun (t0_23 : Bool) => (ck (inB (1 : Int32) (cLen g2)) (bnd (f_L_low (i1 >>> ((4 : Int32) &&& 31)) (gA σ g2 (1 : Int32).toNatClampNeg)) (fun r3 => (if (3 : Int32) ≤ r1 then
    (if (9 : Int32) ≤ r1 then
    (if (11 : Int32) ≤ r1 then
    (if (13 : Int32) ≤ r1 then
    (nm (fun (t0_478 : Int32) (σj478 : Sg) => (bnd2 (f_X5_night σj478) (fun r4 σ4 => (if r4 = t0_478 then
    (bf t0_23
    (some ((0 : Int32), σ4))
    (some ((1 : Int32), σ4)))
    else
    (some ((-1 : Int32), σ4))))))
    (fun k478 => (bf t0_23
    (k478 (-2 : Int32) σ)
    (bnd2 (f_L_night g3 σ) (fun r5 σ5 => (k478 r5 σ5))))))
    else
    (bnd (f_L_low (i1 >>> ((20 : Int32) &&& 31)) (9 : Int32)) (fun r6 => (nm (fun (t0_380 : Int32) => (bnd (f_L_low (i1 >>> ((7 : Int32) &&& 31)) t0_380) (fun r7 => (nm (fun (t0_420 : Int32) => (nm (fun (t0_437 : Int32) => (ck (inB (3 : Int32) (cLen g3)) (nm (pA σ g3 (upd (gA σ g3) (3 : Int32).toNatClampNeg t0_437)) (fun σ8 => (bnd2 (f_X5_frost r7 σ8) (fun r9 σ9 => (if r9 = t0_420 then
    (if 0 ≤ t0_420 then
    (some ((1 : Int32), σ9))
    else
    (some ((0 : Int32), σ9)))
    else
    (some ((-1 : Int32), σ9)))))))))
    (fun k437 => (if 0 ≤ t0_420 then
    (k437 r7)
    else
    (ck (inB (3 : Int32) (cLen g3)) (k437 (gA σ g3 (3 : Int32).toNatClampNeg)))))))
    (fun k420 => (if r7 ≤ (1 : Int32) then
    (ck (inB (3 : Int32) (cLen g3)) (if r7 = (gA σ g3 (3 : Int32).toNatClampNeg) then
    (k420 (-4 : Int32))
    else
    (bf t0_23
    (k420 (-2 : Int32))
    (k420 r7))))
    else
    (k420 (-1 : Int32))))))))
    (fun k380 => (if r6 = 0 then
    (k380 (3 : Int32))
    else
    (k380 (2 : Int32))))))))
    else
    (bnd (f_L_low (i1 >>> ((20 : Int32) &&& 31)) (9 : Int32)) (fun r10 => (nm (fun (t0_203 : Int32) => (bnd (f_L_low (i1 >>> ((7 : Int32) &&& 31)) t0_203) (fun r11 => (bnd (f_L_low (i1 >>> ((21 : Int32) &&& 31)) (3 : Int32)) (fun r12 => (nm (fun (t0_236 : Int32) => (ck (inB ((5 : Int32) + r3) (cLen g3)) (nm (gA σ g3 ((5 : Int32) + r3).toNatClampNeg) (fun y13 => (nm (fun (t0_281 : Int32) => (nm (fun (t0_300 : Int32) => (ck (inB ((5 : Int32) + r3) (cLen g3)) (nm (pA σ g3 (upd (gA σ g3) ((5 : Int32) + r3).toNatClampNeg t0_300)) (fun σ14 => (nm (fun (t0_323 : Int32) => (ck (inB ((11 : Int32) + r3) (cLen g3)) (nm (pA σ14 g3 (upd (gA σ14 g3) ((11 : Int32) + r3).toNatClampNeg t0_323)) (fun σ15 => (bnd2 (f_X5_slate r3 t0_236 σ15) (fun r16 σ16 => (if r16 = t0_281 then
    (if 0 ≤ t0_281 then
    (some ((1 : Int32), σ16))
    else
    (some ((0 : Int32), σ16)))
    else
    (some ((-1 : Int32), σ16)))))))))
    (fun k323 => (if 0 ≤ t0_281 then
    (k323 (0 : Int32))
    else
    (ck (inB ((11 : Int32) + r3) (cLen g3)) (k323 (gA σ14 g3 ((11 : Int32) + r3).toNatClampNeg))))))))))
    (fun k300 => (if 0 ≤ t0_281 then
    (k300 t0_236)
    else
    (k300 y13)))))
    (fun k281 => (if t0_236 ≤ (99 : Int32) then
    (if t0_236 = y13 then
    (k281 (-4 : Int32))
    else
    (bf t0_23
    (k281 (-2 : Int32))
    (k281 y13)))
    else
    (k281 (-1 : Int32)))))))))
    (fun k236 => (if r12 = 0 then
    (bnd (f_L_low (i1 >>> ((7 : Int32) &&& 31)) (10 : Int32)) (fun r17 => (k236 ((40 : Int32) + r17))))
    else
    (k236 r11)))))))))
    (fun k203 => (if r10 = 0 then
    (k203 (102 : Int32))
    else
    (k203 (100 : Int32))))))))
    else
    (nm (fun (t0_147 : Int32) (σj147 : Sg) => (bnd2 (f_X5_tap σj147) (fun r18 σ18 => (if r18 = t0_147 then
    (bf t0_23
    (some ((0 : Int32), σ18))
    (some ((1 : Int32), σ18)))
    else
    (some ((-1 : Int32), σ18))))))
    (fun k147 => (bf t0_23
    (k147 (-2 : Int32) σ)
    (bnd2 (f_L_tap g2 g3 σ) (fun r19 σ19 => (k147 r19 σ19)))))))
    else
    (ck (inB (2 : Int32) (cLen g3)) (nm (fun (t0_55 : Bool) => (nm (fun (σj73 : Sg) => (bnd2 (f_X5_walk r3 σj73) (fun r20 σ20 => (nm (fun (t0_102 : Int32) => (if r20 = t0_102 then
    (bf t0_55
    (some ((0 : Int32), σ20))
    (bf t0_23
    (some ((0 : Int32), σ20))
    (some ((1 : Int32), σ20))))
    else
    (some ((-1 : Int32), σ20))))
    (fun k102 => (bf t0_55
    (k102 (-4 : Int32))
    (bf t0_23
    (k102 (-2 : Int32))
    (ck (inB (0 : Int32) (cLen g3)) (k102 (gA σ20 g3 (0 : Int32).toNatClampNeg))))))))))
    (fun k73 => (bf t0_55
    (k73 σ)
    (bf t0_23
    (k73 σ)
    (bnd (f_L_walk g3 r3 σ) (fun σ21 => (k73 σ21))))))))
    (fun k55 => (if r3 = (gA σ g3 (2 : Int32).toNatClampNeg) then
    (k55 true)
    else
    (k55 false))))))))))
    (fun k23 => (if r2 = (40 : Int32) then
    (k23 true)
    else
    (k23 false))))))))
def l_L_same_107 (b1 : Nat) (b2 : Nat) (k327 : Int32 → Int32 → Bool → Sg → Option (Bool × Sg)) : Nat → Int32 → Int32 → Bool → Int32 → Sg → Option (Bool × Sg)
  | 0, _, _, _, _, _ => none
  | N1 + 1, x3, x4, x5, x6, σx =>
    (ck (inB (1 : Int32) (cLen b1)) (if (gA σx b1 (1 : Int32).toNatClampNeg) ≤ x6 then
    (k327 x3 x4 x5 σx)
    else
    (ck (inB ((2 : Int32) + x6) (cLen b1)) (nm (gA σx b1 ((2 : Int32) + x6).toNatClampNeg) (fun y2 => (nm (fun (t0_141 : Bool) => (nm (x3 + (b2i t0_141)) (fun y3 => (nm (fun (t0_162 : Bool) => (nm (x4 + (b2i t0_162)) (fun y4 => (nm (fun (t0_319 : Bool) (σj319 : Sg) => (nm (x6 + (1 : Int32)) (fun y5 => (l_L_same_107 b1 b2 k327 N1 y3 y4 t0_319 y5 σj319))))
    (fun k319 => (nm (fun (σj318 : Sg) => (k319 false σj318))
    (fun k318 => (bf x5
    (bnd2 (f_X5_house x6 (0 : Int32) σx) (fun r6 σ6 => (if r6 = (1 : Int32) then
    (bnd (f_X5_asked σ6) (fun r7 => (if r7 = y2 then
    (bnd2 (f_X5_house x6 (1 : Int32) σ6) (fun r8 σ8 => (if r8 = (1 : Int32) then
    (bnd (f_X5_asked σ8) (fun r9 => (ck (inB ((5 : Int32) + x6) (cLen b2)) (if r9 = (gA σ8 b2 ((5 : Int32) + x6).toNatClampNeg) then
    (bnd2 (f_X5_house x6 (2 : Int32) σ8) (fun r10 σ10 => (if r10 = (1 : Int32) then
    (bnd (f_X5_asked σ10) (fun r11 => (ck (inB ((8 : Int32) + x6) (cLen b1)) (if r11 = (gA σ10 b1 ((8 : Int32) + x6).toNatClampNeg) then
    (bnd2 (f_X5_house x6 (3 : Int32) σ10) (fun r12 σ12 => (if r12 = (1 : Int32) then
    (bnd (f_X5_asked σ12) (fun r13 => (ck (inB ((11 : Int32) + x6) (cLen b2)) (if r13 = (gA σ12 b2 ((11 : Int32) + x6).toNatClampNeg) then
    (bnd2 (f_X5_house x6 (4 : Int32) σ12) (fun r14 σ14 => (if r14 = (1 : Int32) then
    (bnd (f_X5_asked σ14) (fun r15 => (ck (inB ((17 : Int32) + x6) (cLen b2)) (if r15 = (gA σ14 b2 ((17 : Int32) + x6).toNatClampNeg) then
    (bnd2 (f_X5_house x6 (5 : Int32) σ14) (fun r16 σ16 => (if r16 = (1 : Int32) then
    (bnd (f_X5_asked σ16) (fun r17 => (bnd (f_L_more b1 b2 x6 σ16) (fun r18 => (if r17 = r18 then
    (k319 true σ16)
    else
    (k318 σ16))))))
    else
    (k318 σ16))))
    else
    (k318 σ14)))))
    else
    (k318 σ14))))
    else
    (k318 σ12)))))
    else
    (k318 σ12))))
    else
    (k318 σ10)))))
    else
    (k318 σ10))))
    else
    (k318 σ8)))))
    else
    (k318 σ8))))
    else
    (k318 σ6))))
    else
    (k318 σ6))))
    (k318 σx)))))))))
    (fun k162 => (nm (k162 true)
    (fun k157 => (if y2 = (2 : Int32) then
    k157
    else
    (if y2 = (5 : Int32) then
    k157
    else
    (k162 false))))))))))
    (fun k141 => (nm (k141 true)
    (fun k136 => (if y2 = (1 : Int32) then
    k136
    else
    (if y2 = (4 : Int32) then
    k136
    else
    (k141 false))))))))))))
def f_L_same (g1 : Nat) (g2 : Nat) (σ : Sg) : Option (Bool × Sg) :=
    (bnd (f_X5_count (0 : Int32) σ) (fun r1 => (ck (inB (1 : Int32) (cLen g1)) (nm (fun (t0_102 : Bool) => (l_L_same_107 g1 g2 
    (fun (v3_327 : Int32) (v4_327 : Int32) (v5_327 : Bool) (σv327 : Sg) => (bf v5_327
    (bnd (f_X5_count (8 : Int32) σv327) (fun r19 => (if r19 = v3_327 then
    (bnd (f_X5_count (9 : Int32) σv327) (fun r20 => (if r20 = v4_327 then
    (some (true, σv327))
    else
    (some (false, σv327)))))
    else
    (some (false, σv327)))))
    (some (false, σv327)))) FU (0 : Int32) (0 : Int32) t0_102 (0 : Int32) σ))
    (fun k102 => (nm (k102 false)
    (fun k101 => (if r1 = (gA σ g1 (1 : Int32).toNatClampNeg) then
    (bnd (f_X5_count (1 : Int32) σ) (fun r21 => (ck (inB (0 : Int32) (cLen g2)) (if r21 = (gA σ g2 (0 : Int32).toNatClampNeg) then
    (bnd (f_X5_count (2 : Int32) σ) (fun r22 => (ck (inB (1 : Int32) (cLen g2)) (if r22 = (gA σ g2 (1 : Int32).toNatClampNeg) then
    (bnd (f_X5_count (4 : Int32) σ) (fun r23 => (ck (inB (2 : Int32) (cLen g2)) (if r23 = (gA σ g2 (2 : Int32).toNatClampNeg) then
    (bnd (f_X5_count (5 : Int32) σ) (fun r24 => (ck (inB (3 : Int32) (cLen g2)) (if r24 = (gA σ g2 (3 : Int32).toNatClampNeg) then
    (bnd (f_X5_count (6 : Int32) σ) (fun r25 => (bnd (f_L_awake g2 σ) (fun r26 => (if r25 = r26 then
    (bnd (f_X5_count (7 : Int32) σ) (fun r27 => (ck (inB (4 : Int32) (cLen g2)) (if r27 = (gA σ g2 (4 : Int32).toNatClampNeg) then
    (bnd (f_X5_count (13 : Int32) σ) (fun r28 => (ck (inB (0 : Int32) (cLen g1)) (if r28 = (gA σ g1 (0 : Int32).toNatClampNeg) then
    (k102 true)
    else
    k101))))
    else
    k101))))
    else
    k101)))))
    else
    k101))))
    else
    k101))))
    else
    k101))))
    else
    k101))))
    else
    k101))))))))
def l_L_law_119 (L : Nat) (xs : Nat → Int32) (a5 : Int32) (a6 : Int32) (a7 : Int32) (a8 : Int32) (a9 : Int32) (a10 : Int32) (a11 : Int32) (k356 : Int32 → Sg → Option Bool) : Nat → Int32 → Int32 → Sg → Option Bool
  | 0, _, _, _ => none
  | N1 + 1, x12, x13, σx =>
    (ck (inB (1 : Int32) (cLen 41)) (if (gA σx 41 (1 : Int32).toNatClampNeg) ≤ x13 then
    (k356 x12 σx)
    else
    (bnd2 (f_X5_house x13 (4 : Int32) σx) (fun r9 σ9 => (if r9 = (1 : Int32) then
    (bnd (f_X5_asked σ9) (fun r10 => (bnd (f_L_has a11 x13) (fun r11 => (nm (fun (t0_171 : Bool) => (nm (fun (t0_190 : Int32) => (nm (x12 + t0_190) (fun y12 => (nm (fun (t0_203 : Bool) => (bnd (f_L_has a11 x13) (fun r13 => (if (b2i t0_203) = (b2i r13) then
    (nm (ck (inB ((2 : Int32) + x13) (cLen 41)) (nm (bnd (f_L_has a10 x13) (fun r14 => (nm (bnd2 (f_X5_house x13 (5 : Int32) σ9) (fun r15 σ15 => (if r15 = (1 : Int32) then
    (bnd (f_X5_asked σ15) (fun r16 => (nm (fun (t0_330 : Bool) => (bnd (f_L_has a11 x13) (fun r17 => (if (b2i t0_330) = (b2i r17) then
    (bnd (f_X5_asked σ15) (fun r18 => (if r18 ≤ (5 : Int32) then
    (nm (x13 + (1 : Int32)) (fun y19 => (l_L_law_119 L xs a5 a6 a7 a8 a9 a10 a11 k356 N1 y12 y19 σ15)))
    else
    (some false))))
    else
    (some false)))))
    (fun k330 => (if r16 = 0 then
    (k330 true)
    else
    (k330 false))))))
    else
    (some false))))
    (fun k307 => (bf r14
    (bnd (f_L_has a11 x13) (fun r20 => (bf r20
    (ck (inB ((17 : Int32) + x13) (cLen 43)) (if r10 = (gA σ9 43 ((17 : Int32) + x13).toNatClampNeg) then
    k307
    else
    (some false)))
    k307)))
    k307)))))
    (fun k272 => (if (gA σ9 41 ((2 : Int32) + x13).toNatClampNeg) = (3 : Int32) then
    (bnd (f_L_has a11 x13) (fun r21 => (bf r21
    (some false)
    k272)))
    else
    k272))))
    (fun k252 => (bf t0_171
    (if a8 < (3 : Int32) then
    (some false)
    else
    (if (8 : Int32) < a8 then
    (some false)
    else
    (ck (inB ((5 : Int32) + x13) (cLen 43)) (if r10 = (gA σ9 43 ((5 : Int32) + x13).toNatClampNeg) then
    (ck (inB (2 : Int32) (cLen 43)) (if x13 = (gA σ9 43 (2 : Int32).toNatClampNeg) then
    k252
    else
    (some false)))
    else
    (some false)))))
    k252)))
    else
    (some false)))))
    (fun k203 => (if r10 < 0 then
    (k203 false)
    else
    (k203 true)))))))
    (fun k190 => (bf t0_171
    (bnd (f_X5_pays x13 σ9) (fun r22 => (k190 r22)))
    (k190 (0 : Int32))))))
    (fun k171 => (nm (k171 false)
    (fun k170 => (bf r11
    (bnd (f_L_has a10 x13) (fun r23 => (bf r23
    k170
    (k171 true))))
    k170)))))))))
    else
    (some false))))))
def l_L_law_41 (L : Nat) (xs : Nat → Int32) (k533 : Sg → Option Bool) : Nat → Int32 → Sg → Option Bool
  | 0, _, _ => none
  | N1 + 1, x5, σx =>
    (if (14 : Int32) ≤ x5 then
    (k533 σx)
    else
    (bnd (f_L_copy 42 43 σx) (fun σ2 => (bnd (f_L_cell L xs ((7 : Int32) + x5) σ2) (fun r3 => (bnd (f_X5_count (3 : Int32) σ2) (fun r4 => (bnd (f_L_low r3 (14 : Int32)) (fun r5 => (bnd2 (f_L_deed r3 41 42 σ2) (fun r6 σ6 => (if 0 ≤ r6 then
    (bnd (f_L_awake 43 σ6) (fun r7 => (bnd (f_X5_count (6 : Int32) σ6) (fun r8 => (l_L_law_119 L xs x5 r3 r4 r5 r6 r7 r8 
    (fun (v12_356 : Int32) (σv356 : Sg) => (bnd (f_X5_count (1 : Int32) σv356) (fun r24 => (ck (inB (0 : Int32) (cLen 43)) (nm (r24 - (gA σv356 43 (0 : Int32).toNatClampNeg)) (fun y25 => (bnd (f_X5_count (7 : Int32) σv356) (fun r26 => (ck (inB (4 : Int32) (cLen 43)) (if r26 = ((gA σv356 43 (4 : Int32).toNatClampNeg) + v12_356) then
    (nm (nm (bnd (f_X5_count (4 : Int32) σv356) (fun r27 => (ck (inB (1 : Int32) (cLen 41)) (if r27 < (gA σv356 41 (1 : Int32).toNatClampNeg) then
    (nm (fun (σj527 : Sg) => (nm (x5 + (1 : Int32)) (fun y28 => (l_L_law_41 L xs k533 N1 y28 σj527))))
    (fun k527 => (if r6 = (1 : Int32) then
    (bnd (f_X5_count (3 : Int32) σv356) (fun r29 => (if r29 = (r4 + (1 : Int32)) then
    (bnd2 (f_X5_undo r4 σv356) (fun r30 σ30 => (if r30 = (1 : Int32) then
    (bnd2 (f_L_same 41 43 σ30) (fun r31 σ31 => (bf r31
    (bnd2 (f_L_deed r3 41 43 σ31) (fun r32 σ32 => (if r32 = (1 : Int32) then
    (k527 σ32)
    else
    (some false))))
    (some false))))
    else
    (some false))))
    else
    (some false))))
    else
    (k527 σv356))))
    else
    (some false)))))
    (fun k461 => (if r6 = 0 then
    (if y25 = 0 then
    k461
    else
    (some false))
    else
    k461)))
    (fun k451 => (if r6 = (1 : Int32) then
    (nm (nm (if r5 ≤ (8 : Int32) then
    k451
    else
    (if (13 : Int32) ≤ r5 then
    k451
    else
    (if y25 = 0 then
    k451
    else
    (some false))))
    (fun k432 => (if r5 ≤ (2 : Int32) then
    k432
    else
    (if (9 : Int32) ≤ r5 then
    k432
    else
    (if y25 = (1 : Int32) then
    k432
    else
    (some false))))))
    (fun k413 => (if (3 : Int32) ≤ r5 then
    k413
    else
    (bnd (f_X5_count (4 : Int32) σv356) (fun r33 => (ck (inB (2 : Int32) (cLen 43)) (bnd (f_L_far r33 (gA σv356 43 (2 : Int32).toNatClampNeg)) (fun r34 => (if y25 = r34 then
    k413
    else
    (some false))))))))))
    else
    k451)))
    else
    (some false))))))))))) FU (0 : Int32) (0 : Int32) σ6)))))
    else
    (some false)))))))))))))
def l_L_law_571 (L : Nat) (xs : Nat → Int32) (a5 : Int32) (a6 : Int32) (σ : Sg) (k735 : Option Bool) : Nat → Int32 → Option Bool
  | 0, _ => none
  | N1 + 1, x7 =>
    (ck (inB (1 : Int32) (cLen 41)) (if (gA σ 41 (1 : Int32).toNatClampNeg) ≤ x7 then
    k735
    else
    (bnd (f_X5_takes x7 a6 σ) (fun r40 => (ck (inB ((2 : Int32) + x7) (cLen 41)) (nm (gA σ 41 ((2 : Int32) + x7).toNatClampNeg) (fun y41 => (if r40 = 0 then
    (some false)
    else
    (if r40 < (-9 : Int32) then
    (some false)
    else
    (if (5 : Int32) < r40 then
    (some false)
    else
    (nm (nm (nm (nm (bnd (f_X5_pays x7 σ) (fun r42 => (if (5 : Int32) < r42 then
    (some false)
    else
    (nm (fun (t0_710 : Bool) => (bnd (f_X5_pays x7 σ) (fun r43 => (nm (fun (t0_724 : Bool) => (if (b2i t0_710) = (b2i t0_724) then
    (nm (x7 + (1 : Int32)) (fun y44 => (l_L_law_571 L xs a5 a6 σ k735 N1 y44)))
    else
    (some false)))
    (fun k724 => (if r43 = 0 then
    (k724 true)
    else
    (k724 false)))))))
    (fun k710 => (if y41 = (3 : Int32) then
    (k710 true)
    else
    (k710 false)))))))
    (fun k689 => (if y41 = (4 : Int32) then
    (if r40 ≤ 0 then
    k689
    else
    (if r40 < (3 : Int32) then
    (some false)
    else
    k689))
    else
    k689)))
    (fun k672 => (if r40 ≤ 0 then
    k672
    else
    (bnd (f_X5_who a6 r40 σ) (fun r45 => (if ((r45 >>> (x7 &&& 31)) &&& (1 : Int32)) = 0 then
    (some false)
    else
    k672))))))
    (fun k651 => (if y41 = (5 : Int32) then
    (nm (fun (t0_648 : Int32) => (if r40 = t0_648 then
    k651
    else
    (some false)))
    (fun k648 => (if (50 : Int32) ≤ a6 then
    (k648 (1 : Int32))
    else
    (k648 (2 : Int32)))))
    else
    k651)))
    (fun k628 => (if y41 = (3 : Int32) then
    (if r40 = (-9 : Int32) then
    k628
    else
    (some false))
    else
    k628)))))))))))))
def l_L_law_744 (L : Nat) (xs : Nat → Int32) (a5 : Int32) (k802 : Int32 → Bool → Sg → Option Bool) : Nat → Int32 → Bool → Int32 → Sg → Option Bool
  | 0, _, _, _, _ => none
  | N1 + 1, x7, x8, x9, σx =>
    (ck (inB (1 : Int32) (cLen 41)) (if (gA σx 41 (1 : Int32).toNatClampNeg) ≤ x9 then
    (k802 x7 x8 σx)
    else
    (bnd (f_X5_soonest ((1 : Int32) <<< (x9 &&& 31)) σx) (fun r46 => (nm (fun (u7_772 : Int32) => (bnd2 (f_X5_intime ((1 : Int32) <<< (x9 &&& 31)) (2 : Int32) σx) (fun r47 σ47 => (nm (fun (t0_794 : Bool) => (nm (x9 + (1 : Int32)) (fun y48 => (l_L_law_744 L xs a5 k802 N1 u7_772 t0_794 y48 σ47))))
    (fun k794 => (if r47 ≤ 0 then
    (k794 x8)
    else
    (k794 true)))))))
    (fun k772 => (if r46 ≤ 0 then
    (k772 x7)
    else
    (nm (x7 ||| ((1 : Int32) <<< (x9 &&& 31))) (fun y49 => (k772 y49))))))))))
def l_L_law_1165 (L : Nat) (xs : Nat → Int32) (a5 : Int32) (σ : Sg) (k1202 : Int32 → Option Bool) : Nat → Int32 → Int32 → Option Bool
  | 0, _, _ => none
  | N1 + 1, x15, x16 =>
    (ck (inB (1 : Int32) (cLen 41)) (if (gA σ 41 (1 : Int32).toNatClampNeg) ≤ (x16 + (1 : Int32)) then
    (k1202 x15)
    else
    (ck (inB ((5 : Int32) + x16) (cLen 42)) (ck (inB ((6 : Int32) + x16) (cLen 42)) (bnd (f_L_far (gA σ 42 ((5 : Int32) + x16).toNatClampNeg) (gA σ 42 ((6 : Int32) + x16).toNatClampNeg)) (fun r62 => (nm (x15 + r62) (fun y63 => (nm (x16 + (1 : Int32)) (fun y64 => (l_L_law_1165 L xs a5 σ k1202 N1 y63 y64)))))))))))
def l_L_law_1221 (L : Nat) (xs : Nat → Int32) (a5 : Int32) (a15 : Int32) (a16 : Int32) (k1296 : Int32 → Int32 → Sg → Option Bool) : Nat → Int32 → Int32 → Int32 → Int32 → Sg → Option Bool
  | 0, _, _, _, _, _ => none
  | N1 + 1, x17, x18, x19, x20, σx =>
    (ck (inB (1 : Int32) (cLen 41)) (if (gA σx 41 (1 : Int32).toNatClampNeg) ≤ x20 then
    (k1296 x17 x18 σx)
    else
    (bnd2 (f_X5_at (3 : Int32) x20 σx) (fun r66 σ66 => (if r66 = (1 : Int32) then
    (bnd (f_X5_asked σ66) (fun r67 => (nm (fun (t0_1274 : Int32) => (nm (x17 + t0_1274) (fun y68 => (nm (x18 ||| ((1 : Int32) <<< (r67 &&& 31))) (fun y69 => (nm (x20 + (1 : Int32)) (fun y70 => (l_L_law_1221 L xs a5 a15 a16 k1296 N1 y68 y69 r67 y70 σ66))))))))
    (fun k1274 => (if 0 ≤ x19 then
    (ck (inB ((5 : Int32) + x19) (cLen 42)) (ck (inB ((5 : Int32) + r67) (cLen 42)) (bnd (f_L_far (gA σ66 42 ((5 : Int32) + x19).toNatClampNeg) (gA σ66 42 ((5 : Int32) + r67).toNatClampNeg)) (fun r71 => (k1274 r71)))))
    else
    (k1274 (0 : Int32)))))))
    else
    (some false))))))
def l_L_law_1346 (L : Nat) (xs : Nat → Int32) (a5 : Int32) (a21 : Int32) (σ : Sg) (k1385 : Int32 → Option Bool) : Nat → Int32 → Int32 → Option Bool
  | 0, _, _ => none
  | N1 + 1, x20, x22 =>
    (ck (inB (1 : Int32) (cLen 41)) (if (gA σ 41 (1 : Int32).toNatClampNeg) ≤ x22 then
    (k1385 x20)
    else
    (bnd (f_L_has a21 x22) (fun r74 => (nm (fun (t0_1376 : Int32) => (nm (x20 + t0_1376) (fun y75 => (nm (x22 + (1 : Int32)) (fun y76 => (l_L_law_1346 L xs a5 a21 σ k1385 N1 y75 y76))))))
    (fun k1376 => (bf r74
    (bnd (f_X5_pays x22 σ) (fun r77 => (k1376 r77)))
    (k1376 (0 : Int32)))))))))
def l_L_law_1546 (L : Nat) (xs : Nat → Int32) (a5 : Int32) (a25 : Int32) (a26 : Int32) (k1700 : Sg → Option Bool) : Nat → Int64 → Int64 → Int32 → Sg → Option Bool
  | 0, _, _, _, _ => none
  | N1 + 1, x27, x29, x31, σx =>
    (if (9 : Int32) ≤ x31 then
    (k1700 σx)
    else
    (bnd2 (f_X5_odds a25 x31 a26 σx) (fun r92 σ92 => (if r92 = (1 : Int32) then
    (bnd (f_X5_upper σ92) (fun r93 => (if (lg_cmp r93 (0 : Int64)) < 0 then
    (some false)
    else
    (bnd (f_X5_lower σ92) (fun r94 => (if (lg_cmp r94 (1 : Int64)) < 0 then
    (some false)
    else
    (bnd (f_X5_upper σ92) (fun r95 => (bnd (f_X5_lower σ92) (fun r96 => (if 0 < (lg_cmp r95 r96) then
    (some false)
    else
    (bnd (f_X5_upper σ92) (fun r97 => (bnd (f_X5_lower σ92) (fun r98 => (if 0 ≤ (lg_cmp (r97 * x29) (x27 * r98)) then
    (bnd (f_X5_upper σ92) (fun r99 => (bnd (f_X5_lower σ92) (fun r100 => (bnd2 (f_X5_mid a25 x31 a26 σ92) (fun r101 σ101 => (nm (nm (nm (x31 + (1 : Int32)) (fun y102 => (l_L_law_1546 L xs a5 a25 a26 k1700 N1 r99 r100 y102 σ101)))
    (fun k1694 => (if r101 = (1 : Int32) then
    k1694
    else
    (if r101 = (-3 : Int32) then
    (if (lg_cmp r99 (0 : Int64)) = 0 then
    k1694
    else
    (some false))
    else
    (some false)))))
    (fun k1672 => (if r101 = (1 : Int32) then
    (bnd (f_X5_upper σ101) (fun r103 => (if (lg_cmp r103 (0 : Int64)) < 0 then
    (some false)
    else
    (bnd (f_X5_upper σ101) (fun r104 => (bnd (f_X5_lower σ101) (fun r105 => (if 0 < (lg_cmp r104 ((5 : Int64) * r105)) then
    (some false)
    else
    k1672))))))))
    else
    k1672)))))))))
    else
    (some false)))))))))))))))))
    else
    (some false)))))
def l_L_law_1717 (L : Nat) (xs : Nat → Int32) (a5 : Int32) (a25 : Int32) (k1798 : Sg → Option Bool) : Nat → Int32 → Sg → Option Bool
  | 0, _, _ => none
  | N1 + 1, x31, σx =>
    (if (4 : Int32) ≤ x31 then
    (k1798 σx)
    else
    (bnd (f_L_cell L xs ((26 : Int32) + x31) σx) (fun r107 => (bnd (f_L_low r107 (100 : Int32)) (fun r108 => (bnd (f_X5_takes a25 r108 σx) (fun r109 => (bnd2 (f_X5_lay (5 : Int32) ((2 : Int32) * x31) r108 σx) (fun r110 σ110 => (if r110 = (1 : Int32) then
    (nm (fun (t0_1783 : Int32) => (bnd2 (f_X5_lay (5 : Int32) (((2 : Int32) * x31) + (1 : Int32)) t0_1783 σ110) (fun r111 σ111 => (if r111 = (1 : Int32) then
    (nm (x31 + (1 : Int32)) (fun y112 => (l_L_law_1717 L xs a5 a25 k1798 N1 y112 σ111)))
    else
    (some false)))))
    (fun k1783 => (if 0 ≤ r109 then
    (k1783 r109)
    else
    (k1783 (0 : Int32)))))
    else
    (some false)))))))))))
def s_L_law_1798 (L : Nat) (xs : Nat → Int32) (z5 : Int32) (z25 : Int32) (σ : Sg) : Option Bool :=
    (bnd2 (f_X5_whose (5 : Int32) σ) (fun r113 σ113 => (bnd (f_L_has r113 z25) (fun r114 => (bf r114
    (bnd2 (f_X5_kinds (5 : Int32) σ113) (fun r115 σ115 => (ck (inB ((2 : Int32) + z25) (cLen 41)) (bnd (f_L_has r115 (gA σ115 41 ((2 : Int32) + z25).toNatClampNeg)) (fun r116 => (bf r116
    (bnd2 (f_X5_test (5 : Int32) σ115) (fun r117 σ117 => (if r117 < 0 then
    (some false)
    else
    (bnd (f_X5_asked σ117) (fun r118 => (if r118 ≤ 0 then
    (some false)
    else
    (bnd (f_X5_asked σ117) (fun r119 => (if (7 : Int32) ≤ r119 then
    (some false)
    else
    (bnd2 (f_X5_on (1 : Int32) σ117) (fun r120 σ120 => (if r120 = z5 then
    (bnd2 (f_L_same 41 42 σ120) (fun r121 σ121 => (bf r121
    (some true)
    (some false))))
    else
    (some false)))))))))))))
    (some false)))))))
    (some false))))))
def s_L_law_1700 (L : Nat) (xs : Nat → Int32) (z5 : Int32) (z25 : Int32) (σ : Sg) : Option Bool :=
    (bnd2 (f_X5_row (5 : Int32) (8 : Int32) σ) (fun r106 σ106 => (if r106 = (8 : Int32) then
    (l_L_law_1717 L xs z5 z25 
    (fun (σv1798 : Sg) => (s_L_law_1798 L xs z5 z25 σv1798)) FU (0 : Int32) σ106)
    else
    (some false))))
def s_L_law_1385 (L : Nat) (xs : Nat → Int32) (z5 : Int32) (z20 : Int32) (z21 : Int32) (σ : Sg) : Option Bool :=
    (bnd2 (f_X5_sets z20 σ) (fun r78 σ78 => (if r78 = (1 : Int32) then
    (bnd (f_X5_upper σ78) (fun r79 => (if (lg_cmp r79 (1 : Int64)) < 0 then
    (some false)
    else
    (bnd (f_X5_asked σ78) (fun r80 => (if r80 ≤ z21 then
    (bnd (f_X5_asked σ78) (fun r81 => (bnd2 (f_X5_sure z20 σ78) (fun r82 σ82 => (bnd (f_X5_asked σ82) (fun r83 => (if (r82 &&& (z21 ^^^ (-1 : Int32))) = 0 then
    (if (r82 &&& (r81 ^^^ (-1 : Int32))) = 0 then
    (if (r83 &&& z21) = 0 then
    (if (r83 &&& r82) = 0 then
    (bnd2 (f_X5_duel (2 : Int32) σ82) (fun r84 σ84 => (if r84 = (1 : Int32) then
    (bnd (f_X5_asked σ84) (fun r85 => (if (3 : Int32) < r85 then
    (some false)
    else
    (bnd (f_X5_asked σ84) (fun r86 => (if r86 < (-3 : Int32) then
    (some false)
    else
    (bnd2 (f_X5_duel (0 : Int32) σ84) (fun r87 σ87 => (if r87 = (1 : Int32) then
    (bnd (f_L_cell L xs (24 : Int32) σ87) (fun r88 => (ck (inB (1 : Int32) (cLen 41)) (bnd (f_L_low r88 (gA σ87 41 (1 : Int32).toNatClampNeg)) (fun r89 => (bnd (f_L_cell L xs (25 : Int32) σ87) (fun r90 => (bnd (f_L_low r90 (13 : Int32)) (fun r91 => (l_L_law_1546 L xs z5 r89 r91 
    (fun (σv1700 : Sg) => (s_L_law_1700 L xs z5 r89 σv1700)) FU (0 : Int64) (1 : Int64) (0 : Int32) σ87))))))))))
    else
    (some false))))))))))
    else
    (some false))))
    else
    (some false))
    else
    (some false))
    else
    (some false))
    else
    (some false))))))))
    else
    (some false)))))))
    else
    (some false))))
def s_L_law_1296 (L : Nat) (xs : Nat → Int32) (z5 : Int32) (z15 : Int32) (z16 : Int32) (z17 : Int32) (z18 : Int32) (σ : Sg) : Option Bool :=
    (if z15 < z16 then
    (some false)
    else
    (if z17 = z16 then
    (ck (inB (1 : Int32) (cLen 41)) (if z18 = (((1 : Int32) <<< ((gA σ 41 (1 : Int32).toNatClampNeg) &&& 31)) - (1 : Int32)) then
    (bnd (f_L_cell L xs (23 : Int32) σ) (fun r72 => (ck (inB (1 : Int32) (cLen 41)) (bnd (f_L_low r72 ((1 : Int32) <<< ((gA σ 41 (1 : Int32).toNatClampNeg) &&& 31))) (fun r73 => (l_L_law_1346 L xs z5 r73 σ 
    (fun (v20_1385 : Int32) => (s_L_law_1385 L xs z5 v20_1385 r73 σ)) FU (0 : Int32) (0 : Int32)))))))
    else
    (some false)))
    else
    (some false)))
def s_L_law_1202 (L : Nat) (xs : Nat → Int32) (z5 : Int32) (z15 : Int32) (σ : Sg) : Option Bool :=
    (bnd2 (f_X5_dates (3 : Int32) σ) (fun r65 σ65 => (l_L_law_1221 L xs z5 z15 r65 
    (fun (v17_1296 : Int32) (v18_1296 : Int32) (σv1296 : Sg) => (s_L_law_1296 L xs z5 z15 r65 v17_1296 v18_1296 σv1296)) FU (0 : Int32) (0 : Int32) (-1 : Int32) (0 : Int32) σ65)))
def l_L_law_982 (L : Nat) (xs : Nat → Int32) (a5 : Int32) (a7 : Int32) (a8 : Bool) (a9 : Int32) (a11 : Int32) (a12 : Int32) (a13 : Int32) (a15 : Int32) (a16 : Int32) (k1013 : Int32 → Sg → Option Bool) : Nat → Int32 → Int32 → Sg → Option Bool
  | 0, _, _, _ => none
  | N1 + 1, x17, x18, σx =>
    (if (6 : Int32) ≤ x18 then
    (k1013 x17 σx)
    else
    (if x17 = 0 then
    (bnd2 (f_X5_tap σx) (fun r126 σ126 => (if 0 ≤ r126 then
    (nm (x18 + (1 : Int32)) (fun y127 => (l_L_law_982 L xs a5 a7 a8 a9 a11 a12 a13 a15 a16 k1013 N1 r126 y127 σ126)))
    else
    (some false))))
    else
    (k1013 x17 σx)))
def l_L_law_924 (L : Nat) (xs : Nat → Int32) (a5 : Int32) (a7 : Int32) (a8 : Bool) (a9 : Int32) (a11 : Int32) (a12 : Int32) (a13 : Int32) (k1047 : Bool → Sg → Option Bool) : Nat → Bool → Int32 → Sg → Option Bool
  | 0, _, _, _ => none
  | N1 + 1, x14, x15, σx =>
    (if a13 ≤ x15 then
    (k1047 x14 σx)
    else
    (bf x14
    (bnd2 (f_X5_at (2 : Int32) x15 σx) (fun r123 σ123 => (if r123 = (1 : Int32) then
    (bnd (f_X5_asked σ123) (fun r124 => (bnd (f_X5_count (4 : Int32) σ123) (fun r125 => (nm (fun (σj976 : Sg) => (l_L_law_982 L xs a5 a7 a8 a9 a11 a12 a13 x15 r124 
    (fun (v17_1013 : Int32) (σv1013 : Sg) => (nm (fun (t0_1039 : Bool) => (nm (x15 + (1 : Int32)) (fun y128 => (l_L_law_924 L xs a5 a7 a8 a9 a11 a12 a13 k1047 N1 t0_1039 y128 σv1013))))
    (fun k1039 => (nm (k1039 false)
    (fun k1038 => (if v17_1013 = (1 : Int32) then
    (bnd (f_X5_count (1 : Int32) σv1013) (fun r129 => (ck (inB ((8 : Int32) + r124) (cLen 41)) (if (gA σv1013 41 ((8 : Int32) + r124).toNatClampNeg) < r129 then
    k1038
    else
    (k1039 true)))))
    else
    k1038)))))) FU (0 : Int32) (0 : Int32) σj976))
    (fun k976 => (if r124 = r125 then
    (k976 σ123)
    else
    (bnd2 (f_X5_walk r124 σ123) (fun r130 σ130 => (if 0 ≤ r130 then
    (k976 σ130)
    else
    (some false)))))))))))
    else
    (some false))))
    (k1047 x14 σx)))
def s_L_law_802 (L : Nat) (xs : Nat → Int32) (z5 : Int32) (z7 : Int32) (z8 : Bool) (σ : Sg) : Option Bool :=
    (bnd (f_L_cell L xs (22 : Int32) σ) (fun r50 => (ck (inB (1 : Int32) (cLen 41)) (bnd (f_L_low r50 ((1 : Int32) <<< ((gA σ 41 (1 : Int32).toNatClampNeg) &&& 31))) (fun r51 => (nm (z7 &&& r51) (fun y52 => (bnd (f_X5_soonest y52 σ) (fun r53 => (bnd2 (f_X5_intime y52 (2 : Int32) σ) (fun r54 σ54 => (if r53 < 0 then
    (some false)
    else
    (nm (fun (t0_853 : Bool) => (nm (fun (t0_863 : Bool) => (if (b2i t0_853) = (b2i t0_863) then
    (nm (nm (bnd (f_X5_count (1 : Int32) σ54) (fun r55 => (nm (fun (σj1081 : Sg) => (bnd2 (f_X5_on (1 : Int32) σj1081) (fun r56 σ56 => (if r56 = z5 then
    (bnd2 (f_X5_many σ56) (fun r57 σ57 => (bnd (f_X5_asked σ57) (fun r58 => (if r57 < (b2i z8) then
    (some false)
    else
    (bnd (f_L_bits r58) (fun r59 => (if r57 = r59 then
    (if (r58 &&& (z7 ^^^ (-1 : Int32))) = 0 then
    (bnd2 (f_X5_intime r58 (2 : Int32) σ57) (fun r60 σ60 => (if r60 < 0 then
    (some false)
    else
    (bnd (f_L_bits y52) (fun r61 => (nm (l_L_law_1165 L xs z5 σ60 
    (fun (v15_1202 : Int32) => (s_L_law_1202 L xs z5 v15_1202 σ60)) FU (0 : Int32) (0 : Int32))
    (fun k1159 => (if r61 ≤ r57 then
    k1159
    else
    (if r54 < 0 then
    k1159
    else
    (some false))))))))))
    else
    (some false))
    else
    (some false)))))))))
    else
    (some false)))))
    (fun k1081 => (if r54 < 0 then
    (k1081 σ54)
    else
    (if (9 : Int32) ≤ z5 then
    (k1081 σ54)
    else
    (bnd (f_L_bits y52) (fun r122 => (l_L_law_924 L xs z5 z7 z8 y52 r54 r55 r122 
    (fun (v14_1047 : Bool) (σv1047 : Sg) => (bf v14_1047
    (bnd (f_X5_count (1 : Int32) σv1047) (fun r131 => (if (r131 - r55) = r54 then
    (bnd (f_X5_count (6 : Int32) σv1047) (fun r132 => (if (y52 &&& (r132 ^^^ (-1 : Int32))) = 0 then
    (k1081 σv1047)
    else
    (some false))))
    else
    (some false))))
    (some false))) FU true (0 : Int32) σ54)))))))))
    (fun k892 => (if 0 ≤ r54 then
    k892
    else
    (if r54 = (-9 : Int32) then
    k892
    else
    (some false)))))
    (fun k878 => (if r54 < 0 then
    k878
    else
    (if r54 < r53 then
    (some false)
    else
    k878))))
    else
    (some false)))
    (fun k863 => (if r53 = 0 then
    (k863 true)
    else
    (k863 false)))))
    (fun k853 => (if y52 = 0 then
    (k853 true)
    else
    (k853 false))))))))))))))))
def s_L_law_735 (L : Nat) (xs : Nat → Int32) (z5 : Int32) (σ : Sg) : Option Bool :=
    (l_L_law_744 L xs z5 
    (fun (v7_802 : Int32) (v8_802 : Bool) (σv802 : Sg) => (s_L_law_802 L xs z5 v7_802 v8_802 σv802)) FU (0 : Int32) false (0 : Int32) σ)
def s_L_law_533 (L : Nat) (xs : Nat → Int32) (σ : Sg) : Option Bool :=
    (bnd2 (f_X5_keep (1 : Int32) σ) (fun r35 σ35 => (bnd (f_X5_count (3 : Int32) σ35) (fun r36 => (if r35 = r36 then
    (bnd (f_X5_count (3 : Int32) σ35) (fun r37 => (bnd (f_L_cell L xs (21 : Int32) σ35) (fun r38 => (bnd (f_L_low r38 (100 : Int32)) (fun r39 => (l_L_law_571 L xs r37 r39 σ35 
    ((s_L_law_735 L xs r37 σ35)) FU (0 : Int32))))))))
    else
    (some false))))))
def f_L_law (L : Nat) (xs : Nat → Int32) (σ : Sg) : Option Bool :=
    (bnd2 (f_L_built L xs (0 : Int32) (5 : Int32) 41 42 σ) (fun r1 σ1 => (bf r1
    (l_L_law_41 L xs 
    (fun (σv533 : Sg) => (s_L_law_533 L xs σv533)) FU (0 : Int32) σ1)
    (some false))))
def LawEnd (p : Program) (l : Launch) (e : Env) (s : State) (m : MethodId) (args : Array Value) (below : List Frame) (meth : Method) (c : Code) (D : va_G) (ad : Nat → Nat) (cI cR : ClassId) (Q : State → Prop) : Prop := ∀ (pc : Nat) (lv : List (Nat × Value)) (σ : Sg), decode cL_law pc = .ok (.ireturn, 1) → Jd p l e room_1 s m args below meth c D 77 ad (celC cI cR ad) okC 34 Q pc lv [.int (b2i true)] σ
