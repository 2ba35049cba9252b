/-! a night and a deed in the law's arrays and in the class at once -/
theorem le_T {a b : Nat} (hb : b < 2 ^ 31) (h : a ≤ b) : (nI a ≤ nI b) = True := eq_true (nI_le h hb)
theorem le_F {a b : Nat} (ha : a < 2 ^ 31) (h : b < a) : (nI a ≤ nI b) = False := eq_false (nI_ge h ha)
theorem lt_T {a b : Nat} (hb : b < 2 ^ 31) (h : a < b) : (nI a < nI b) = True := eq_true (nI_lt h hb)
theorem lt_F {a b : Nat} (ha : a < 2 ^ 31) (h : b ≤ a) : (nI a < nI b) = False := eq_false (nI_nlt h ha)
theorem eq_F {a b : Nat} (ha : a < 2 ^ 31) (hb : b < 2 ^ 31) (h : a ≠ b) : (nI a = nI b) = False := by rw [nIeq ha hb]; exact eq_false h
theorem eq_T {a b : Nat} (h : a = b) : (nI a = nI b) = True := eq_true (by rw [h])
section LN
variable {n : Nat} {w v : Nat → Int32} {σ : Sg} {g : Nat}
theorem lnightg {K : Sg → Option (Int32 × Sg)} {r : Int32} (hg : isG g) : l_L_night_25 g r K FU 0 σ = K (pA σ g (fun x => if 11 ≤ x ∧ x < 17 then 0 else if 17 ≤ x ∧ x < 23 then -9 else gA σ g x)) := by
  have hc := cG hg
  have := (loopL (fun N j τ => l_L_night_25 g r K N (nI j) τ) K (fun j τ => pA τ g (upd (upd (gA τ g) (11 + j) 0) (17 + j) (-9))) 6 (fun j τ' => τ' = pA σ g (fun x => if 11 ≤ x ∧ x < 11 + j then 0 else if 17 ≤ x ∧ x < 17 + j then -9 else gA σ g x))
    (fun N τ' _ => by
      show l_L_night_25 g r K (N + 1) (nI 6) τ' = _
      unfold l_L_night_25
      rw [if_pos (by decide)])
    (fun N j τ' hj hI => by
      refine ⟨?_, ?_⟩
      · show l_L_night_25 g r K (N + 1) (nI j) τ' = _
        conv => lhs; unfold l_L_night_25
        rw [show (6 : Int32) = nI 6 from rfl, if_neg (nI_ge hj (by omega)), show (11 : Int32) + nI j = nI (11 + j) from nI_add 11 j, show (17 : Int32) + nI j = nI (17 + j) from nI_add 17 j, hc, inB_nI (by omega) (by decide), inB_nI (by omega) (by decide), nI_clamp (by omega), nI_clamp (by omega)]
        simp only [ckT, nmE, pA_pA, gA_same, nI_1]
      · rw [hI, pA_pA, gA_same]
        congr 1
        funext x
        unfold upd
        dsimp only
        by_cases h1 : x = 17 + j
        · rw [if_pos h1, if_neg (by omega), if_pos (by omega)]
        · rw [if_neg h1]
          by_cases h2 : x = 11 + j
          · rw [if_pos h2, if_pos (by omega)]
          · rw [if_neg h2]
            by_cases h3 : 11 ≤ x ∧ x < 11 + j
            · rw [if_pos h3, if_pos (by omega)]
            · rw [if_neg h3]
              by_cases h4 : 17 ≤ x ∧ x < 17 + j
              · rw [if_pos h4, if_neg (by omega), if_pos (by omega)]
              · rw [if_neg h4, if_neg (by omega), if_neg (by omega)])
    6 0 FU σ (by omega) (lt_FU (by omega)) (by
      rw [show (fun x => if 11 ≤ x ∧ x < 11 + 0 then (0 : Int32) else if 17 ≤ x ∧ x < 17 + 0 then -9 else gA σ g x) = gA σ g from funext fun x => by rw [if_neg (by omega), if_neg (by omega)], pA_self]))
  refine this.1.trans ?_
  rw [this.2]
theorem XR.night {X : Nat → Int32} (h : XR n v X) (hn : n ≤ 6) : XR n (nightV n v) (fun x => if 11 ≤ x ∧ x < 17 then (0 : Int32) else if 17 ≤ x ∧ x < 23 then -9 else upd (upd (upd X 0 0) 1 (X 1 + 1)) 2 0 x) := by
  unfold nightV
  refine ⟨fun k hk => ?_, fun i hi => ⟨?_, ?_, ?_⟩, fun i h1 h2 => ?_⟩
  · dsimp only
    rw [if_neg (by omega), if_neg (by omega)]
    unfold upd
    by_cases z2 : k = 2
    · subst z2; rfl
    by_cases z1 : k = 1
    · subst z1
      rw [slpV_o (by decide) (by decide) (by omega) (by omega), va_up_self, if_neg (by decide), if_pos rfl, h.1 1 (by decide)]
    by_cases z0 : k = 0
    · subst z0; rfl
    rw [if_neg z2, if_neg z1, if_neg z0, slpV_o z0 z2 (by omega) (by omega), va_up_ne _ _ z1]
    exact h.1 k hk
  · dsimp only
    rw [if_neg (by omega), if_neg (by omega), slpV_o (by omega) (by omega) (by omega) (by omega), va_up_ne _ _ (by omega)]
    unfold upd
    rw [if_neg (by omega), if_neg (by omega), if_neg (by omega)]
    exact (h.2.1 i hi).1
  · dsimp only
    rw [if_pos (by omega), slpV_t hi]
  · dsimp only
    rw [if_neg (by omega), if_pos (by omega), slpV_y hn hi]
  · dsimp only
    rw [if_neg (by omega), if_pos (by omega)]
theorem lnight_v (hg : isG g) (hX : XR n v (gA σ g)) (hv : VW n v) (hn : n ≤ 6) : ∃ f, f_L_night g σ = some (bitsV (nI (bsN (awV v) n)), pA σ g f) ∧ XR n (nightV n v) f := by
  unfold f_L_night
  rw [lawake_v hg hX hv hn, bndS, bits_v, bndS, cG hg, show inB (0 : Int32) 23 = true by decide, show inB (1 : Int32) 23 = true by decide, show inB (2 : Int32) 23 = true by decide, ckT, nmE, ckT, ckT, nmE, ckT, nmE, lnightg hg, cl0, cl1, cl2]
  simp only [pA_pA, gA_same]
  refine ⟨_, rfl, ?_⟩
  have := hX.night hn
  have e : upd (gA σ g) 0 0 1 = gA σ g 1 := by unfold upd; rw [if_neg (by decide)]
  rw [e]
  exact this
end LN
/-- which deed a cell of the script tells -/
def dSort (z : Int32) : Nat := lowK z % 14
def dHouse (n : Nat) (z : Int32) : Nat := lowK (z >>> ((4 : Int32) &&& 31)) % n
def dDate (z : Int32) : Nat := if lowK (z >>> ((21 : Int32) &&& 31)) % 3 = 0 then 40 + lowK (z >>> ((7 : Int32) &&& 31)) % 10 else lowK (z >>> ((7 : Int32) &&& 31)) % (if lowK (z >>> ((20 : Int32) &&& 31)) % 9 = 0 then 102 else 100)
def dOn (z : Int32) : Nat := lowK (z >>> ((7 : Int32) &&& 31)) % (if lowK (z >>> ((20 : Int32) &&& 31)) % 9 = 0 then 3 else 2)
def deedV (n : Nat) (v : Nat → Int32) (z : Int32) : Option Nat :=
  if dSort z < 3 then (if v 2 = nI (dHouse n z) then none else some (100 * dHouse n z))
  else if dSort z < 9 then some 1000
  else if dSort z < 11 then (if 99 < dDate z then none else if v (5 + dHouse n z) = nI (dDate z) then none else some (2000 + 100 * dHouse n z + dDate z))
  else if dSort z < 13 then (if 1 < dOn z then none else if v 3 = nI (dOn z) then none else some (3000 + dOn z))
  else some 4000
def gX (g : Nat) (f X : Nat → Int32) : Nat → Int32 := if g = 42 then f else X
def gY (g : Nat) (f Y : Nat → Int32) : Nat → Int32 := if g = 42 then Y else f
def gZ (g : Nat) (X Y : Nat → Int32) : Nat → Int32 := if g = 42 then X else Y
section LDD
variable {n : Nat} {w : Nat → Int32} {cs : List Nat} {kc : Option (List Nat)} {RS : Nat → Int32} {RA : Nat → Nat → Int32} {A : Int32} {U V : Int64} {T X Y : Nat → Int32} {σ : Sg} {g : Nat}
theorem IW.putG (h : IW n w cs kc RS RA A U V T X Y σ) (hg : isG g) (f : Nat → Int32) : IW n w cs kc RS RA A U V T (gX g f X) (gY g f Y) (pA σ g f) := by
  rcases hg with rfl | rfl
  · exact h.putX f
  · exact h.putY f
theorem IW.rd (h : IW n w cs kc RS RA A U V T X Y σ) (hg : isG g) : gA σ g = gZ g X Y := by
  rcases hg with rfl | rfl
  · exact h.x
  · exact h.y
theorem gXX (g : Nat) (X Y : Nat → Int32) : gX g (gZ g X Y) X = X := by
  unfold gX gZ
  by_cases e : g = 42
  · rw [if_pos e, if_pos e]
  · rw [if_neg e]
theorem gYY (g : Nat) (X Y : Nat → Int32) : gY g (gZ g X Y) Y = Y := by
  unfold gY gZ
  by_cases e : g = 42
  · rw [if_pos e]
  · rw [if_neg e, if_neg e]
/-- what a deed leaves -/
def DeedPost (n : Nat) (w : Nat → Int32) (cs : List Nat) (kc : Option (List Nat)) (RS : Nat → Int32) (RA : Nat → Nat → Int32) (A : Int32) (U V : Int64) (T X Y : Nat → Int32) (g : Nat) (oc : Option Nat) (x : Option (Int32 × Sg)) : Prop :=
  ∃ σ' f, x = some (if oc.isSome then 1 else 0, σ') ∧ IW n w (cs ++ oc.toList) kc RS RA A U V T (gX g f X) (gY g f Y) σ' ∧ XR n (run n (iniV w) (cs ++ oc.toList)) f
theorem deedP_n {σ' : Sg} {f : Nat → Int32} {x : Option (Int32 × Sg)} (hx : x = some (0, σ')) (h : IW n w cs kc RS RA A U V T (gX g f X) (gY g f Y) σ') (hf : XR n (run n (iniV w) cs) f) : DeedPost n w cs kc RS RA A U V T X Y g none x :=
  ⟨σ', f, hx, by rw [Option.toList_none, List.append_nil]; exact h, by rw [Option.toList_none, List.append_nil]; exact hf⟩
theorem deedP_s {σ' : Sg} {f : Nat → Int32} {x : Option (Int32 × Sg)} {c : Nat} (hx : x = some (1, σ')) (h : IW n w (cs ++ [c]) kc RS RA A U V T (gX g f X) (gY g f Y) σ') (hf : XR n (run n (iniV w) (cs ++ [c])) f) : DeedPost n w cs kc RS RA A U V T X Y g (some c) x :=
  ⟨σ', f, hx, h, hf⟩
end LDD
