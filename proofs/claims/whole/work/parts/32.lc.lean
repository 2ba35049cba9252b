section LO
variable {p : Program} {l : Launch} {e : Env} {s : State} {m : MethodId} {below : List Frame} {meth : Method} {c : Code} {D : va_G} {cI cR : ClassId} {b L : Nat} {xs : Nat → Int32} {adC adM : Nat → Nat} {pc : Nat} {lv : List (Nat × Value)} {rest : List Value} {σ τ : Sg} {Rel : Sg → Sg → Prop}
theorem sub6 {L i : Nat} (hL : L ≤ 3072) (hi : i ≤ 4000) (h : ¬ nI L - 6 < nI i) : i + 6 ≤ L := by
  rw [Int32.lt_iff_toInt_lt] at h
  rw [Int32.toInt_sub, nI_toInt (by omega), nI_toInt (by omega)] at h
  have e : (6 : Int32).toInt = 6 := by decide
  rw [e] at h
  have e2 : ((L : Int) - 6).bmod (2 ^ 32) = (L : Int) - 6 := by
    rw [Int.bmod_def]
    omega
  rw [e2] at h
  omega
theorem cases44 (x : Int32) (h1 : ¬ x.toInt < 0) (h2 : ¬ 43 < x.toInt) : ∃ k, k < 44 ∧ x = nI k := by
  refine ⟨x.toInt.toNat, by omega, ?_⟩
  apply Int32.toInt_inj.mp
  rw [nI_toInt (by omega)]
  omega
set_option maxHeartbeats 4000000 in
set_option maxRecDepth 100000 in
theorem law_loop (C : Lx p s m meth c D cI cR b L xs adC adM) (hL : L ≤ 3072) (HS : S_all Rel) :
    ∀ (n i : Nat), i ≤ L + 6 → L + 7 ≤ i + n → ∀ σ τ : Sg, Rel σ τ → Jl p l e s m below meth c D cI cR b adC adM 18 [(0, .ref b), (1, .ref (adC 0)), (2, .ref (adM 0)), (3, .int (nI i))] [] σ τ := by
  intro n
  induction n with
  | zero =>
    intro i h1 h2
    exact absurd h2 (by omega)
  | succ n ih =>
    intro i h1 h2 σ τ hrel
    refine L_iload_n (q := 19) C dL_law_18 rfl rfl 3 rfl ?_
    refine L_aload_n (q := 20) C dL_law_19 rfl rfl 0 rfl ?_
    refine L_slen (q := 21) C dL_law_20 rfl ?_
    refine L_bipush (q := 23) (v := 6) C dL_law_21 rfl (by decide) ?_
    refine L_isub (q := 24) C dL_law_23 rfl ?_
    refine L_gt (q := 27) (tgt := 1375) C dL_law_24 rfl (by decide) (fun _ => ?_) (fun z => ?_)
    · refine L_iconst (q := 1376) (v := 1) C dL_law_1375 rfl (by decide) ?_
      intro hok ls H locs hl hP hM hS
      refine va_forget (fun q hq => hS.2.2 q hq) ?_
      exact lw_ret C.1.1 C.1.2.1 C.1.2.2.1 C.1.2.2.2.2.2.2.2.2.1 dL_law_1376
    · have hi : i + 6 ≤ L := sub6 hL (by omega) z
      have kk : ∀ σ' τ' : Sg, Rel σ' τ' → Jl p l e s m below meth c D cI cR b adC adM 1369 [(0, .ref b), (1, .ref (adC 0)), (2, .ref (adM 0)), (3, .int (nI i))] [] σ' τ' := by
        intro σ' τ' h'
        refine L_iinc (q := 1372) (v := nI (i + 6)) (lv' := [(3, .int (nI (i + 6))), (0, .ref b), (1, .ref (adC 0)), (2, .ref (adM 0))]) C dL_law_1369 rfl 3 rfl ?_ (by decide) rfl ?_
        · exact nI_add i 6
        · refine L_goto (tgt := 18) C dL_law_1372 (by decide) ?_
          intro hok ls H locs hl hP hM hS
          exact ih (i + 6) (by omega) (by omega) σ' τ' h' hok ls H locs (lv_sub hl [1, 2, 3, 0] rfl) hP hM hS
      refine L_aload_n (q := 28) C dL_law_27 rfl rfl 0 rfl ?_
      refine L_iload_n (q := 29) C dL_law_28 rfl rfl 3 rfl ?_
      refine L_sld (q := 30) C (vp_in_nI (by omega) (by omega)) dL_law_29 rfl ?_
      refine L_bipush (q := 32) (v := 63) C dL_law_30 rfl (by decide) ?_
      refine L_iand (q := 33) C dL_law_32 rfl ?_
      generalize xs (nI i).toNatClampNeg &&& 63 = x
      by_cases w1 : x.toInt < 0
      · exact L_tsOut (tgt := 1369) C dL_law_33 (Or.inl w1) (by decide) (kk σ τ hrel)
      by_cases w2 : 43 < x.toInt
      · exact L_tsOut (tgt := 1369) C dL_law_33 (Or.inr w2) (by decide) (kk σ τ hrel)
      obtain ⟨k, hk, rfl⟩ := cases44 x w1 w2
      clear w1 w2
      match k, hk with
      | 0, _ => exact L_tsIn (tgt := 224) C (0 : Int32) (by decide) dL_law_33 (by decide) (by decide) rfl (by decide) (lc_row C hi hL (HS.1) hrel kk)
      | 1, _ => exact L_tsIn (tgt := 257) C (1 : Int32) (by decide) dL_law_33 (by decide) (by decide) rfl (by decide) (lc_lay C hi hL (HS.2.1) hrel kk)
      | 2, _ => exact L_tsIn (tgt := 300) C (2 : Int32) (by decide) dL_law_33 (by decide) (by decide) rfl (by decide) (lc_at C hi hL (HS.2.2.1) hrel kk)
      | 3, _ => exact L_tsIn (tgt := 333) C (3 : Int32) (by decide) dL_law_33 (by decide) (by decide) rfl (by decide) (lc_tear C hi hL (HS.2.2.2.1) hrel kk)
      | 4, _ => exact L_tsIn (tgt := 356) C (4 : Int32) (by decide) dL_law_33 (by decide) (by decide) rfl (by decide) (lc_copy C hi hL (HS.2.2.2.2.1) hrel kk)
      | 5, _ => exact L_tsIn (tgt := 419) C (5 : Int32) (by decide) dL_law_33 (by decide) (by decide) rfl (by decide) (lc_mean C hi hL (HS.2.2.2.2.2.1) hrel kk)
      | 6, _ => exact L_tsIn (tgt := 442) C (6 : Int32) (by decide) dL_law_33 (by decide) (by decide) rfl (by decide) (lc_text C hi hL (HS.2.2.2.2.2.2.1) hrel kk)
      | 7, _ => exact L_tsIn (tgt := 475) C (7 : Int32) (by decide) dL_law_33 (by decide) (by decide) rfl (by decide) (lc_put C hi hL (HS.2.2.2.2.2.2.2.1) hrel kk)
      | 8, _ => exact L_tsIn (tgt := 518) C (8 : Int32) (by decide) dL_law_33 (by decide) (by decide) rfl (by decide) (lc_fault C hi hL (HS.2.2.2.2.2.2.2.2.1) hrel kk)
      | 9, _ => exact L_tsIn (tgt := 541) C (9 : Int32) (by decide) dL_law_33 (by decide) (by decide) rfl (by decide) (lc_town C hi hL (HS.2.2.2.2.2.2.2.2.2.1) hrel kk)
      | 10, _ => exact L_tsIn (tgt := 564) C (10 : Int32) (by decide) dL_law_33 (by decide) (by decide) rfl (by decide) (lc_house C hi hL (HS.2.2.2.2.2.2.2.2.2.2.1) hrel kk)
      | 11, _ => exact L_tsIn (tgt := 597) C (11 : Int32) (by decide) dL_law_33 (by decide) (by decide) rfl (by decide) (lc_mark C hi hL (HS.2.2.2.2.2.2.2.2.2.2.2.1) hrel kk)
      | 12, _ => exact L_tsIn (tgt := 630) C (12 : Int32) (by decide) dL_law_33 (by decide) (by decide) rfl (by decide) (lc_walk C hi hL (HS.2.2.2.2.2.2.2.2.2.2.2.2.1) hrel kk)
      | 13, _ => exact L_tsIn (tgt := 653) C (13 : Int32) (by decide) dL_law_33 (by decide) (by decide) rfl (by decide) (lc_tap C hi hL (HS.2.2.2.2.2.2.2.2.2.2.2.2.2.1) hrel kk)
      | 14, _ => exact L_tsIn (tgt := 666) C (14 : Int32) (by decide) dL_law_33 (by decide) (by decide) rfl (by decide) (lc_slate C hi hL (HS.2.2.2.2.2.2.2.2.2.2.2.2.2.2.1) hrel kk)
      | 15, _ => exact L_tsIn (tgt := 699) C (15 : Int32) (by decide) dL_law_33 (by decide) (by decide) rfl (by decide) (lc_frost C hi hL (HS.2.2.2.2.2.2.2.2.2.2.2.2.2.2.2.1) hrel kk)
      | 16, _ => exact L_tsIn (tgt := 722) C (16 : Int32) (by decide) dL_law_33 (by decide) (by decide) rfl (by decide) (lc_night C hi hL (HS.2.2.2.2.2.2.2.2.2.2.2.2.2.2.2.2.1) hrel kk)
      | 17, _ => exact L_tsIn (tgt := 735) C (17 : Int32) (by decide) dL_law_33 (by decide) (by decide) rfl (by decide) (lc_undo C hi hL (HS.2.2.2.2.2.2.2.2.2.2.2.2.2.2.2.2.2.1) hrel kk)
      | 18, _ => exact L_tsIn (tgt := 758) C (18 : Int32) (by decide) dL_law_33 (by decide) (by decide) rfl (by decide) (lc_keep C hi hL (HS.2.2.2.2.2.2.2.2.2.2.2.2.2.2.2.2.2.2.1) hrel kk)
      | 19, _ => exact L_tsIn (tgt := 781) C (19 : Int32) (by decide) dL_law_33 (by decide) (by decide) rfl (by decide) (lc_on C hi hL (HS.2.2.2.2.2.2.2.2.2.2.2.2.2.2.2.2.2.2.2.1) hrel kk)
      | 20, _ => exact L_tsIn (tgt := 804) C (20 : Int32) (by decide) dL_law_33 (by decide) (by decide) rfl (by decide) (lc_takes C hi hL (HS.2.2.2.2.2.2.2.2.2.2.2.2.2.2.2.2.2.2.2.2.1) hrel kk)
      | 21, _ => exact L_tsIn (tgt := 837) C (21 : Int32) (by decide) dL_law_33 (by decide) (by decide) rfl (by decide) (lc_pays C hi hL (HS.2.2.2.2.2.2.2.2.2.2.2.2.2.2.2.2.2.2.2.2.2.1) hrel kk)
      | 22, _ => exact L_tsIn (tgt := 860) C (22 : Int32) (by decide) dL_law_33 (by decide) (by decide) rfl (by decide) (lc_who C hi hL (HS.2.2.2.2.2.2.2.2.2.2.2.2.2.2.2.2.2.2.2.2.2.2.1) hrel kk)
      | 23, _ => exact L_tsIn (tgt := 893) C (23 : Int32) (by decide) dL_law_33 (by decide) (by decide) rfl (by decide) (lc_quarrels C hi hL (HS.2.2.2.2.2.2.2.2.2.2.2.2.2.2.2.2.2.2.2.2.2.2.2.1) hrel kk)
      | 24, _ => exact L_tsIn (tgt := 906) C (24 : Int32) (by decide) dL_law_33 (by decide) (by decide) rfl (by decide) (lc_soonest C hi hL (HS.2.2.2.2.2.2.2.2.2.2.2.2.2.2.2.2.2.2.2.2.2.2.2.2.1) hrel kk)
      | 25, _ => exact L_tsIn (tgt := 929) C (25 : Int32) (by decide) dL_law_33 (by decide) (by decide) rfl (by decide) (lc_intime C hi hL (HS.2.2.2.2.2.2.2.2.2.2.2.2.2.2.2.2.2.2.2.2.2.2.2.2.2.1) hrel kk)
      | 26, _ => exact L_tsIn (tgt := 962) C (26 : Int32) (by decide) dL_law_33 (by decide) (by decide) rfl (by decide) (lc_many C hi hL (HS.2.2.2.2.2.2.2.2.2.2.2.2.2.2.2.2.2.2.2.2.2.2.2.2.2.2.1) hrel kk)
      | 27, _ => exact L_tsIn (tgt := 975) C (27 : Int32) (by decide) dL_law_33 (by decide) (by decide) rfl (by decide) (lc_dates C hi hL (HS.2.2.2.2.2.2.2.2.2.2.2.2.2.2.2.2.2.2.2.2.2.2.2.2.2.2.2.1) hrel kk)
      | 28, _ => exact L_tsIn (tgt := 998) C (28 : Int32) (by decide) dL_law_33 (by decide) (by decide) rfl (by decide) (lc_whose C hi hL (HS.2.2.2.2.2.2.2.2.2.2.2.2.2.2.2.2.2.2.2.2.2.2.2.2.2.2.2.2.1) hrel kk)
      | 29, _ => exact L_tsIn (tgt := 1021) C (29 : Int32) (by decide) dL_law_33 (by decide) (by decide) rfl (by decide) (lc_kinds C hi hL (HS.2.2.2.2.2.2.2.2.2.2.2.2.2.2.2.2.2.2.2.2.2.2.2.2.2.2.2.2.2.1) hrel kk)
      | 30, _ => exact L_tsIn (tgt := 1044) C (30 : Int32) (by decide) dL_law_33 (by decide) (by decide) rfl (by decide) (lc_test C hi hL (HS.2.2.2.2.2.2.2.2.2.2.2.2.2.2.2.2.2.2.2.2.2.2.2.2.2.2.2.2.2.2.1) hrel kk)
      | 31, _ => exact L_tsIn (tgt := 1067) C (31 : Int32) (by decide) dL_law_33 (by decide) (by decide) rfl (by decide) (lc_sets C hi hL (HS.2.2.2.2.2.2.2.2.2.2.2.2.2.2.2.2.2.2.2.2.2.2.2.2.2.2.2.2.2.2.2.1) hrel kk)
      | 32, _ => exact L_tsIn (tgt := 1090) C (32 : Int32) (by decide) dL_law_33 (by decide) (by decide) rfl (by decide) (lc_sure C hi hL (HS.2.2.2.2.2.2.2.2.2.2.2.2.2.2.2.2.2.2.2.2.2.2.2.2.2.2.2.2.2.2.2.2.1) hrel kk)
      | 33, _ => exact L_tsIn (tgt := 1113) C (33 : Int32) (by decide) dL_law_33 (by decide) (by decide) rfl (by decide) (lc_duel C hi hL (HS.2.2.2.2.2.2.2.2.2.2.2.2.2.2.2.2.2.2.2.2.2.2.2.2.2.2.2.2.2.2.2.2.2.1) hrel kk)
      | 34, _ => exact L_tsIn (tgt := 1136) C (34 : Int32) (by decide) dL_law_33 (by decide) (by decide) rfl (by decide) (lc_odds C hi hL (HS.2.2.2.2.2.2.2.2.2.2.2.2.2.2.2.2.2.2.2.2.2.2.2.2.2.2.2.2.2.2.2.2.2.2.1) hrel kk)
      | 35, _ => exact L_tsIn (tgt := 1179) C (35 : Int32) (by decide) dL_law_33 (by decide) (by decide) rfl (by decide) (lc_mid C hi hL (HS.2.2.2.2.2.2.2.2.2.2.2.2.2.2.2.2.2.2.2.2.2.2.2.2.2.2.2.2.2.2.2.2.2.2.2.1) hrel kk)
      | 36, _ => exact L_tsIn (tgt := 1222) C (36 : Int32) (by decide) dL_law_33 (by decide) (by decide) rfl (by decide) (lc_lots C hi hL (HS.2.2.2.2.2.2.2.2.2.2.2.2.2.2.2.2.2.2.2.2.2.2.2.2.2.2.2.2.2.2.2.2.2.2.2.2.1) hrel kk)
      | 37, _ => exact L_tsIn (tgt := 1255) C (37 : Int32) (by decide) dL_law_33 (by decide) (by decide) rfl (by decide) (lc_asked C hi hL (HS.2.2.2.2.2.2.2.2.2.2.2.2.2.2.2.2.2.2.2.2.2.2.2.2.2.2.2.2.2.2.2.2.2.2.2.2.2.1) hrel kk)
      | 38, _ => exact L_tsIn (tgt := 1268) C (38 : Int32) (by decide) dL_law_33 (by decide) (by decide) rfl (by decide) (lc_upper C hi hL (HS.2.2.2.2.2.2.2.2.2.2.2.2.2.2.2.2.2.2.2.2.2.2.2.2.2.2.2.2.2.2.2.2.2.2.2.2.2.2.1) hrel kk)
      | 39, _ => exact L_tsIn (tgt := 1282) C (39 : Int32) (by decide) dL_law_33 (by decide) (by decide) rfl (by decide) (lc_lower C hi hL (HS.2.2.2.2.2.2.2.2.2.2.2.2.2.2.2.2.2.2.2.2.2.2.2.2.2.2.2.2.2.2.2.2.2.2.2.2.2.2.2.1) hrel kk)
      | 40, _ => exact L_tsIn (tgt := 1296) C (40 : Int32) (by decide) dL_law_33 (by decide) (by decide) rfl (by decide) (lc_count C hi hL (HS.2.2.2.2.2.2.2.2.2.2.2.2.2.2.2.2.2.2.2.2.2.2.2.2.2.2.2.2.2.2.2.2.2.2.2.2.2.2.2.2.1) hrel kk)
      | 41, _ => exact L_tsIn (tgt := 1319) C (41 : Int32) (by decide) dL_law_33 (by decide) (by decide) rfl (by decide) (lc_finding C hi hL (HS.2.2.2.2.2.2.2.2.2.2.2.2.2.2.2.2.2.2.2.2.2.2.2.2.2.2.2.2.2.2.2.2.2.2.2.2.2.2.2.2.2.1) hrel kk)
      | 42, _ => exact L_tsIn (tgt := 1332) C (42 : Int32) (by decide) dL_law_33 (by decide) (by decide) rfl (by decide) (lc_findings C hi hL (HS.2.2.2.2.2.2.2.2.2.2.2.2.2.2.2.2.2.2.2.2.2.2.2.2.2.2.2.2.2.2.2.2.2.2.2.2.2.2.2.2.2.2.1) hrel kk)
      | 43, _ => exact L_tsIn (tgt := 1355) C (43 : Int32) (by decide) dL_law_33 (by decide) (by decide) rfl (by decide) (lc_digest C hi hL (HS.2.2.2.2.2.2.2.2.2.2.2.2.2.2.2.2.2.2.2.2.2.2.2.2.2.2.2.2.2.2.2.2.2.2.2.2.2.2.2.2.2.2.2) hrel kk)
      | k + 44, h => exact absurd h (by omega)
end LO
