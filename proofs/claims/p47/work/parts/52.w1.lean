set_option maxHeartbeats 4000000 in
set_option maxRecDepth 100000 in
theorem cl_L_law_571 {p : Program} {l : Launch} {e : Env} {s : State} {m : MethodId} {args : Array Value} {below : List Frame} {meth : Method} {c : Code} {D : va_G} {cI cR : ClassId} {ad : Nat → Nat} (hap : apN 77 ad) (C : Cx p s m args meth c cL_law 34 "WokenYearsLaw" D (tysC cI cR) 77 ad (some .boolean)) {Q : State → Prop} (hQ : LawEnd p l e s m args below meth c D ad cI cR Q) {b L : Nat} {xs : Nat → Int32} (hX : va_X b L xs s s.heap) (hbl : b < s.heap.size) (hbA : ¬ inA 77 ad b) {a5 : Int32} {a6 : Int32} {k735 : Option Bool} {σ : Sg}  (hk735 : k735 = some true → Jd p l e room_1 s m args below meth c D 77 ad (celC cI cR ad) okC 34 Q 735 [(0, .ref b), (1, .ref (ad 0)), (2, .ref (ad (41 + 33))), (3, .ref (ad (42 + 33))), (5, .int a5)] [] σ) : ∀ (n : Nat) (x7 : Int32), l_L_law_571 L xs a5 a6 σ k735 n x7 = some true → Jd p l e room_1 s m args below meth c D 77 ad (celC cI cR ad) okC 34 Q 571 [(0, .ref b), (1, .ref (ad 0)), (2, .ref (ad (41 + 33))), (3, .ref (ad (42 + 33))), (5, .int a5), (6, .int a6), (7, .int x7)] [] σ := by
  intro n
  induction n with
  | zero => intro x7 h; cases h
  | succ n ih =>
    intro x7 h
    unfold l_L_law_571 at h
    refine J_iload (q := 573) C dL_law_571 rfl 6 rfl ?_
    refine J_aload_n (q := 574) C dL_law_573 rfl rfl 2 rfl ?_
    refine J_iconst (v := 1 ) (q := 575) C dL_law_574 rfl rfl ?_
    refine JL_iald (q := 576) C isLA_41 h dL_law_575 rfl (fun h => ?_)
    refine J_icmp_ge (tgt := 735) (q := 579) C dL_law_576 rfl (by decide) h (fun _ h => ?_) (fun _ h => ?_)
    · refine J_sub [0, 1, 2, 3, 4] rfl ?_
      exact hk735 h
    · refine J_aload_n (q := 580) C dL_law_579 rfl rfl 1 rfl ?_
      refine J_iload (q := 582) C dL_law_580 rfl 6 rfl ?_
      refine J_iload (q := 584) C dL_law_582 rfl 5 rfl ?_
      obtain ⟨r40, ec40, h⟩ := bnd_of h
      refine J_callIV (q := 587) (As := [.int x7, .int a6]) C (c_X5_takes hap  ec40) ok_X5_takes kM_L_123 (by decide) rfl rfl rfl rfl rfl rfl ⟨Nat.le_of_ble_eq_true rfl, Nat.le_of_ble_eq_true rfl⟩ (Nat.le_of_ble_eq_true rfl) dL_law_584 rfl ?_
      refine J_istore (q := 589) C dL_law_587 rfl (by decide) rfl ?_
      refine J_aload_n (q := 590) C dL_law_589 rfl rfl 3 rfl ?_
      refine J_iconst (v := 2 ) (q := 591) C dL_law_590 rfl rfl ?_
      refine J_iload (q := 593) C dL_law_591 rfl 7 rfl ?_
      refine J_iadd (q := 594) C dL_law_593 rfl ?_
      refine JL_iald (q := 595) C isLA_41 h dL_law_594 rfl (fun h => ?_)
      refine J_nmi h (fun y41 ey41 h => ?_)
      refine J_istore (q := 597) C dL_law_595 rfl (by decide) rfl ?_
      refine J_iload (q := 599) C dL_law_597 rfl 1 rfl ?_
      refine J_if_eq (tgt := 727) (q := 602) C dL_law_599 rfl (by decide) h (fun _ h => ?_) (fun _ h => ?_)
      · refine J_iconst (v := 0 ) (q := 728) C dL_law_727 rfl rfl ?_
        cases h
      · refine J_iload (q := 604) C dL_law_602 rfl 1 rfl ?_
        refine J_bipush (v := -9) (q := 606) C dL_law_604 rfl rfl ?_
        refine J_icmp_lt (tgt := 727) (q := 609) C dL_law_606 rfl (by decide) h (fun _ h => ?_) (fun _ h => ?_)
        · refine J_iconst (v := 0 ) (q := 728) C dL_law_727 rfl rfl ?_
          cases h
        · refine J_iload (q := 611) C dL_law_609 rfl 1 rfl ?_
          refine J_iconst (v := 5 ) (q := 612) C dL_law_611 rfl rfl ?_
          refine J_icmp_gt (tgt := 727) (q := 615) C dL_law_612 rfl (by decide) h (fun _ h => ?_) (fun _ h => ?_)
          · refine J_iconst (v := 0 ) (q := 728) C dL_law_727 rfl rfl ?_
            cases h
          · refine J_iload (q := 617) C dL_law_615 rfl 0 rfl ?_
            refine J_iconst (v := 3 ) (q := 618) C dL_law_617 rfl rfl ?_
            refine jn_elim h (fun k628 ek628 h => ?_)
            have hk628 : k628 = some true → Jd p l e room_1 s m args below meth c D 77 ad (celC cI cR ad) okC 34 Q 628 [(0, .ref b), (1, .ref (ad 0)), (2, .ref (ad (41 + 33))), (3, .ref (ad (42 + 33))), (5, .int a5), (6, .int a6), (7, .int x7), (8, .int r40), (9, .int y41)] [] σ := by
              intro  h
              rw [ek628] at h
              refine J_iload (q := 630) C dL_law_628 rfl 8 rfl ?_
              refine J_iconst (v := 5 ) (q := 631) C dL_law_630 rfl rfl ?_
              refine jn_elim h (fun k651 ek651 h => ?_)
              have hk651 : k651 = some true → Jd p l e room_1 s m args below meth c D 77 ad (celC cI cR ad) okC 34 Q 651 [(0, .ref b), (1, .ref (ad 0)), (2, .ref (ad (41 + 33))), (3, .ref (ad (42 + 33))), (5, .int a5), (6, .int a6), (7, .int x7), (8, .int r40), (9, .int y41)] [] σ := by
                intro  h
                rw [ek651] at h
                refine J_iload (q := 653) C dL_law_651 rfl 7 rfl ?_
                refine jn_elim h (fun k672 ek672 h => ?_)
                have hk672 : k672 = some true → Jd p l e room_1 s m args below meth c D 77 ad (celC cI cR ad) okC 34 Q 672 [(0, .ref b), (1, .ref (ad 0)), (2, .ref (ad (41 + 33))), (3, .ref (ad (42 + 33))), (5, .int a5), (6, .int a6), (7, .int x7), (8, .int r40), (9, .int y41)] [] σ := by
                  intro  h
                  rw [ek672] at h
                  refine J_iload (q := 674) C dL_law_672 rfl 8 rfl ?_
                  refine J_iconst (v := 4 ) (q := 675) C dL_law_674 rfl rfl ?_
                  refine jn_elim h (fun k689 ek689 h => ?_)
                  have hk689 : k689 = some true → Jd p l e room_1 s m args below meth c D 77 ad (celC cI cR ad) okC 34 Q 689 [(0, .ref b), (1, .ref (ad 0)), (2, .ref (ad (41 + 33))), (3, .ref (ad (42 + 33))), (5, .int a5), (6, .int a6), (7, .int x7), (9, .int y41)] [] σ := by
                    intro  h
                    rw [ek689] at h
                    refine J_aload_n (q := 690) C dL_law_689 rfl rfl 1 rfl ?_
                    refine J_iload (q := 692) C dL_law_690 rfl 6 rfl ?_
                    obtain ⟨r42, ec42, h⟩ := bnd_of h
                    refine J_callIV (q := 695) (As := [.int x7]) C (c_X5_pays hap  ec42) ok_X5_pays kM_L_112 (by decide) rfl rfl rfl rfl rfl rfl ⟨Nat.le_of_ble_eq_true rfl, Nat.le_of_ble_eq_true rfl⟩ (Nat.le_of_ble_eq_true rfl) dL_law_692 rfl ?_
                    refine J_iconst (v := 5 ) (q := 696) C dL_law_695 rfl rfl ?_
                    refine J_icmp_gt (tgt := 727) (q := 699) C dL_law_696 rfl (by decide) h (fun _ h => ?_) (fun _ h => ?_)
                    · refine J_iconst (v := 0 ) (q := 728) C dL_law_727 rfl rfl ?_
                      cases h
                    · refine J_iload (q := 701) C dL_law_699 rfl 7 rfl ?_
                      refine J_iconst (v := 3 ) (q := 702) C dL_law_701 rfl rfl ?_
                      refine jn_elim h (fun k710 ek710 h => ?_)
                      have hk710 : ∀ (t0_710 : Bool), k710 t0_710 = some true → Jd p l e room_1 s m args below meth c D 77 ad (celC cI cR ad) okC 34 Q 710 [(0, .ref b), (1, .ref (ad 0)), (2, .ref (ad (41 + 33))), (3, .ref (ad (42 + 33))), (5, .int a5), (6, .int a6), (7, .int x7)] [.int (b2i t0_710)] σ := by
                        intro t0_710 h
                        rw [ek710] at h
                        refine J_aload_n (q := 711) C dL_law_710 rfl rfl 1 rfl ?_
                        refine J_iload (q := 713) C dL_law_711 rfl 6 rfl ?_
                        obtain ⟨r43, ec43, h⟩ := bnd_of h
                        refine J_callIV (q := 716) (As := [.int x7]) C (c_X5_pays hap  ec43) ok_X5_pays kM_L_112 (by decide) rfl rfl rfl rfl rfl rfl ⟨Nat.le_of_ble_eq_true rfl, Nat.le_of_ble_eq_true rfl⟩ (Nat.le_of_ble_eq_true rfl) dL_law_713 rfl ?_
                        refine jn_elim h (fun k724 ek724 h => ?_)
                        have hk724 : ∀ (t0_724 : Bool), k724 t0_724 = some true → Jd p l e room_1 s m args below meth c D 77 ad (celC cI cR ad) okC 34 Q 724 [(0, .ref b), (1, .ref (ad 0)), (2, .ref (ad (41 + 33))), (3, .ref (ad (42 + 33))), (5, .int a5), (6, .int a6), (7, .int x7)] [.int (b2i t0_724), .int (b2i t0_710)] σ := by
                          intro t0_724 h
                          rw [ek724] at h
                          refine J_icmp_eq (tgt := 729) (q := 727) C dL_law_724 rfl (by decide) h (fun _ h => ?_) (fun _ h => ?_)
                          · refine jn_elim h (fun y44 ey44 h => ?_)
                            refine J_iinc (v := y44) (q := 732) C dL_law_729 rfl 6 rfl (by rw [ey44]; rfl) (by decide) rfl ?_
                            refine J_goto (tgt := 571) C dL_law_732 (by decide) ?_
                            refine J_sub [1, 2, 3, 4, 5, 6, 0] rfl ?_
                            exact ih _ h
                          · refine J_iconst (v := 0 ) (q := 728) C dL_law_727 rfl rfl ?_
                            cases h
                        refine J_if_ne (tgt := 723) (q := 719) C dL_law_716 rfl (by decide) h (fun _ h => ?_) (fun _ h => ?_)
                        · refine J_iconst (v := 1 ) (q := 720) C dL_law_719 rfl rfl ?_
                          refine J_goto (tgt := 724) C dL_law_720 (by decide) ?_
                          exact hk724 _ h
                        · refine J_iconst (v := 0 ) (q := 724) C dL_law_723 rfl rfl ?_
                          exact hk724 _ h
                      refine J_icmp_ne (tgt := 709) (q := 705) C dL_law_702 rfl (by decide) h (fun _ h => ?_) (fun _ h => ?_)
                      · refine J_iconst (v := 1 ) (q := 706) C dL_law_705 rfl rfl ?_
                        refine J_goto (tgt := 710) C dL_law_706 (by decide) ?_
                        refine J_sub [0, 1, 2, 3, 4, 5, 6] rfl ?_
                        exact hk710 _ h
                      · refine J_iconst (v := 0 ) (q := 710) C dL_law_709 rfl rfl ?_
                        refine J_sub [0, 1, 2, 3, 4, 5, 6] rfl ?_
                        exact hk710 _ h
                  refine J_icmp_ne (tgt := 689) (q := 678) C dL_law_675 rfl (by decide) h (fun _ h => ?_) (fun _ h => ?_)
                  · refine J_iload (q := 680) C dL_law_678 rfl 7 rfl ?_
                    refine J_if_le (tgt := 689) (q := 683) C dL_law_680 rfl (by decide) h (fun _ h => ?_) (fun _ h => ?_)
                    · refine J_sub [0, 1, 2, 3, 4, 5, 6, 8] rfl ?_
                      exact hk689 h
                    · refine J_iload (q := 685) C dL_law_683 rfl 7 rfl ?_
                      refine J_iconst (v := 3 ) (q := 686) C dL_law_685 rfl rfl ?_
                      refine J_icmp_lt (tgt := 727) (q := 689) C dL_law_686 rfl (by decide) h (fun _ h => ?_) (fun _ h => ?_)
                      · refine J_iconst (v := 0 ) (q := 728) C dL_law_727 rfl rfl ?_
                        cases h
                      · refine J_sub [0, 1, 2, 3, 4, 5, 6, 8] rfl ?_
                        exact hk689 h
                  · refine J_sub [0, 1, 2, 3, 4, 5, 6, 8] rfl ?_
                    exact hk689 h
                refine J_if_le (tgt := 672) (q := 656) C dL_law_653 rfl (by decide) h (fun _ h => ?_) (fun _ h => ?_)
                · exact hk672 h
                · refine J_aload_n (q := 657) C dL_law_656 rfl rfl 1 rfl ?_
                  refine J_iload (q := 659) C dL_law_657 rfl 5 rfl ?_
                  refine J_iload (q := 661) C dL_law_659 rfl 7 rfl ?_
                  obtain ⟨r45, ec45, h⟩ := bnd_of h
                  refine J_callIV (q := 664) (As := [.int a6, .int r40]) C (c_X5_who hap  ec45) ok_X5_who kM_L_125 (by decide) rfl rfl rfl rfl rfl rfl ⟨Nat.le_of_ble_eq_true rfl, Nat.le_of_ble_eq_true rfl⟩ (Nat.le_of_ble_eq_true rfl) dL_law_661 rfl ?_
                  refine J_iload (q := 666) C dL_law_664 rfl 6 rfl ?_
                  refine J_ishr (q := 667) C dL_law_666 rfl ?_
                  refine J_iconst (v := 1 ) (q := 668) C dL_law_667 rfl rfl ?_
                  refine J_iand (q := 669) C dL_law_668 rfl ?_
                  refine J_if_eq (tgt := 727) (q := 672) C dL_law_669 rfl (by decide) h (fun _ h => ?_) (fun _ h => ?_)
                  · refine J_iconst (v := 0 ) (q := 728) C dL_law_727 rfl rfl ?_
                    cases h
                  · exact hk672 h
              refine J_icmp_ne (tgt := 651) (q := 634) C dL_law_631 rfl (by decide) h (fun _ h => ?_) (fun _ h => ?_)
              · refine J_iload (q := 636) C dL_law_634 rfl 7 rfl ?_
                refine J_iload (q := 638) C dL_law_636 rfl 5 rfl ?_
                refine J_bipush (v := 50) (q := 640) C dL_law_638 rfl rfl ?_
                refine jn_elim h (fun k648 ek648 h => ?_)
                have hk648 : ∀ (t0_648 : Int32), k648 t0_648 = some true → Jd p l e room_1 s m args below meth c D 77 ad (celC cI cR ad) okC 34 Q 648 [(0, .ref b), (1, .ref (ad 0)), (2, .ref (ad (41 + 33))), (3, .ref (ad (42 + 33))), (5, .int a5), (6, .int a6), (7, .int x7), (8, .int r40), (9, .int y41)] [.int t0_648, .int r40] σ := by
                  intro t0_648 h
                  rw [ek648] at h
                  refine J_icmp_ne (tgt := 727) (q := 651) C dL_law_648 rfl (by decide) h (fun _ h => ?_) (fun _ h => ?_)
                  · exact hk651 h
                  · refine J_iconst (v := 0 ) (q := 728) C dL_law_727 rfl rfl ?_
                    cases h
                refine J_icmp_ge (tgt := 647) (q := 643) C dL_law_640 rfl (by decide) h (fun _ h => ?_) (fun _ h => ?_)
                · refine J_iconst (v := 1 ) (q := 648) C dL_law_647 rfl rfl ?_
                  exact hk648 _ h
                · refine J_iconst (v := 2 ) (q := 644) C dL_law_643 rfl rfl ?_
                  refine J_goto (tgt := 648) C dL_law_644 (by decide) ?_
                  exact hk648 _ h
              · exact hk651 h
            refine J_icmp_ne (tgt := 628) (q := 621) C dL_law_618 rfl (by decide) h (fun _ h => ?_) (fun _ h => ?_)
            · refine J_iload (q := 623) C dL_law_621 rfl 1 rfl ?_
              refine J_bipush (v := -9) (q := 625) C dL_law_623 rfl rfl ?_
              refine J_icmp_ne (tgt := 727) (q := 628) C dL_law_625 rfl (by decide) h (fun _ h => ?_) (fun _ h => ?_)
              · refine J_sub [2, 3, 4, 5, 6, 7, 8, 1, 0] rfl ?_
                exact hk628 h
              · refine J_iconst (v := 0 ) (q := 728) C dL_law_727 rfl rfl ?_
                cases h
            · refine J_sub [2, 3, 4, 5, 6, 7, 8, 1, 0] rfl ?_
              exact hk628 h
set_option maxHeartbeats 4000000 in
set_option maxRecDepth 100000 in
theorem cl_L_law_744 {p : Program} {l : Launch} {e : Env} {s : State} {m : MethodId} {args : Array Value} {below : List Frame} {meth : Method} {c : Code} {D : va_G} {cI cR : ClassId} {ad : Nat → Nat} (hap : apN 77 ad) (C : Cx p s m args meth c cL_law 34 "WokenYearsLaw" D (tysC cI cR) 77 ad (some .boolean)) {Q : State → Prop} (hQ : LawEnd p l e s m args below meth c D ad cI cR Q) {b L : Nat} {xs : Nat → Int32} (hX : va_X b L xs s s.heap) (hbl : b < s.heap.size) (hbA : ¬ inA 77 ad b) {a5 : Int32} {k802 : Int32 → Bool → Sg → Option Bool}  (hk802 : ∀ (u7 : Int32) (u8 : Bool) (σ1 : Sg), k802 u7 u8 σ1 = some true → Jd p l e room_1 s m args below meth c D 77 ad (celC cI cR ad) okC 34 Q 802 [(0, .ref b), (1, .ref (ad 0)), (2, .ref (ad (41 + 33))), (3, .ref (ad (42 + 33))), (5, .int a5), (7, .int u7), (8, .int (b2i u8))] [] σ1) : ∀ (n : Nat) (x7 : Int32) (x8 : Bool) (x9 : Int32) (σx : Sg), l_L_law_744 L xs a5 k802 n x7 x8 x9 σx = some true → Jd p l e room_1 s m args below meth c D 77 ad (celC cI cR ad) okC 34 Q 744 [(0, .ref b), (1, .ref (ad 0)), (2, .ref (ad (41 + 33))), (3, .ref (ad (42 + 33))), (5, .int a5), (7, .int x7), (8, .int (b2i x8)), (9, .int x9)] [] σx := by
  intro n
  induction n with
  | zero => intro x7 x8 x9 σx h; cases h
  | succ n ih =>
    intro x7 x8 x9 σx h
    unfold l_L_law_744 at h
    refine J_iload (q := 746) C dL_law_744 rfl 7 rfl ?_
    refine J_aload_n (q := 747) C dL_law_746 rfl rfl 2 rfl ?_
    refine J_iconst (v := 1 ) (q := 748) C dL_law_747 rfl rfl ?_
    refine JL_iald (q := 749) C isLA_41 h dL_law_748 rfl (fun h => ?_)
    refine J_icmp_ge (tgt := 802) (q := 752) C dL_law_749 rfl (by decide) h (fun _ h => ?_) (fun _ h => ?_)
    · refine J_sub [0, 1, 2, 3, 4, 5, 6] rfl ?_
      exact hk802 _ _ _ h
    · refine J_aload_n (q := 753) C dL_law_752 rfl rfl 1 rfl ?_
      refine J_iconst (v := 1 ) (q := 754) C dL_law_753 rfl rfl ?_
      refine J_iload (q := 756) C dL_law_754 rfl 7 rfl ?_
      refine J_ishl (q := 757) C dL_law_756 rfl ?_
      obtain ⟨r46, ec46, h⟩ := bnd_of h
      refine J_callIV (q := 760) (As := [.int ((1 : Int32) <<< (x9 &&& 31))]) C (c_X5_soonest hap  ec46) ok_X5_soonest kM_L_128 (by decide) rfl rfl rfl rfl rfl rfl ⟨Nat.le_of_ble_eq_true rfl, Nat.le_of_ble_eq_true rfl⟩ (Nat.le_of_ble_eq_true rfl) dL_law_757 rfl ?_
      refine jn_elim h (fun k772 ek772 h => ?_)
      have hk772 : ∀ (u7_772 : Int32), k772 u7_772 = some true → Jd p l e room_1 s m args below meth c D 77 ad (celC cI cR ad) okC 34 Q 772 [(0, .ref b), (1, .ref (ad 0)), (2, .ref (ad (41 + 33))), (3, .ref (ad (42 + 33))), (5, .int a5), (7, .int u7_772), (8, .int (b2i x8)), (9, .int x9)] [] σx := by
        intro u7_772 h
        rw [ek772] at h
        refine J_aload_n (q := 773) C dL_law_772 rfl rfl 1 rfl ?_
        refine J_iconst (v := 1 ) (q := 774) C dL_law_773 rfl rfl ?_
        refine J_iload (q := 776) C dL_law_774 rfl 7 rfl ?_
        refine J_ishl (q := 777) C dL_law_776 rfl ?_
        refine J_iconst (v := 2 ) (q := 778) C dL_law_777 rfl rfl ?_
        obtain ⟨r47, σ47, ec47, h⟩ := bnd2_of h
        refine J_callIV (q := 781) (As := [.int ((1 : Int32) <<< (x9 &&& 31)), .int (2 : Int32)]) C (c_X5_intime hap  ec47) ok_X5_intime kM_L_131 (by decide) rfl rfl rfl rfl rfl rfl ⟨Nat.le_of_ble_eq_true rfl, Nat.le_of_ble_eq_true rfl⟩ (Nat.le_of_ble_eq_true rfl) dL_law_778 rfl ?_
        refine J_istore (q := 783) C dL_law_781 rfl (by decide) rfl ?_
        refine J_iload (q := 785) C dL_law_783 rfl 0 rfl ?_
        refine jn_elim h (fun k794 ek794 h => ?_)
        have hk794 : ∀ (t0_794 : Bool), k794 t0_794 = some true → Jd p l e room_1 s m args below meth c D 77 ad (celC cI cR ad) okC 34 Q 794 [(0, .ref b), (1, .ref (ad 0)), (2, .ref (ad (41 + 33))), (3, .ref (ad (42 + 33))), (5, .int a5), (7, .int u7_772), (9, .int x9)] [.int (b2i t0_794)] σ47 := by
          intro t0_794 h
          rw [ek794] at h
          refine J_istore (q := 796) C dL_law_794 rfl (by decide) rfl ?_
          refine jn_elim h (fun y48 ey48 h => ?_)
          refine J_iinc (v := y48) (q := 799) C dL_law_796 rfl 7 rfl (by rw [ey48]; rfl) (by decide) rfl ?_
          refine J_goto (tgt := 744) C dL_law_799 (by decide) ?_
          refine J_sub [2, 3, 4, 5, 6, 7, 1, 0] rfl ?_
          exact ih _ _ _ _ h
        refine J_if_le (tgt := 792) (q := 788) C dL_law_785 rfl (by decide) h (fun _ h => ?_) (fun _ h => ?_)
        · refine J_iload (q := 794) C dL_law_792 rfl 7 rfl ?_
          refine J_sub [1, 2, 3, 4, 5, 6, 8] rfl ?_
          exact hk794 _ h
        · refine J_iconst (v := 1 ) (q := 789) C dL_law_788 rfl rfl ?_
          refine J_goto (tgt := 794) C dL_law_789 (by decide) ?_
          refine J_sub [1, 2, 3, 4, 5, 6, 8] rfl ?_
          exact hk794 _ h
      refine J_if_le (tgt := 772) (q := 763) C dL_law_760 rfl (by decide) h (fun _ h => ?_) (fun _ h => ?_)
      · exact hk772 _ h
      · refine J_iload (q := 765) C dL_law_763 rfl 5 rfl ?_
        refine J_iconst (v := 1 ) (q := 766) C dL_law_765 rfl rfl ?_
        refine J_iload (q := 768) C dL_law_766 rfl 7 rfl ?_
        refine J_ishl (q := 769) C dL_law_768 rfl ?_
        refine J_ior (q := 770) C dL_law_769 rfl ?_
        refine J_nmi h (fun y49 ey49 h => ?_)
        refine J_istore (q := 772) C dL_law_770 rfl (by decide) rfl ?_
        refine J_sub [1, 2, 3, 4, 5, 0, 6, 7] rfl ?_
        exact hk772 _ h
set_option maxHeartbeats 4000000 in
set_option maxRecDepth 100000 in
theorem cl_L_law_1165 {p : Program} {l : Launch} {e : Env} {s : State} {m : MethodId} {args : Array Value} {below : List Frame} {meth : Method} {c : Code} {D : va_G} {cI cR : ClassId} {ad : Nat → Nat} (hap : apN 77 ad) (C : Cx p s m args meth c cL_law 34 "WokenYearsLaw" D (tysC cI cR) 77 ad (some .boolean)) {Q : State → Prop} (hQ : LawEnd p l e s m args below meth c D ad cI cR Q) {b L : Nat} {xs : Nat → Int32} (hX : va_X b L xs s s.heap) (hbl : b < s.heap.size) (hbA : ¬ inA 77 ad b) {a5 : Int32} {k1202 : Int32 → Option Bool} {σ : Sg}  (hk1202 : ∀ (u15 : Int32), k1202 u15 = some true → Jd p l e room_1 s m args below meth c D 77 ad (celC cI cR ad) okC 34 Q 1202 [(0, .ref b), (1, .ref (ad 0)), (2, .ref (ad (41 + 33))), (3, .ref (ad (42 + 33))), (5, .int a5), (15, .int u15)] [] σ) : ∀ (n : Nat) (x15 : Int32) (x16 : Int32), l_L_law_1165 L xs a5 σ k1202 n x15 x16 = some true → Jd p l e room_1 s m args below meth c D 77 ad (celC cI cR ad) okC 34 Q 1165 [(0, .ref b), (1, .ref (ad 0)), (2, .ref (ad (41 + 33))), (3, .ref (ad (42 + 33))), (5, .int a5), (15, .int x15), (16, .int x16)] [] σ := by
  intro n
  induction n with
  | zero => intro x15 x16 h; cases h
  | succ n ih =>
    intro x15 x16 h
    unfold l_L_law_1165 at h
    refine J_iload (q := 1167) C dL_law_1165 rfl 6 rfl ?_
    refine J_iconst (v := 1 ) (q := 1168) C dL_law_1167 rfl rfl ?_
    refine J_iadd (q := 1169) C dL_law_1168 rfl ?_
    refine J_aload_n (q := 1170) C dL_law_1169 rfl rfl 2 rfl ?_
    refine J_iconst (v := 1 ) (q := 1171) C dL_law_1170 rfl rfl ?_
    refine JL_iald (q := 1172) C isLA_41 h dL_law_1171 rfl (fun h => ?_)
    refine J_icmp_ge (tgt := 1202) (q := 1175) C dL_law_1172 rfl (by decide) h (fun _ h => ?_) (fun _ h => ?_)
    · refine J_sub [0, 1, 2, 3, 4, 5] rfl ?_
      exact hk1202 _ h
    · refine J_iload (q := 1177) C dL_law_1175 rfl 5 rfl ?_
      refine J_aload_n (q := 1178) C dL_law_1177 rfl rfl 3 rfl ?_
      refine J_iconst (v := 5 ) (q := 1179) C dL_law_1178 rfl rfl ?_
      refine J_iload (q := 1181) C dL_law_1179 rfl 6 rfl ?_
      refine J_iadd (q := 1182) C dL_law_1181 rfl ?_
      refine JL_iald (q := 1183) C isLA_42 h dL_law_1182 rfl (fun h => ?_)
      refine J_aload_n (q := 1184) C dL_law_1183 rfl rfl 3 rfl ?_
      refine J_bipush (v := 6) (q := 1186) C dL_law_1184 rfl rfl ?_
      refine J_iload (q := 1188) C dL_law_1186 rfl 6 rfl ?_
      refine J_iadd (q := 1189) C dL_law_1188 rfl ?_
      refine JL_iald (q := 1190) C isLA_42 h dL_law_1189 rfl (fun h => ?_)
      obtain ⟨r62, ec62, h⟩ := bnd_of h
      refine J_callIS (q := 1193) (As := [.int (gA σ 42 ((5 : Int32) + x16).toNatClampNeg), .int (gA σ 42 ((6 : Int32) + x16).toNatClampNeg)]) C (c_L_far hap  ec62) ok_L_far kM_L_45 rfl rfl rfl ⟨Nat.le_of_ble_eq_true rfl, Nat.le_of_ble_eq_true rfl⟩ (Nat.le_of_ble_eq_true rfl) dL_law_1190 rfl ?_
      refine J_iadd (q := 1194) C dL_law_1193 rfl ?_
      refine J_nmi h (fun y63 ey63 h => ?_)
      refine J_istore (q := 1196) C dL_law_1194 rfl (by decide) rfl ?_
      refine jn_elim h (fun y64 ey64 h => ?_)
      refine J_iinc (v := y64) (q := 1199) C dL_law_1196 rfl 6 rfl (by rw [ey64]; rfl) (by decide) rfl ?_
      refine J_goto (tgt := 1165) C dL_law_1199 (by decide) ?_
      refine J_sub [2, 3, 4, 5, 6, 1, 0] rfl ?_
      exact ih _ _ h
set_option maxHeartbeats 4000000 in
set_option maxRecDepth 100000 in
theorem cl_L_law_1221 {p : Program} {l : Launch} {e : Env} {s : State} {m : MethodId} {args : Array Value} {below : List Frame} {meth : Method} {c : Code} {D : va_G} {cI cR : ClassId} {ad : Nat → Nat} (hap : apN 77 ad) (C : Cx p s m args meth c cL_law 34 "WokenYearsLaw" D (tysC cI cR) 77 ad (some .boolean)) {Q : State → Prop} (hQ : LawEnd p l e s m args below meth c D ad cI cR Q) {b L : Nat} {xs : Nat → Int32} (hX : va_X b L xs s s.heap) (hbl : b < s.heap.size) (hbA : ¬ inA 77 ad b) {a5 : Int32} {a15 : Int32} {a16 : Int32} {k1296 : Int32 → Int32 → Sg → Option Bool}  (hk1296 : ∀ (u17 : Int32) (u18 : Int32) (σ1 : Sg), k1296 u17 u18 σ1 = some true → Jd p l e room_1 s m args below meth c D 77 ad (celC cI cR ad) okC 34 Q 1296 [(0, .ref b), (1, .ref (ad 0)), (2, .ref (ad (41 + 33))), (3, .ref (ad (42 + 33))), (5, .int a5), (15, .int a15), (16, .int a16), (17, .int u17), (18, .int u18)] [] σ1) : ∀ (n : Nat) (x17 : Int32) (x18 : Int32) (x19 : Int32) (x20 : Int32) (σx : Sg), l_L_law_1221 L xs a5 a15 a16 k1296 n x17 x18 x19 x20 σx = some true → Jd p l e room_1 s m args below meth c D 77 ad (celC cI cR ad) okC 34 Q 1221 [(0, .ref b), (1, .ref (ad 0)), (2, .ref (ad (41 + 33))), (3, .ref (ad (42 + 33))), (5, .int a5), (15, .int a15), (16, .int a16), (17, .int x17), (18, .int x18), (19, .int x19), (20, .int x20)] [] σx := by
  intro n
  induction n with
  | zero => intro x17 x18 x19 x20 σx h; cases h
  | succ n ih =>
    intro x17 x18 x19 x20 σx h
    unfold l_L_law_1221 at h
    refine J_iload (q := 1223) C dL_law_1221 rfl 10 rfl ?_
    refine J_aload_n (q := 1224) C dL_law_1223 rfl rfl 2 rfl ?_
    refine J_iconst (v := 1 ) (q := 1225) C dL_law_1224 rfl rfl ?_
    refine JL_iald (q := 1226) C isLA_41 h dL_law_1225 rfl (fun h => ?_)
    refine J_icmp_ge (tgt := 1296) (q := 1229) C dL_law_1226 rfl (by decide) h (fun _ h => ?_) (fun _ h => ?_)
    · refine J_sub [0, 1, 2, 3, 4, 5, 6, 7, 8] rfl ?_
      exact hk1296 _ _ _ h
    · refine J_aload_n (q := 1230) C dL_law_1229 rfl rfl 1 rfl ?_
      refine J_iconst (v := 3 ) (q := 1231) C dL_law_1230 rfl rfl ?_
      refine J_iload (q := 1233) C dL_law_1231 rfl 10 rfl ?_
      obtain ⟨r66, σ66, ec66, h⟩ := bnd2_of h
      refine J_callIV (q := 1236) (As := [.int (3 : Int32), .int x20]) C (c_X5_at hap  ec66) ok_X5_at kM_L_134 (by decide) rfl rfl rfl rfl rfl rfl ⟨Nat.le_of_ble_eq_true rfl, Nat.le_of_ble_eq_true rfl⟩ (Nat.le_of_ble_eq_true rfl) dL_law_1233 rfl ?_
      refine J_iconst (v := 1 ) (q := 1237) C dL_law_1236 rfl rfl ?_
      refine J_icmp_eq (tgt := 1242) (q := 1240) C dL_law_1237 rfl (by decide) h (fun _ h => ?_) (fun _ h => ?_)
      · refine J_aload_n (q := 1243) C dL_law_1242 rfl rfl 1 rfl ?_
        obtain ⟨r67, ec67, h⟩ := bnd_of h
        refine J_callIV (q := 1246) (As := []) C (c_X5_asked hap  ec67) ok_X5_asked kM_L_92 (by decide) rfl rfl rfl rfl rfl rfl ⟨Nat.le_of_ble_eq_true rfl, Nat.le_of_ble_eq_true rfl⟩ (Nat.le_of_ble_eq_true rfl) dL_law_1243 rfl ?_
        refine J_istore (q := 1248) C dL_law_1246 rfl (by decide) rfl ?_
        refine J_iload (q := 1250) C dL_law_1248 rfl 8 rfl ?_
        refine J_iload (q := 1252) C dL_law_1250 rfl 10 rfl ?_
        refine jn_elim h (fun k1274 ek1274 h => ?_)
        have hk1274 : ∀ (t0_1274 : Int32), k1274 t0_1274 = some true → Jd p l e room_1 s m args below meth c D 77 ad (celC cI cR ad) okC 34 Q 1274 [(0, .ref b), (1, .ref (ad 0)), (2, .ref (ad (41 + 33))), (3, .ref (ad (42 + 33))), (5, .int a5), (15, .int a15), (16, .int a16), (18, .int x18), (20, .int x20), (21, .int r67)] [.int t0_1274, .int x17] σ66 := by
          intro t0_1274 h
          rw [ek1274] at h
          refine J_iadd (q := 1275) C dL_law_1274 rfl ?_
          refine J_nmi h (fun y68 ey68 h => ?_)
          refine J_istore (q := 1277) C dL_law_1275 rfl (by decide) rfl ?_
          refine J_iload (q := 1279) C dL_law_1277 rfl 10 rfl ?_
          refine J_istore (q := 1281) C dL_law_1279 rfl (by decide) rfl ?_
          refine J_iload (q := 1283) C dL_law_1281 rfl 9 rfl ?_
          refine J_iconst (v := 1 ) (q := 1284) C dL_law_1283 rfl rfl ?_
          refine J_iload (q := 1286) C dL_law_1284 rfl 11 rfl ?_
          refine J_ishl (q := 1287) C dL_law_1286 rfl ?_
          refine J_ior (q := 1288) C dL_law_1287 rfl ?_
          refine J_nmi h (fun y69 ey69 h => ?_)
          refine J_istore (q := 1290) C dL_law_1288 rfl (by decide) rfl ?_
          refine jn_elim h (fun y70 ey70 h => ?_)
          refine J_iinc (v := y70) (q := 1293) C dL_law_1290 rfl 10 rfl (by rw [ey70]; rfl) (by decide) rfl ?_
          refine J_goto (tgt := 1221) C dL_law_1293 (by decide) ?_
          refine J_sub [4, 5, 6, 7, 8, 9, 10, 3, 1, 2, 0] rfl ?_
          exact ih _ _ _ _ _ h
        refine J_if_ge (tgt := 1259) (q := 1255) C dL_law_1252 rfl (by decide) h (fun _ h => ?_) (fun _ h => ?_)
        · refine J_aload_n (q := 1260) C dL_law_1259 rfl rfl 4 rfl ?_
          refine J_iconst (v := 5 ) (q := 1261) C dL_law_1260 rfl rfl ?_
          refine J_iload (q := 1263) C dL_law_1261 rfl 10 rfl ?_
          refine J_iadd (q := 1264) C dL_law_1263 rfl ?_
          refine JL_iald (q := 1265) C isLA_42 h dL_law_1264 rfl (fun h => ?_)
          refine J_aload_n (q := 1266) C dL_law_1265 rfl rfl 4 rfl ?_
          refine J_iconst (v := 5 ) (q := 1267) C dL_law_1266 rfl rfl ?_
          refine J_iload (q := 1269) C dL_law_1267 rfl 0 rfl ?_
          refine J_iadd (q := 1270) C dL_law_1269 rfl ?_
          refine JL_iald (q := 1271) C isLA_42 h dL_law_1270 rfl (fun h => ?_)
          obtain ⟨r71, ec71, h⟩ := bnd_of h
          refine J_callIS (q := 1274) (As := [.int (gA σ66 42 ((5 : Int32) + x19).toNatClampNeg), .int (gA σ66 42 ((5 : Int32) + r67).toNatClampNeg)]) C (c_L_far hap  ec71) ok_L_far kM_L_45 rfl rfl rfl ⟨Nat.le_of_ble_eq_true rfl, Nat.le_of_ble_eq_true rfl⟩ (Nat.le_of_ble_eq_true rfl) dL_law_1271 rfl ?_
          refine J_sub [1, 2, 3, 4, 5, 6, 7, 9, 11, 0] rfl ?_
          exact hk1274 _ h
        · refine J_iconst (v := 0 ) (q := 1256) C dL_law_1255 rfl rfl ?_
          refine J_goto (tgt := 1274) C dL_law_1256 (by decide) ?_
          refine J_sub [1, 2, 3, 4, 5, 6, 7, 9, 11, 0] rfl ?_
          exact hk1274 _ h
      · refine J_iconst (v := 0 ) (q := 1241) C dL_law_1240 rfl rfl ?_
        cases h
set_option maxHeartbeats 4000000 in
set_option maxRecDepth 100000 in
theorem cl_L_law_1346 {p : Program} {l : Launch} {e : Env} {s : State} {m : MethodId} {args : Array Value} {below : List Frame} {meth : Method} {c : Code} {D : va_G} {cI cR : ClassId} {ad : Nat → Nat} (hap : apN 77 ad) (C : Cx p s m args meth c cL_law 34 "WokenYearsLaw" D (tysC cI cR) 77 ad (some .boolean)) {Q : State → Prop} (hQ : LawEnd p l e s m args below meth c D ad cI cR Q) {b L : Nat} {xs : Nat → Int32} (hX : va_X b L xs s s.heap) (hbl : b < s.heap.size) (hbA : ¬ inA 77 ad b) {a5 : Int32} {a21 : Int32} {k1385 : Int32 → Option Bool} {σ : Sg}  (hk1385 : ∀ (u20 : Int32), k1385 u20 = some true → Jd p l e room_1 s m args below meth c D 77 ad (celC cI cR ad) okC 34 Q 1385 [(0, .ref b), (1, .ref (ad 0)), (2, .ref (ad (41 + 33))), (3, .ref (ad (42 + 33))), (5, .int a5), (20, .int u20), (21, .int a21)] [] σ) : ∀ (n : Nat) (x20 : Int32) (x22 : Int32), l_L_law_1346 L xs a5 a21 σ k1385 n x20 x22 = some true → Jd p l e room_1 s m args below meth c D 77 ad (celC cI cR ad) okC 34 Q 1346 [(0, .ref b), (1, .ref (ad 0)), (2, .ref (ad (41 + 33))), (3, .ref (ad (42 + 33))), (5, .int a5), (20, .int x20), (21, .int a21), (22, .int x22)] [] σ := by
  intro n
  induction n with
  | zero => intro x20 x22 h; cases h
  | succ n ih =>
    intro x20 x22 h
    unfold l_L_law_1346 at h
    refine J_iload (q := 1348) C dL_law_1346 rfl 7 rfl ?_
    refine J_aload_n (q := 1349) C dL_law_1348 rfl rfl 2 rfl ?_
    refine J_iconst (v := 1 ) (q := 1350) C dL_law_1349 rfl rfl ?_
    refine JL_iald (q := 1351) C isLA_41 h dL_law_1350 rfl (fun h => ?_)
    refine J_icmp_ge (tgt := 1385) (q := 1354) C dL_law_1351 rfl (by decide) h (fun _ h => ?_) (fun _ h => ?_)
    · refine J_sub [0, 1, 2, 3, 4, 5, 6] rfl ?_
      exact hk1385 _ h
    · refine J_iload (q := 1356) C dL_law_1354 rfl 5 rfl ?_
      refine J_iload (q := 1358) C dL_law_1356 rfl 6 rfl ?_
      refine J_iload (q := 1360) C dL_law_1358 rfl 7 rfl ?_
      obtain ⟨r74, ec74, h⟩ := bnd_of h
      refine J_callIS (q := 1363) (As := [.int a21, .int x22]) C (c_L_has hap  ec74) ok_L_has kM_L_108 rfl rfl rfl ⟨Nat.le_of_ble_eq_true rfl, Nat.le_of_ble_eq_true rfl⟩ (Nat.le_of_ble_eq_true rfl) dL_law_1360 rfl ?_
      refine jn_elim h (fun k1376 ek1376 h => ?_)
      have hk1376 : ∀ (t0_1376 : Int32), k1376 t0_1376 = some true → Jd p l e room_1 s m args below meth c D 77 ad (celC cI cR ad) okC 34 Q 1376 [(0, .ref b), (1, .ref (ad 0)), (2, .ref (ad (41 + 33))), (3, .ref (ad (42 + 33))), (5, .int a5), (21, .int a21), (22, .int x22)] [.int t0_1376, .int x20] σ := by
        intro t0_1376 h
        rw [ek1376] at h
        refine J_iadd (q := 1377) C dL_law_1376 rfl ?_
        refine J_nmi h (fun y75 ey75 h => ?_)
        refine J_istore (q := 1379) C dL_law_1377 rfl (by decide) rfl ?_
        refine jn_elim h (fun y76 ey76 h => ?_)
        refine J_iinc (v := y76) (q := 1382) C dL_law_1379 rfl 7 rfl (by rw [ey76]; rfl) (by decide) rfl ?_
        refine J_goto (tgt := 1346) C dL_law_1382 (by decide) ?_
        refine J_sub [2, 3, 4, 5, 6, 1, 7, 0] rfl ?_
        exact ih _ _ h
      refine J_ifeq_b (tgt := 1375) (q := 1366) C dL_law_1363 rfl (by decide) h (fun _ h => ?_) (fun _ h => ?_)
      · refine J_aload_n (q := 1367) C dL_law_1366 rfl rfl 1 rfl ?_
        refine J_iload (q := 1369) C dL_law_1367 rfl 7 rfl ?_
        obtain ⟨r77, ec77, h⟩ := bnd_of h
        refine J_callIV (q := 1372) (As := [.int x22]) C (c_X5_pays hap  ec77) ok_X5_pays kM_L_112 (by decide) rfl rfl rfl rfl rfl rfl ⟨Nat.le_of_ble_eq_true rfl, Nat.le_of_ble_eq_true rfl⟩ (Nat.le_of_ble_eq_true rfl) dL_law_1369 rfl ?_
        refine J_goto (tgt := 1376) C dL_law_1372 (by decide) ?_
        refine J_sub [0, 1, 2, 3, 4, 6, 7] rfl ?_
        exact hk1376 _ h
      · refine J_iconst (v := 0 ) (q := 1376) C dL_law_1375 rfl rfl ?_
        refine J_sub [0, 1, 2, 3, 4, 6, 7] rfl ?_
        exact hk1376 _ h
set_option maxHeartbeats 4000000 in
set_option maxRecDepth 100000 in
theorem cl_L_law_1546 {p : Program} {l : Launch} {e : Env} {s : State} {m : MethodId} {args : Array Value} {below : List Frame} {meth : Method} {c : Code} {D : va_G} {cI cR : ClassId} {ad : Nat → Nat} (hap : apN 77 ad) (C : Cx p s m args meth c cL_law 34 "WokenYearsLaw" D (tysC cI cR) 77 ad (some .boolean)) {Q : State → Prop} (hQ : LawEnd p l e s m args below meth c D ad cI cR Q) {b L : Nat} {xs : Nat → Int32} (hX : va_X b L xs s s.heap) (hbl : b < s.heap.size) (hbA : ¬ inA 77 ad b) {a5 : Int32} {a25 : Int32} {a26 : Int32} {k1700 : Sg → Option Bool}  (hk1700 : ∀ (σ1 : Sg), k1700 σ1 = some true → Jd p l e room_1 s m args below meth c D 77 ad (celC cI cR ad) okC 34 Q 1700 [(0, .ref b), (1, .ref (ad 0)), (2, .ref (ad (41 + 33))), (3, .ref (ad (42 + 33))), (5, .int a5), (25, .int a25)] [] σ1) : ∀ (n : Nat) (x27 : Int64) (x29 : Int64) (x31 : Int32) (σx : Sg), l_L_law_1546 L xs a5 a25 a26 k1700 n x27 x29 x31 σx = some true → Jd p l e room_1 s m args below meth c D 77 ad (celC cI cR ad) okC 34 Q 1546 [(0, .ref b), (1, .ref (ad 0)), (2, .ref (ad (41 + 33))), (3, .ref (ad (42 + 33))), (5, .int a5), (25, .int a25), (26, .int a26), (27, .long x27), (29, .long x29), (31, .int x31)] [] σx := by
  intro n
  induction n with
  | zero => intro x27 x29 x31 σx h; cases h
  | succ n ih =>
    intro x27 x29 x31 σx h
    unfold l_L_law_1546 at h
    refine J_iload (q := 1548) C dL_law_1546 rfl 9 rfl ?_
    refine J_bipush (v := 9) (q := 1550) C dL_law_1548 rfl rfl ?_
    refine J_icmp_ge (tgt := 1700) (q := 1553) C dL_law_1550 rfl (by decide) h (fun _ h => ?_) (fun _ h => ?_)
    · refine J_sub [0, 1, 2, 3, 4, 5] rfl ?_
      exact hk1700 _ h
    · refine J_aload_n (q := 1554) C dL_law_1553 rfl rfl 1 rfl ?_
      refine J_iload (q := 1556) C dL_law_1554 rfl 5 rfl ?_
      refine J_iload (q := 1558) C dL_law_1556 rfl 9 rfl ?_
      refine J_iload (q := 1560) C dL_law_1558 rfl 6 rfl ?_
      obtain ⟨r92, σ92, ec92, h⟩ := bnd2_of h
      refine J_callIV (q := 1563) (As := [.int a25, .int x31, .int a26]) C (c_X5_odds hap  ec92) ok_X5_odds kM_L_159 (by decide) rfl rfl rfl rfl rfl rfl ⟨Nat.le_of_ble_eq_true rfl, Nat.le_of_ble_eq_true rfl⟩ (Nat.le_of_ble_eq_true rfl) dL_law_1560 rfl ?_
      refine J_iconst (v := 1 ) (q := 1564) C dL_law_1563 rfl rfl ?_
      refine J_icmp_ne (tgt := 1615) (q := 1567) C dL_law_1564 rfl (by decide) h (fun _ h => ?_) (fun _ h => ?_)
      · refine J_aload_n (q := 1568) C dL_law_1567 rfl rfl 1 rfl ?_
        obtain ⟨r93, ec93, h⟩ := bnd_of h
        refine J_callLV (q := 1571) (As := []) C (c_X5_upper hap  ec93) ok_X5_upper kM_L_149 (by decide) rfl rfl rfl rfl rfl rfl ⟨Nat.le_of_ble_eq_true rfl, Nat.le_of_ble_eq_true rfl⟩ (Nat.le_of_ble_eq_true rfl) dL_law_1568 rfl ?_
        refine J_lconst (v := 0) (q := 1572) C dL_law_1571 rfl rfl ?_
        refine J_lcmp (q := 1573) C dL_law_1572 rfl ?_
        refine J_if_lt (tgt := 1615) (q := 1576) C dL_law_1573 rfl (by decide) h (fun _ h => ?_) (fun _ h => ?_)
        · refine J_iconst (v := 0 ) (q := 1616) C dL_law_1615 rfl rfl ?_
          cases h
        · refine J_aload_n (q := 1577) C dL_law_1576 rfl rfl 1 rfl ?_
          obtain ⟨r94, ec94, h⟩ := bnd_of h
          refine J_callLV (q := 1580) (As := []) C (c_X5_lower hap  ec94) ok_X5_lower kM_L_162 (by decide) rfl rfl rfl rfl rfl rfl ⟨Nat.le_of_ble_eq_true rfl, Nat.le_of_ble_eq_true rfl⟩ (Nat.le_of_ble_eq_true rfl) dL_law_1577 rfl ?_
          refine J_lconst (v := 1) (q := 1581) C dL_law_1580 rfl rfl ?_
          refine J_lcmp (q := 1582) C dL_law_1581 rfl ?_
          refine J_if_lt (tgt := 1615) (q := 1585) C dL_law_1582 rfl (by decide) h (fun _ h => ?_) (fun _ h => ?_)
          · refine J_iconst (v := 0 ) (q := 1616) C dL_law_1615 rfl rfl ?_
            cases h
          · refine J_aload_n (q := 1586) C dL_law_1585 rfl rfl 1 rfl ?_
            obtain ⟨r95, ec95, h⟩ := bnd_of h
            refine J_callLV (q := 1589) (As := []) C (c_X5_upper hap  ec95) ok_X5_upper kM_L_149 (by decide) rfl rfl rfl rfl rfl rfl ⟨Nat.le_of_ble_eq_true rfl, Nat.le_of_ble_eq_true rfl⟩ (Nat.le_of_ble_eq_true rfl) dL_law_1586 rfl ?_
            refine J_aload_n (q := 1590) C dL_law_1589 rfl rfl 1 rfl ?_
            obtain ⟨r96, ec96, h⟩ := bnd_of h
            refine J_callLV (q := 1593) (As := []) C (c_X5_lower hap  ec96) ok_X5_lower kM_L_162 (by decide) rfl rfl rfl rfl rfl rfl ⟨Nat.le_of_ble_eq_true rfl, Nat.le_of_ble_eq_true rfl⟩ (Nat.le_of_ble_eq_true rfl) dL_law_1590 rfl ?_
            refine J_lcmp (q := 1594) C dL_law_1593 rfl ?_
            refine J_if_gt (tgt := 1615) (q := 1597) C dL_law_1594 rfl (by decide) h (fun _ h => ?_) (fun _ h => ?_)
            · refine J_iconst (v := 0 ) (q := 1616) C dL_law_1615 rfl rfl ?_
              cases h
            · refine J_aload_n (q := 1598) C dL_law_1597 rfl rfl 1 rfl ?_
              obtain ⟨r97, ec97, h⟩ := bnd_of h
              refine J_callLV (q := 1601) (As := []) C (c_X5_upper hap  ec97) ok_X5_upper kM_L_149 (by decide) rfl rfl rfl rfl rfl rfl ⟨Nat.le_of_ble_eq_true rfl, Nat.le_of_ble_eq_true rfl⟩ (Nat.le_of_ble_eq_true rfl) dL_law_1598 rfl ?_
              refine J_lload (q := 1603) C dL_law_1601 rfl 8 rfl ?_
              refine J_lmul (q := 1604) C dL_law_1603 rfl ?_
              refine J_lload (q := 1606) C dL_law_1604 rfl 7 rfl ?_
              refine J_aload_n (q := 1607) C dL_law_1606 rfl rfl 1 rfl ?_
              obtain ⟨r98, ec98, h⟩ := bnd_of h
              refine J_callLV (q := 1610) (As := []) C (c_X5_lower hap  ec98) ok_X5_lower kM_L_162 (by decide) rfl rfl rfl rfl rfl rfl ⟨Nat.le_of_ble_eq_true rfl, Nat.le_of_ble_eq_true rfl⟩ (Nat.le_of_ble_eq_true rfl) dL_law_1607 rfl ?_
              refine J_lmul (q := 1611) C dL_law_1610 rfl ?_
              refine J_lcmp (q := 1612) C dL_law_1611 rfl ?_
              refine J_if_ge (tgt := 1617) (q := 1615) C dL_law_1612 rfl (by decide) h (fun _ h => ?_) (fun _ h => ?_)
              · refine J_aload_n (q := 1618) C dL_law_1617 rfl rfl 1 rfl ?_
                obtain ⟨r99, ec99, h⟩ := bnd_of h
                refine J_callLV (q := 1621) (As := []) C (c_X5_upper hap  ec99) ok_X5_upper kM_L_149 (by decide) rfl rfl rfl rfl rfl rfl ⟨Nat.le_of_ble_eq_true rfl, Nat.le_of_ble_eq_true rfl⟩ (Nat.le_of_ble_eq_true rfl) dL_law_1618 rfl ?_
                refine J_lstore (q := 1623) C dL_law_1621 rfl (by decide) rfl ?_
                refine J_aload_n (q := 1624) C dL_law_1623 rfl rfl 2 rfl ?_
                obtain ⟨r100, ec100, h⟩ := bnd_of h
                refine J_callLV (q := 1627) (As := []) C (c_X5_lower hap  ec100) ok_X5_lower kM_L_162 (by decide) rfl rfl rfl rfl rfl rfl ⟨Nat.le_of_ble_eq_true rfl, Nat.le_of_ble_eq_true rfl⟩ (Nat.le_of_ble_eq_true rfl) dL_law_1624 rfl ?_
                refine J_lstore (q := 1629) C dL_law_1627 rfl (by decide) rfl ?_
                refine J_aload_n (q := 1630) C dL_law_1629 rfl rfl 3 rfl ?_
                refine J_iload (q := 1632) C dL_law_1630 rfl 7 rfl ?_
                refine J_iload (q := 1634) C dL_law_1632 rfl 9 rfl ?_
                refine J_iload (q := 1636) C dL_law_1634 rfl 8 rfl ?_
                obtain ⟨r101, σ101, ec101, h⟩ := bnd2_of h
                refine J_callIV (q := 1639) (As := [.int a25, .int x31, .int a26]) C (c_X5_mid hap  ec101) ok_X5_mid kM_L_165 (by decide) rfl rfl rfl rfl rfl rfl ⟨Nat.le_of_ble_eq_true rfl, Nat.le_of_ble_eq_true rfl⟩ (Nat.le_of_ble_eq_true rfl) dL_law_1636 rfl ?_
                refine J_istore (q := 1641) C dL_law_1639 rfl (by decide) rfl ?_
                refine J_iload (q := 1643) C dL_law_1641 rfl 0 rfl ?_
                refine J_iconst (v := 1 ) (q := 1644) C dL_law_1643 rfl rfl ?_
                refine jn_elim h (fun k1672 ek1672 h => ?_)
                have hk1672 : k1672 = some true → Jd p l e room_1 s m args below meth c D 77 ad (celC cI cR ad) okC 34 Q 1672 [(0, .ref b), (1, .ref (ad 0)), (2, .ref (ad (41 + 33))), (3, .ref (ad (42 + 33))), (5, .int a5), (25, .int a25), (26, .int a26), (27, .long r99), (29, .long r100), (31, .int x31), (32, .int r101)] [] σ101 := by
                  intro  h
                  rw [ek1672] at h
                  refine J_iload (q := 1674) C dL_law_1672 rfl 10 rfl ?_
                  refine J_iconst (v := 1 ) (q := 1675) C dL_law_1674 rfl rfl ?_
                  refine jn_elim h (fun k1694 ek1694 h => ?_)
                  have hk1694 : k1694 = some true → Jd p l e room_1 s m args below meth c D 77 ad (celC cI cR ad) okC 34 Q 1694 [(0, .ref b), (1, .ref (ad 0)), (2, .ref (ad (41 + 33))), (3, .ref (ad (42 + 33))), (5, .int a5), (25, .int a25), (26, .int a26), (27, .long r99), (29, .long r100), (31, .int x31)] [] σ101 := by
                    intro  h
                    rw [ek1694] at h
                    refine jn_elim h (fun y102 ey102 h => ?_)
                    refine J_iinc (v := y102) (q := 1697) C dL_law_1694 rfl 9 rfl (by rw [ey102]; rfl) (by decide) rfl ?_
                    refine J_goto (tgt := 1546) C dL_law_1697 (by decide) ?_
                    refine J_sub [1, 2, 3, 4, 5, 6, 7, 8, 9, 0] rfl ?_
                    exact ih _ _ _ _ h
                  refine J_icmp_eq (tgt := 1694) (q := 1678) C dL_law_1675 rfl (by decide) h (fun _ h => ?_) (fun _ h => ?_)
                  · refine J_sub [0, 1, 2, 3, 4, 5, 6, 7, 8, 9] rfl ?_
                    exact hk1694 h
                  · refine J_iload (q := 1680) C dL_law_1678 rfl 10 rfl ?_
                    refine J_bipush (v := -3) (q := 1682) C dL_law_1680 rfl rfl ?_
                    refine J_icmp_ne (tgt := 1692) (q := 1685) C dL_law_1682 rfl (by decide) h (fun _ h => ?_) (fun _ h => ?_)
                    · refine J_lload (q := 1687) C dL_law_1685 rfl 7 rfl ?_
                      refine J_lconst (v := 0) (q := 1688) C dL_law_1687 rfl rfl ?_
                      refine J_lcmp (q := 1689) C dL_law_1688 rfl ?_
                      refine J_if_eq (tgt := 1694) (q := 1692) C dL_law_1689 rfl (by decide) h (fun _ h => ?_) (fun _ h => ?_)
                      · refine J_sub [0, 1, 2, 3, 4, 5, 6, 7, 8, 9] rfl ?_
                        exact hk1694 h
                      · refine J_iconst (v := 0 ) (q := 1693) C dL_law_1692 rfl rfl ?_
                        cases h
                    · refine J_iconst (v := 0 ) (q := 1693) C dL_law_1692 rfl rfl ?_
                      cases h
                refine J_icmp_ne (tgt := 1672) (q := 1647) C dL_law_1644 rfl (by decide) h (fun _ h => ?_) (fun _ h => ?_)
                · refine J_aload_n (q := 1648) C dL_law_1647 rfl rfl 4 rfl ?_
                  obtain ⟨r103, ec103, h⟩ := bnd_of h
                  refine J_callLV (q := 1651) (As := []) C (c_X5_upper hap  ec103) ok_X5_upper kM_L_149 (by decide) rfl rfl rfl rfl rfl rfl ⟨Nat.le_of_ble_eq_true rfl, Nat.le_of_ble_eq_true rfl⟩ (Nat.le_of_ble_eq_true rfl) dL_law_1648 rfl ?_
                  refine J_lconst (v := 0) (q := 1652) C dL_law_1651 rfl rfl ?_
                  refine J_lcmp (q := 1653) C dL_law_1652 rfl ?_
                  refine J_if_lt (tgt := 1692) (q := 1656) C dL_law_1653 rfl (by decide) h (fun _ h => ?_) (fun _ h => ?_)
                  · refine J_iconst (v := 0 ) (q := 1693) C dL_law_1692 rfl rfl ?_
                    cases h
                  · refine J_aload_n (q := 1657) C dL_law_1656 rfl rfl 4 rfl ?_
                    obtain ⟨r104, ec104, h⟩ := bnd_of h
                    refine J_callLV (q := 1660) (As := []) C (c_X5_upper hap  ec104) ok_X5_upper kM_L_149 (by decide) rfl rfl rfl rfl rfl rfl ⟨Nat.le_of_ble_eq_true rfl, Nat.le_of_ble_eq_true rfl⟩ (Nat.le_of_ble_eq_true rfl) dL_law_1657 rfl ?_
                    refine J_ldc2 (q := 1663) C kJ_L_168 dL_law_1660 rfl ?_
                    refine J_aload_n (q := 1664) C dL_law_1663 rfl rfl 4 rfl ?_
                    obtain ⟨r105, ec105, h⟩ := bnd_of h
                    refine J_callLV (q := 1667) (As := []) C (c_X5_lower hap  ec105) ok_X5_lower kM_L_162 (by decide) rfl rfl rfl rfl rfl rfl ⟨Nat.le_of_ble_eq_true rfl, Nat.le_of_ble_eq_true rfl⟩ (Nat.le_of_ble_eq_true rfl) dL_law_1664 rfl ?_
                    refine J_lmul (q := 1668) C dL_law_1667 rfl ?_
                    refine J_lcmp (q := 1669) C dL_law_1668 rfl ?_
                    refine J_if_gt (tgt := 1692) (q := 1672) C dL_law_1669 rfl (by decide) h (fun _ h => ?_) (fun _ h => ?_)
                    · refine J_iconst (v := 0 ) (q := 1693) C dL_law_1692 rfl rfl ?_
                      cases h
                    · refine J_sub [3, 4, 5, 6, 7, 8, 9, 2, 1, 10, 0] rfl ?_
                      exact hk1672 h
                · refine J_sub [3, 4, 5, 6, 7, 8, 9, 2, 1, 10, 0] rfl ?_
                  exact hk1672 h
              · refine J_iconst (v := 0 ) (q := 1616) C dL_law_1615 rfl rfl ?_
                cases h
      · refine J_iconst (v := 0 ) (q := 1616) C dL_law_1615 rfl rfl ?_
        cases h
