set_option maxHeartbeats 4000000 in
set_option maxRecDepth 100000 in
theorem cl_L_law_1717 {p : Program} {l : Launch} {e : Env} {s : State} {m : MethodId} {args : Array Value} {below : List Frame} {meth : Method} {c : Code} {D : va_G} {cI cR : ClassId} {ad : Nat → Nat} (hap : apN 77 ad) (C : Cx p s m args meth c cL_law 34 "WokenYearsLaw" D (tysC cI cR) 77 ad (some .boolean)) {Q : State → Prop} (hQ : LawEnd p l e s m args below meth c D ad cI cR Q) {b L : Nat} {xs : Nat → Int32} (hX : va_X b L xs s s.heap) (hbl : b < s.heap.size) (hbA : ¬ inA 77 ad b) {a5 : Int32} {a25 : Int32} {k1798 : Sg → Option Bool}  (hk1798 : ∀ (σ1 : Sg), k1798 σ1 = some true → Jd p l e room_1 s m args below meth c D 77 ad (celC cI cR ad) okC 34 Q 1798 [(1, .ref (ad 0)), (2, .ref (ad (41 + 33))), (3, .ref (ad (42 + 33))), (5, .int a5), (25, .int a25)] [] σ1) : ∀ (n : Nat) (x31 : Int32) (σx : Sg), l_L_law_1717 L xs a5 a25 k1798 n x31 σx = some true → Jd p l e room_1 s m args below meth c D 77 ad (celC cI cR ad) okC 34 Q 1717 [(0, .ref b), (1, .ref (ad 0)), (2, .ref (ad (41 + 33))), (3, .ref (ad (42 + 33))), (5, .int a5), (25, .int a25), (31, .int x31)] [] σx := by
  intro n
  induction n with
  | zero => intro x31 σx h; cases h
  | succ n ih =>
    intro x31 σx h
    unfold l_L_law_1717 at h
    refine J_iload (q := 1719) C dL_law_1717 rfl 6 rfl ?_
    refine J_iconst (v := 4 ) (q := 1720) C dL_law_1719 rfl rfl ?_
    refine J_icmp_ge (tgt := 1798) (q := 1723) C dL_law_1720 rfl (by decide) h (fun _ h => ?_) (fun _ h => ?_)
    · refine J_sub [1, 2, 3, 4, 5] rfl ?_
      exact hk1798 _ h
    · refine J_aload_n (q := 1724) C dL_law_1723 rfl rfl 0 rfl ?_
      refine J_bipush (v := 26) (q := 1726) C dL_law_1724 rfl rfl ?_
      refine J_iload (q := 1728) C dL_law_1726 rfl 6 rfl ?_
      refine J_iadd (q := 1729) C dL_law_1728 rfl ?_
      obtain ⟨r107, ec107, h⟩ := bnd_of h
      refine JS_callIS (q := 1732) (As := [.ref b, .int ((26 : Int32) + x31)]) C hX hbl hbA (c_L_cell hap hbA ec107) ok_L_cell kM_L_15 rfl rfl rfl ⟨Nat.le_of_ble_eq_true rfl, Nat.le_of_ble_eq_true rfl⟩ (Nat.le_of_ble_eq_true rfl) dL_law_1729 rfl ?_
      refine J_bipush (v := 100) (q := 1734) C dL_law_1732 rfl rfl ?_
      obtain ⟨r108, ec108, h⟩ := bnd_of h
      refine J_callIS (q := 1737) (As := [.int r107, .int (100 : Int32)]) C (c_L_low hap  ec108) ok_L_low kM_L_21 rfl rfl rfl ⟨Nat.le_of_ble_eq_true rfl, Nat.le_of_ble_eq_true rfl⟩ (Nat.le_of_ble_eq_true rfl) dL_law_1734 rfl ?_
      refine J_istore (q := 1739) C dL_law_1737 rfl (by decide) rfl ?_
      refine J_aload_n (q := 1740) C dL_law_1739 rfl rfl 2 rfl ?_
      refine J_iload (q := 1742) C dL_law_1740 rfl 6 rfl ?_
      refine J_iload (q := 1744) C dL_law_1742 rfl 0 rfl ?_
      obtain ⟨r109, ec109, h⟩ := bnd_of h
      refine J_callIV (q := 1747) (As := [.int a25, .int r108]) C (c_X5_takes hap  ec109) ok_X5_takes kM_L_123 (by decide) rfl rfl rfl rfl rfl rfl ⟨Nat.le_of_ble_eq_true rfl, Nat.le_of_ble_eq_true rfl⟩ (Nat.le_of_ble_eq_true rfl) dL_law_1744 rfl ?_
      refine J_istore (q := 1749) C dL_law_1747 rfl (by decide) rfl ?_
      refine J_aload_n (q := 1750) C dL_law_1749 rfl rfl 3 rfl ?_
      refine J_iconst (v := 5 ) (q := 1751) C dL_law_1750 rfl rfl ?_
      refine J_iconst (v := 2 ) (q := 1752) C dL_law_1751 rfl rfl ?_
      refine J_iload (q := 1754) C dL_law_1752 rfl 8 rfl ?_
      refine J_imul (q := 1755) C dL_law_1754 rfl ?_
      refine J_iload (q := 1757) C dL_law_1755 rfl 1 rfl ?_
      obtain ⟨r110, σ110, ec110, h⟩ := bnd2_of h
      refine J_callIV (q := 1760) (As := [.int (5 : Int32), .int ((2 : Int32) * x31), .int r108]) C (c_X5_lay hap  ec110) ok_X5_lay kM_L_173 (by decide) rfl rfl rfl rfl rfl rfl ⟨Nat.le_of_ble_eq_true rfl, Nat.le_of_ble_eq_true rfl⟩ (Nat.le_of_ble_eq_true rfl) dL_law_1757 rfl ?_
      refine J_iconst (v := 1 ) (q := 1761) C dL_law_1760 rfl rfl ?_
      refine J_icmp_ne (tgt := 1790) (q := 1764) C dL_law_1761 rfl (by decide) h (fun _ h => ?_) (fun _ h => ?_)
      · refine J_aload_n (q := 1765) C dL_law_1764 rfl rfl 3 rfl ?_
        refine J_iconst (v := 5 ) (q := 1766) C dL_law_1765 rfl rfl ?_
        refine J_iconst (v := 2 ) (q := 1767) C dL_law_1766 rfl rfl ?_
        refine J_iload (q := 1769) C dL_law_1767 rfl 8 rfl ?_
        refine J_imul (q := 1770) C dL_law_1769 rfl ?_
        refine J_iconst (v := 1 ) (q := 1771) C dL_law_1770 rfl rfl ?_
        refine J_iadd (q := 1772) C dL_law_1771 rfl ?_
        refine J_iload (q := 1774) C dL_law_1772 rfl 0 rfl ?_
        refine jn_elim h (fun k1783 ek1783 h => ?_)
        have hk1783 : ∀ (t0_1783 : Int32), k1783 t0_1783 = some true → Jd p l e room_1 s m args below meth c D 77 ad (celC cI cR ad) okC 34 Q 1783 [(0, .ref b), (1, .ref (ad 0)), (2, .ref (ad (41 + 33))), (3, .ref (ad (42 + 33))), (5, .int a5), (25, .int a25), (31, .int x31)] [.int t0_1783, .int (((2 : Int32) * x31) + (1 : Int32)), .int (5 : Int32), .ref (ad 0)] σ110 := by
          intro t0_1783 h
          rw [ek1783] at h
          obtain ⟨r111, σ111, ec111, h⟩ := bnd2_of h
          refine J_callIV (q := 1786) (As := [.int (5 : Int32), .int (((2 : Int32) * x31) + (1 : Int32)), .int t0_1783]) C (c_X5_lay hap  ec111) ok_X5_lay kM_L_173 (by decide) rfl rfl rfl rfl rfl rfl ⟨Nat.le_of_ble_eq_true rfl, Nat.le_of_ble_eq_true rfl⟩ (Nat.le_of_ble_eq_true rfl) dL_law_1783 rfl ?_
          refine J_iconst (v := 1 ) (q := 1787) C dL_law_1786 rfl rfl ?_
          refine J_icmp_eq (tgt := 1792) (q := 1790) C dL_law_1787 rfl (by decide) h (fun _ h => ?_) (fun _ h => ?_)
          · refine jn_elim h (fun y112 ey112 h => ?_)
            refine J_iinc (v := y112) (q := 1795) C dL_law_1792 rfl 6 rfl (by rw [ey112]; rfl) (by decide) rfl ?_
            refine J_goto (tgt := 1717) C dL_law_1795 (by decide) ?_
            refine J_sub [1, 2, 3, 4, 5, 6, 0] rfl ?_
            exact ih _ _ h
          · refine J_iconst (v := 0 ) (q := 1791) C dL_law_1790 rfl rfl ?_
            cases h
        refine J_if_ge (tgt := 1781) (q := 1777) C dL_law_1774 rfl (by decide) h (fun _ h => ?_) (fun _ h => ?_)
        · refine J_iload (q := 1783) C dL_law_1781 rfl 0 rfl ?_
          refine J_sub [2, 3, 4, 5, 6, 7, 8] rfl ?_
          exact hk1783 _ h
        · refine J_iconst (v := 0 ) (q := 1778) C dL_law_1777 rfl rfl ?_
          refine J_goto (tgt := 1783) C dL_law_1778 (by decide) ?_
          refine J_sub [2, 3, 4, 5, 6, 7, 8] rfl ?_
          exact hk1783 _ h
      · refine J_iconst (v := 0 ) (q := 1791) C dL_law_1790 rfl rfl ?_
        cases h
set_option maxHeartbeats 4000000 in
set_option maxRecDepth 100000 in
theorem cs_L_law_1798 {p : Program} {l : Launch} {e : Env} {s : State} {m : MethodId} {args : Array Value} {below : List Frame} {meth : Method} {c : Code} {D : va_G} {cI cR : ClassId} {ad : Nat → Nat} (hap : apN 77 ad) (C : Cx p s m args meth c cL_law 34 "WokenYearsLaw" D (tysC cI cR) 77 ad (some .boolean)) {Q : State → Prop} (hQ : LawEnd p l e s m args below meth c D ad cI cR Q) {b L : Nat} {xs : Nat → Int32} (hX : va_X b L xs s s.heap) (hbl : b < s.heap.size) (hbA : ¬ inA 77 ad b) {z5 : Int32} {z25 : Int32} {σ : Sg} (h : s_L_law_1798 L xs z5 z25 σ = some true) : Jd p l e room_1 s m args below meth c D 77 ad (celC cI cR ad) okC 34 Q 1798 [(1, .ref (ad 0)), (2, .ref (ad (41 + 33))), (3, .ref (ad (42 + 33))), (5, .int z5), (25, .int z25)] [] σ := by
  unfold s_L_law_1798 at h
  refine J_aload_n (q := 1799) C dL_law_1798 rfl rfl 0 rfl ?_
  refine J_iconst (v := 5 ) (q := 1800) C dL_law_1799 rfl rfl ?_
  obtain ⟨r113, σ113, ec113, h⟩ := bnd2_of h
  refine J_callIV (q := 1803) (As := [.int (5 : Int32)]) C (c_X5_whose hap  ec113) ok_X5_whose kM_L_176 (by decide) rfl rfl rfl rfl rfl rfl ⟨Nat.le_of_ble_eq_true rfl, Nat.le_of_ble_eq_true rfl⟩ (Nat.le_of_ble_eq_true rfl) dL_law_1800 rfl ?_
  refine J_iload (q := 1805) C dL_law_1803 rfl 4 rfl ?_
  obtain ⟨r114, ec114, h⟩ := bnd_of h
  refine J_callIS (q := 1808) (As := [.int r113, .int z25]) C (c_L_has hap  ec114) ok_L_has kM_L_108 rfl rfl rfl ⟨Nat.le_of_ble_eq_true rfl, Nat.le_of_ble_eq_true rfl⟩ (Nat.le_of_ble_eq_true rfl) dL_law_1805 rfl ?_
  refine J_ifeq_b (tgt := 1875) (q := 1811) C dL_law_1808 rfl (by decide) h (fun _ h => ?_) (fun _ h => ?_)
  · refine J_aload_n (q := 1812) C dL_law_1811 rfl rfl 0 rfl ?_
    refine J_iconst (v := 5 ) (q := 1813) C dL_law_1812 rfl rfl ?_
    obtain ⟨r115, σ115, ec115, h⟩ := bnd2_of h
    refine J_callIV (q := 1816) (As := [.int (5 : Int32)]) C (c_X5_kinds hap  ec115) ok_X5_kinds kM_L_179 (by decide) rfl rfl rfl rfl rfl rfl ⟨Nat.le_of_ble_eq_true rfl, Nat.le_of_ble_eq_true rfl⟩ (Nat.le_of_ble_eq_true rfl) dL_law_1813 rfl ?_
    refine J_aload_n (q := 1817) C dL_law_1816 rfl rfl 1 rfl ?_
    refine J_iconst (v := 2 ) (q := 1818) C dL_law_1817 rfl rfl ?_
    refine J_iload (q := 1820) C dL_law_1818 rfl 4 rfl ?_
    refine J_iadd (q := 1821) C dL_law_1820 rfl ?_
    refine JL_iald (q := 1822) C isLA_41 h dL_law_1821 rfl (fun h => ?_)
    obtain ⟨r116, ec116, h⟩ := bnd_of h
    refine J_callIS (q := 1825) (As := [.int r115, .int (gA σ115 41 ((2 : Int32) + z25).toNatClampNeg)]) C (c_L_has hap  ec116) ok_L_has kM_L_108 rfl rfl rfl ⟨Nat.le_of_ble_eq_true rfl, Nat.le_of_ble_eq_true rfl⟩ (Nat.le_of_ble_eq_true rfl) dL_law_1822 rfl ?_
    refine J_ifeq_b (tgt := 1875) (q := 1828) C dL_law_1825 rfl (by decide) h (fun _ h => ?_) (fun _ h => ?_)
    · refine J_aload_n (q := 1829) C dL_law_1828 rfl rfl 0 rfl ?_
      refine J_iconst (v := 5 ) (q := 1830) C dL_law_1829 rfl rfl ?_
      obtain ⟨r117, σ117, ec117, h⟩ := bnd2_of h
      refine J_callIV (q := 1833) (As := [.int (5 : Int32)]) C (c_X5_test hap  ec117) ok_X5_test kM_L_182 (by decide) rfl rfl rfl rfl rfl rfl ⟨Nat.le_of_ble_eq_true rfl, Nat.le_of_ble_eq_true rfl⟩ (Nat.le_of_ble_eq_true rfl) dL_law_1830 rfl ?_
      refine J_if_lt (tgt := 1875) (q := 1836) C dL_law_1833 rfl (by decide) h (fun _ h => ?_) (fun _ h => ?_)
      · refine J_iconst (v := 0 ) (q := 1876) C dL_law_1875 rfl rfl ?_
        cases h
      · refine J_aload_n (q := 1837) C dL_law_1836 rfl rfl 0 rfl ?_
        obtain ⟨r118, ec118, h⟩ := bnd_of h
        refine J_callIV (q := 1840) (As := []) C (c_X5_asked hap  ec118) ok_X5_asked kM_L_92 (by decide) rfl rfl rfl rfl rfl rfl ⟨Nat.le_of_ble_eq_true rfl, Nat.le_of_ble_eq_true rfl⟩ (Nat.le_of_ble_eq_true rfl) dL_law_1837 rfl ?_
        refine J_if_le (tgt := 1875) (q := 1843) C dL_law_1840 rfl (by decide) h (fun _ h => ?_) (fun _ h => ?_)
        · refine J_iconst (v := 0 ) (q := 1876) C dL_law_1875 rfl rfl ?_
          cases h
        · refine J_aload_n (q := 1844) C dL_law_1843 rfl rfl 0 rfl ?_
          obtain ⟨r119, ec119, h⟩ := bnd_of h
          refine J_callIV (q := 1847) (As := []) C (c_X5_asked hap  ec119) ok_X5_asked kM_L_92 (by decide) rfl rfl rfl rfl rfl rfl ⟨Nat.le_of_ble_eq_true rfl, Nat.le_of_ble_eq_true rfl⟩ (Nat.le_of_ble_eq_true rfl) dL_law_1844 rfl ?_
          refine J_bipush (v := 7) (q := 1849) C dL_law_1847 rfl rfl ?_
          refine J_icmp_ge (tgt := 1875) (q := 1852) C dL_law_1849 rfl (by decide) h (fun _ h => ?_) (fun _ h => ?_)
          · refine J_iconst (v := 0 ) (q := 1876) C dL_law_1875 rfl rfl ?_
            cases h
          · refine J_aload_n (q := 1853) C dL_law_1852 rfl rfl 0 rfl ?_
            refine J_iconst (v := 1 ) (q := 1854) C dL_law_1853 rfl rfl ?_
            obtain ⟨r120, σ120, ec120, h⟩ := bnd2_of h
            refine J_callIV (q := 1857) (As := [.int (1 : Int32)]) C (c_X5_on hap  ec120) ok_X5_on kM_L_137 (by decide) rfl rfl rfl rfl rfl rfl ⟨Nat.le_of_ble_eq_true rfl, Nat.le_of_ble_eq_true rfl⟩ (Nat.le_of_ble_eq_true rfl) dL_law_1854 rfl ?_
            refine J_iload (q := 1859) C dL_law_1857 rfl 3 rfl ?_
            refine J_icmp_ne (tgt := 1875) (q := 1862) C dL_law_1859 rfl (by decide) h (fun _ h => ?_) (fun _ h => ?_)
            · refine J_aload_n (q := 1863) C dL_law_1862 rfl rfl 0 rfl ?_
              refine J_aload_n (q := 1864) C dL_law_1863 rfl rfl 1 rfl ?_
              refine J_aload_n (q := 1865) C dL_law_1864 rfl rfl 2 rfl ?_
              obtain ⟨r121, σ121, ec121, h⟩ := bnd2_of h
              refine J_callIS (q := 1868) (As := [.ref (ad 0), .ref (ad (41 + 33)), .ref (ad (42 + 33))]) C (c_L_same hap isLA_41 isLA_42 ec121) ok_L_same kM_L_116 rfl rfl rfl ⟨Nat.le_of_ble_eq_true rfl, Nat.le_of_ble_eq_true rfl⟩ (Nat.le_of_ble_eq_true rfl) dL_law_1865 rfl ?_
              refine J_ifeq_b (tgt := 1875) (q := 1871) C dL_law_1868 rfl (by decide) h (fun _ h => ?_) (fun _ h => ?_)
              · refine J_iconst (v := 1 ) (q := 1872) C dL_law_1871 rfl rfl ?_
                refine J_goto (tgt := 1876) C dL_law_1872 (by decide) ?_
                exact hQ _ _ _ dL_law_1876
              · refine J_iconst (v := 0 ) (q := 1876) C dL_law_1875 rfl rfl ?_
                cases h
            · refine J_iconst (v := 0 ) (q := 1876) C dL_law_1875 rfl rfl ?_
              cases h
    · refine J_iconst (v := 0 ) (q := 1876) C dL_law_1875 rfl rfl ?_
      cases h
  · refine J_iconst (v := 0 ) (q := 1876) C dL_law_1875 rfl rfl ?_
    cases h
set_option maxHeartbeats 4000000 in
set_option maxRecDepth 100000 in
theorem cs_L_law_1700 {p : Program} {l : Launch} {e : Env} {s : State} {m : MethodId} {args : Array Value} {below : List Frame} {meth : Method} {c : Code} {D : va_G} {cI cR : ClassId} {ad : Nat → Nat} (hap : apN 77 ad) (C : Cx p s m args meth c cL_law 34 "WokenYearsLaw" D (tysC cI cR) 77 ad (some .boolean)) {Q : State → Prop} (hQ : LawEnd p l e s m args below meth c D ad cI cR Q) {b L : Nat} {xs : Nat → Int32} (hX : va_X b L xs s s.heap) (hbl : b < s.heap.size) (hbA : ¬ inA 77 ad b) {z5 : Int32} {z25 : Int32} {σ : Sg} (h : s_L_law_1700 L xs z5 z25 σ = some true) : Jd p l e room_1 s m args below meth c D 77 ad (celC cI cR ad) okC 34 Q 1700 [(0, .ref b), (1, .ref (ad 0)), (2, .ref (ad (41 + 33))), (3, .ref (ad (42 + 33))), (5, .int z5), (25, .int z25)] [] σ := by
  unfold s_L_law_1700 at h
  refine J_aload_n (q := 1701) C dL_law_1700 rfl rfl 1 rfl ?_
  refine J_iconst (v := 5 ) (q := 1702) C dL_law_1701 rfl rfl ?_
  refine J_bipush (v := 8) (q := 1704) C dL_law_1702 rfl rfl ?_
  obtain ⟨r106, σ106, ec106, h⟩ := bnd2_of h
  refine J_callIV (q := 1707) (As := [.int (5 : Int32), .int (8 : Int32)]) C (c_X5_row hap  ec106) ok_X5_row kM_L_170 (by decide) rfl rfl rfl rfl rfl rfl ⟨Nat.le_of_ble_eq_true rfl, Nat.le_of_ble_eq_true rfl⟩ (Nat.le_of_ble_eq_true rfl) dL_law_1704 rfl ?_
  refine J_bipush (v := 8) (q := 1709) C dL_law_1707 rfl rfl ?_
  refine J_icmp_eq (tgt := 1714) (q := 1712) C dL_law_1709 rfl (by decide) h (fun _ h => ?_) (fun _ h => ?_)
  · refine J_iconst (v := 0 ) (q := 1715) C dL_law_1714 rfl rfl ?_
    refine J_istore (q := 1717) C dL_law_1715 rfl (by decide) rfl ?_
    refine J_sub [1, 2, 3, 4, 5, 6, 0] rfl ?_
    refine cl_L_law_1717 hap C hQ hX hbl hbA  (fun σv1798 h => ?_) FU _ _ h
    · exact cs_L_law_1798 hap C hQ hX hbl hbA h
  · refine J_iconst (v := 0 ) (q := 1713) C dL_law_1712 rfl rfl ?_
    cases h
set_option maxHeartbeats 4000000 in
set_option maxRecDepth 100000 in
theorem cs_L_law_1385 {p : Program} {l : Launch} {e : Env} {s : State} {m : MethodId} {args : Array Value} {below : List Frame} {meth : Method} {c : Code} {D : va_G} {cI cR : ClassId} {ad : Nat → Nat} (hap : apN 77 ad) (C : Cx p s m args meth c cL_law 34 "WokenYearsLaw" D (tysC cI cR) 77 ad (some .boolean)) {Q : State → Prop} (hQ : LawEnd p l e s m args below meth c D ad cI cR Q) {b L : Nat} {xs : Nat → Int32} (hX : va_X b L xs s s.heap) (hbl : b < s.heap.size) (hbA : ¬ inA 77 ad b) {z5 : Int32} {z20 : Int32} {z21 : Int32} {σ : Sg} (h : s_L_law_1385 L xs z5 z20 z21 σ = some true) : Jd p l e room_1 s m args below meth c D 77 ad (celC cI cR ad) okC 34 Q 1385 [(0, .ref b), (1, .ref (ad 0)), (2, .ref (ad (41 + 33))), (3, .ref (ad (42 + 33))), (5, .int z5), (20, .int z20), (21, .int z21)] [] σ := by
  unfold s_L_law_1385 at h
  refine J_aload_n (q := 1386) C dL_law_1385 rfl rfl 1 rfl ?_
  refine J_iload (q := 1388) C dL_law_1386 rfl 5 rfl ?_
  obtain ⟨r78, σ78, ec78, h⟩ := bnd2_of h
  refine J_callIV (q := 1391) (As := [.int z20]) C (c_X5_sets hap  ec78) ok_X5_sets kM_L_146 (by decide) rfl rfl rfl rfl rfl rfl ⟨Nat.le_of_ble_eq_true rfl, Nat.le_of_ble_eq_true rfl⟩ (Nat.le_of_ble_eq_true rfl) dL_law_1388 rfl ?_
  refine J_iconst (v := 1 ) (q := 1392) C dL_law_1391 rfl rfl ?_
  refine J_icmp_ne (tgt := 1413) (q := 1395) C dL_law_1392 rfl (by decide) h (fun _ h => ?_) (fun _ h => ?_)
  · refine J_aload_n (q := 1396) C dL_law_1395 rfl rfl 1 rfl ?_
    obtain ⟨r79, ec79, h⟩ := bnd_of h
    refine J_callLV (q := 1399) (As := []) C (c_X5_upper hap  ec79) ok_X5_upper kM_L_149 (by decide) rfl rfl rfl rfl rfl rfl ⟨Nat.le_of_ble_eq_true rfl, Nat.le_of_ble_eq_true rfl⟩ (Nat.le_of_ble_eq_true rfl) dL_law_1396 rfl ?_
    refine J_lconst (v := 1) (q := 1400) C dL_law_1399 rfl rfl ?_
    refine J_lcmp (q := 1401) C dL_law_1400 rfl ?_
    refine J_if_lt (tgt := 1413) (q := 1404) C dL_law_1401 rfl (by decide) h (fun _ h => ?_) (fun _ h => ?_)
    · refine J_iconst (v := 0 ) (q := 1414) C dL_law_1413 rfl rfl ?_
      cases h
    · refine J_aload_n (q := 1405) C dL_law_1404 rfl rfl 1 rfl ?_
      obtain ⟨r80, ec80, h⟩ := bnd_of h
      refine J_callIV (q := 1408) (As := []) C (c_X5_asked hap  ec80) ok_X5_asked kM_L_92 (by decide) rfl rfl rfl rfl rfl rfl ⟨Nat.le_of_ble_eq_true rfl, Nat.le_of_ble_eq_true rfl⟩ (Nat.le_of_ble_eq_true rfl) dL_law_1405 rfl ?_
      refine J_iload (q := 1410) C dL_law_1408 rfl 6 rfl ?_
      refine J_icmp_le (tgt := 1415) (q := 1413) C dL_law_1410 rfl (by decide) h (fun _ h => ?_) (fun _ h => ?_)
      · refine J_aload_n (q := 1416) C dL_law_1415 rfl rfl 1 rfl ?_
        obtain ⟨r81, ec81, h⟩ := bnd_of h
        refine J_callIV (q := 1419) (As := []) C (c_X5_asked hap  ec81) ok_X5_asked kM_L_92 (by decide) rfl rfl rfl rfl rfl rfl ⟨Nat.le_of_ble_eq_true rfl, Nat.le_of_ble_eq_true rfl⟩ (Nat.le_of_ble_eq_true rfl) dL_law_1416 rfl ?_
        refine J_istore (q := 1421) C dL_law_1419 rfl (by decide) rfl ?_
        refine J_aload_n (q := 1422) C dL_law_1421 rfl rfl 2 rfl ?_
        refine J_iload (q := 1424) C dL_law_1422 rfl 6 rfl ?_
        obtain ⟨r82, σ82, ec82, h⟩ := bnd2_of h
        refine J_callIV (q := 1427) (As := [.int z20]) C (c_X5_sure hap  ec82) ok_X5_sure kM_L_153 (by decide) rfl rfl rfl rfl rfl rfl ⟨Nat.le_of_ble_eq_true rfl, Nat.le_of_ble_eq_true rfl⟩ (Nat.le_of_ble_eq_true rfl) dL_law_1424 rfl ?_
        refine J_istore (q := 1429) C dL_law_1427 rfl (by decide) rfl ?_
        refine J_aload_n (q := 1430) C dL_law_1429 rfl rfl 3 rfl ?_
        obtain ⟨r83, ec83, h⟩ := bnd_of h
        refine J_callIV (q := 1433) (As := []) C (c_X5_asked hap  ec83) ok_X5_asked kM_L_92 (by decide) rfl rfl rfl rfl rfl rfl ⟨Nat.le_of_ble_eq_true rfl, Nat.le_of_ble_eq_true rfl⟩ (Nat.le_of_ble_eq_true rfl) dL_law_1430 rfl ?_
        refine J_istore (q := 1435) C dL_law_1433 rfl (by decide) rfl ?_
        refine J_iload (q := 1437) C dL_law_1435 rfl 1 rfl ?_
        refine J_iload (q := 1439) C dL_law_1437 rfl 9 rfl ?_
        refine J_iconst (v := -1 ) (q := 1440) C dL_law_1439 rfl rfl ?_
        refine J_ixor (q := 1441) C dL_law_1440 rfl ?_
        refine J_iand (q := 1442) C dL_law_1441 rfl ?_
        refine J_if_ne (tgt := 1471) (q := 1445) C dL_law_1442 rfl (by decide) h (fun _ h => ?_) (fun _ h => ?_)
        · refine J_iload (q := 1447) C dL_law_1445 rfl 1 rfl ?_
          refine J_iload (q := 1449) C dL_law_1447 rfl 2 rfl ?_
          refine J_iconst (v := -1 ) (q := 1450) C dL_law_1449 rfl rfl ?_
          refine J_ixor (q := 1451) C dL_law_1450 rfl ?_
          refine J_iand (q := 1452) C dL_law_1451 rfl ?_
          refine J_if_ne (tgt := 1471) (q := 1455) C dL_law_1452 rfl (by decide) h (fun _ h => ?_) (fun _ h => ?_)
          · refine J_iload (q := 1457) C dL_law_1455 rfl 0 rfl ?_
            refine J_iload (q := 1459) C dL_law_1457 rfl 9 rfl ?_
            refine J_iand (q := 1460) C dL_law_1459 rfl ?_
            refine J_if_ne (tgt := 1471) (q := 1463) C dL_law_1460 rfl (by decide) h (fun _ h => ?_) (fun _ h => ?_)
            · refine J_iload (q := 1465) C dL_law_1463 rfl 0 rfl ?_
              refine J_iload (q := 1467) C dL_law_1465 rfl 1 rfl ?_
              refine J_iand (q := 1468) C dL_law_1467 rfl ?_
              refine J_if_eq (tgt := 1473) (q := 1471) C dL_law_1468 rfl (by decide) h (fun _ h => ?_) (fun _ h => ?_)
              · refine J_aload_n (q := 1474) C dL_law_1473 rfl rfl 4 rfl ?_
                refine J_iconst (v := 2 ) (q := 1475) C dL_law_1474 rfl rfl ?_
                obtain ⟨r84, σ84, ec84, h⟩ := bnd2_of h
                refine J_callIV (q := 1478) (As := [.int (2 : Int32)]) C (c_X5_duel hap  ec84) ok_X5_duel kM_L_156 (by decide) rfl rfl rfl rfl rfl rfl ⟨Nat.le_of_ble_eq_true rfl, Nat.le_of_ble_eq_true rfl⟩ (Nat.le_of_ble_eq_true rfl) dL_law_1475 rfl ?_
                refine J_iconst (v := 1 ) (q := 1479) C dL_law_1478 rfl rfl ?_
                refine J_icmp_ne (tgt := 1508) (q := 1482) C dL_law_1479 rfl (by decide) h (fun _ h => ?_) (fun _ h => ?_)
                · refine J_aload_n (q := 1483) C dL_law_1482 rfl rfl 4 rfl ?_
                  obtain ⟨r85, ec85, h⟩ := bnd_of h
                  refine J_callIV (q := 1486) (As := []) C (c_X5_asked hap  ec85) ok_X5_asked kM_L_92 (by decide) rfl rfl rfl rfl rfl rfl ⟨Nat.le_of_ble_eq_true rfl, Nat.le_of_ble_eq_true rfl⟩ (Nat.le_of_ble_eq_true rfl) dL_law_1483 rfl ?_
                  refine J_iconst (v := 3 ) (q := 1487) C dL_law_1486 rfl rfl ?_
                  refine J_icmp_gt (tgt := 1508) (q := 1490) C dL_law_1487 rfl (by decide) h (fun _ h => ?_) (fun _ h => ?_)
                  · refine J_iconst (v := 0 ) (q := 1509) C dL_law_1508 rfl rfl ?_
                    cases h
                  · refine J_aload_n (q := 1491) C dL_law_1490 rfl rfl 4 rfl ?_
                    obtain ⟨r86, ec86, h⟩ := bnd_of h
                    refine J_callIV (q := 1494) (As := []) C (c_X5_asked hap  ec86) ok_X5_asked kM_L_92 (by decide) rfl rfl rfl rfl rfl rfl ⟨Nat.le_of_ble_eq_true rfl, Nat.le_of_ble_eq_true rfl⟩ (Nat.le_of_ble_eq_true rfl) dL_law_1491 rfl ?_
                    refine J_bipush (v := -3) (q := 1496) C dL_law_1494 rfl rfl ?_
                    refine J_icmp_lt (tgt := 1508) (q := 1499) C dL_law_1496 rfl (by decide) h (fun _ h => ?_) (fun _ h => ?_)
                    · refine J_iconst (v := 0 ) (q := 1509) C dL_law_1508 rfl rfl ?_
                      cases h
                    · refine J_aload_n (q := 1500) C dL_law_1499 rfl rfl 4 rfl ?_
                      refine J_iconst (v := 0 ) (q := 1501) C dL_law_1500 rfl rfl ?_
                      obtain ⟨r87, σ87, ec87, h⟩ := bnd2_of h
                      refine J_callIV (q := 1504) (As := [.int (0 : Int32)]) C (c_X5_duel hap  ec87) ok_X5_duel kM_L_156 (by decide) rfl rfl rfl rfl rfl rfl ⟨Nat.le_of_ble_eq_true rfl, Nat.le_of_ble_eq_true rfl⟩ (Nat.le_of_ble_eq_true rfl) dL_law_1501 rfl ?_
                      refine J_iconst (v := 1 ) (q := 1505) C dL_law_1504 rfl rfl ?_
                      refine J_icmp_eq (tgt := 1510) (q := 1508) C dL_law_1505 rfl (by decide) h (fun _ h => ?_) (fun _ h => ?_)
                      · refine J_aload_n (q := 1511) C dL_law_1510 rfl rfl 3 rfl ?_
                        refine J_bipush (v := 24) (q := 1513) C dL_law_1511 rfl rfl ?_
                        obtain ⟨r88, ec88, h⟩ := bnd_of h
                        refine JS_callIS (q := 1516) (As := [.ref b, .int (24 : Int32)]) C hX hbl hbA (c_L_cell hap hbA ec88) ok_L_cell kM_L_15 rfl rfl rfl ⟨Nat.le_of_ble_eq_true rfl, Nat.le_of_ble_eq_true rfl⟩ (Nat.le_of_ble_eq_true rfl) dL_law_1513 rfl ?_
                        refine J_aload_n (q := 1517) C dL_law_1516 rfl rfl 5 rfl ?_
                        refine J_iconst (v := 1 ) (q := 1518) C dL_law_1517 rfl rfl ?_
                        refine JL_iald (q := 1519) C isLA_41 h dL_law_1518 rfl (fun h => ?_)
                        obtain ⟨r89, ec89, h⟩ := bnd_of h
                        refine J_callIS (q := 1522) (As := [.int r88, .int (gA σ87 41 (1 : Int32).toNatClampNeg)]) C (c_L_low hap  ec89) ok_L_low kM_L_21 rfl rfl rfl ⟨Nat.le_of_ble_eq_true rfl, Nat.le_of_ble_eq_true rfl⟩ (Nat.le_of_ble_eq_true rfl) dL_law_1519 rfl ?_
                        refine J_istore (q := 1524) C dL_law_1522 rfl (by decide) rfl ?_
                        refine J_aload_n (q := 1525) C dL_law_1524 rfl rfl 4 rfl ?_
                        refine J_bipush (v := 25) (q := 1527) C dL_law_1525 rfl rfl ?_
                        obtain ⟨r90, ec90, h⟩ := bnd_of h
                        refine JS_callIS (q := 1530) (As := [.ref b, .int (25 : Int32)]) C hX hbl hbA (c_L_cell hap hbA ec90) ok_L_cell kM_L_15 rfl rfl rfl ⟨Nat.le_of_ble_eq_true rfl, Nat.le_of_ble_eq_true rfl⟩ (Nat.le_of_ble_eq_true rfl) dL_law_1527 rfl ?_
                        refine J_bipush (v := 13) (q := 1532) C dL_law_1530 rfl rfl ?_
                        obtain ⟨r91, ec91, h⟩ := bnd_of h
                        refine J_callIS (q := 1535) (As := [.int r90, .int (13 : Int32)]) C (c_L_low hap  ec91) ok_L_low kM_L_21 rfl rfl rfl ⟨Nat.le_of_ble_eq_true rfl, Nat.le_of_ble_eq_true rfl⟩ (Nat.le_of_ble_eq_true rfl) dL_law_1532 rfl ?_
                        refine J_istore (q := 1537) C dL_law_1535 rfl (by decide) rfl ?_
                        refine J_lconst (v := 0) (q := 1538) C dL_law_1537 rfl rfl ?_
                        refine J_lstore (q := 1540) C dL_law_1538 rfl (by decide) rfl ?_
                        refine J_lconst (v := 1) (q := 1541) C dL_law_1540 rfl rfl ?_
                        refine J_lstore (q := 1543) C dL_law_1541 rfl (by decide) rfl ?_
                        refine J_iconst (v := 0 ) (q := 1544) C dL_law_1543 rfl rfl ?_
                        refine J_istore (q := 1546) C dL_law_1544 rfl (by decide) rfl ?_
                        refine J_sub [8, 9, 10, 11, 12, 4, 3, 2, 1, 0] rfl ?_
                        refine cl_L_law_1546 hap C hQ hX hbl hbA  (fun σv1700 h => ?_) FU _ _ _ _ h
                        · exact cs_L_law_1700 hap C hQ hX hbl hbA h
                      · refine J_iconst (v := 0 ) (q := 1509) C dL_law_1508 rfl rfl ?_
                        cases h
                · refine J_iconst (v := 0 ) (q := 1509) C dL_law_1508 rfl rfl ?_
                  cases h
              · refine J_iconst (v := 0 ) (q := 1472) C dL_law_1471 rfl rfl ?_
                cases h
            · refine J_iconst (v := 0 ) (q := 1472) C dL_law_1471 rfl rfl ?_
              cases h
          · refine J_iconst (v := 0 ) (q := 1472) C dL_law_1471 rfl rfl ?_
            cases h
        · refine J_iconst (v := 0 ) (q := 1472) C dL_law_1471 rfl rfl ?_
          cases h
      · refine J_iconst (v := 0 ) (q := 1414) C dL_law_1413 rfl rfl ?_
        cases h
  · refine J_iconst (v := 0 ) (q := 1414) C dL_law_1413 rfl rfl ?_
    cases h
set_option maxHeartbeats 4000000 in
set_option maxRecDepth 100000 in
theorem cs_L_law_1296 {p : Program} {l : Launch} {e : Env} {s : State} {m : MethodId} {args : Array Value} {below : List Frame} {meth : Method} {c : Code} {D : va_G} {cI cR : ClassId} {ad : Nat → Nat} (hap : apN 77 ad) (C : Cx p s m args meth c cL_law 34 "WokenYearsLaw" D (tysC cI cR) 77 ad (some .boolean)) {Q : State → Prop} (hQ : LawEnd p l e s m args below meth c D ad cI cR Q) {b L : Nat} {xs : Nat → Int32} (hX : va_X b L xs s s.heap) (hbl : b < s.heap.size) (hbA : ¬ inA 77 ad b) {z5 : Int32} {z15 : Int32} {z16 : Int32} {z17 : Int32} {z18 : Int32} {σ : Sg} (h : s_L_law_1296 L xs z5 z15 z16 z17 z18 σ = some true) : Jd p l e room_1 s m args below meth c D 77 ad (celC cI cR ad) okC 34 Q 1296 [(0, .ref b), (1, .ref (ad 0)), (2, .ref (ad (41 + 33))), (3, .ref (ad (42 + 33))), (5, .int z5), (15, .int z15), (16, .int z16), (17, .int z17), (18, .int z18)] [] σ := by
  unfold s_L_law_1296 at h
  refine J_iload (q := 1298) C dL_law_1296 rfl 6 rfl ?_
  refine J_iload (q := 1300) C dL_law_1298 rfl 5 rfl ?_
  refine J_icmp_gt (tgt := 1322) (q := 1303) C dL_law_1300 rfl (by decide) h (fun _ h => ?_) (fun _ h => ?_)
  · refine J_iconst (v := 0 ) (q := 1323) C dL_law_1322 rfl rfl ?_
    cases h
  · refine J_iload (q := 1305) C dL_law_1303 rfl 7 rfl ?_
    refine J_iload (q := 1307) C dL_law_1305 rfl 6 rfl ?_
    refine J_icmp_ne (tgt := 1322) (q := 1310) C dL_law_1307 rfl (by decide) h (fun _ h => ?_) (fun _ h => ?_)
    · refine J_iload (q := 1312) C dL_law_1310 rfl 8 rfl ?_
      refine J_iconst (v := 1 ) (q := 1313) C dL_law_1312 rfl rfl ?_
      refine J_aload_n (q := 1314) C dL_law_1313 rfl rfl 2 rfl ?_
      refine J_iconst (v := 1 ) (q := 1315) C dL_law_1314 rfl rfl ?_
      refine JL_iald (q := 1316) C isLA_41 h dL_law_1315 rfl (fun h => ?_)
      refine J_ishl (q := 1317) C dL_law_1316 rfl ?_
      refine J_iconst (v := 1 ) (q := 1318) C dL_law_1317 rfl rfl ?_
      refine J_isub (q := 1319) C dL_law_1318 rfl ?_
      refine J_icmp_eq (tgt := 1324) (q := 1322) C dL_law_1319 rfl (by decide) h (fun _ h => ?_) (fun _ h => ?_)
      · refine J_iconst (v := 0 ) (q := 1325) C dL_law_1324 rfl rfl ?_
        refine J_istore (q := 1327) C dL_law_1325 rfl (by decide) rfl ?_
        refine J_aload_n (q := 1328) C dL_law_1327 rfl rfl 1 rfl ?_
        refine J_bipush (v := 23) (q := 1330) C dL_law_1328 rfl rfl ?_
        obtain ⟨r72, ec72, h⟩ := bnd_of h
        refine JS_callIS (q := 1333) (As := [.ref b, .int (23 : Int32)]) C hX hbl hbA (c_L_cell hap hbA ec72) ok_L_cell kM_L_15 rfl rfl rfl ⟨Nat.le_of_ble_eq_true rfl, Nat.le_of_ble_eq_true rfl⟩ (Nat.le_of_ble_eq_true rfl) dL_law_1330 rfl ?_
        refine J_iconst (v := 1 ) (q := 1334) C dL_law_1333 rfl rfl ?_
        refine J_aload_n (q := 1335) C dL_law_1334 rfl rfl 3 rfl ?_
        refine J_iconst (v := 1 ) (q := 1336) C dL_law_1335 rfl rfl ?_
        refine JL_iald (q := 1337) C isLA_41 h dL_law_1336 rfl (fun h => ?_)
        refine J_ishl (q := 1338) C dL_law_1337 rfl ?_
        obtain ⟨r73, ec73, h⟩ := bnd_of h
        refine J_callIS (q := 1341) (As := [.int r72, .int ((1 : Int32) <<< ((gA σ 41 (1 : Int32).toNatClampNeg) &&& 31))]) C (c_L_low hap  ec73) ok_L_low kM_L_21 rfl rfl rfl ⟨Nat.le_of_ble_eq_true rfl, Nat.le_of_ble_eq_true rfl⟩ (Nat.le_of_ble_eq_true rfl) dL_law_1338 rfl ?_
        refine J_istore (q := 1343) C dL_law_1341 rfl (by decide) rfl ?_
        refine J_iconst (v := 0 ) (q := 1344) C dL_law_1343 rfl rfl ?_
        refine J_istore (q := 1346) C dL_law_1344 rfl (by decide) rfl ?_
        refine J_sub [3, 4, 5, 6, 7, 2, 1, 0] rfl ?_
        refine cl_L_law_1346 hap C hQ hX hbl hbA  (fun v20_1385 h => ?_) FU _ _ h
        · exact cs_L_law_1385 hap C hQ hX hbl hbA h
      · refine J_iconst (v := 0 ) (q := 1323) C dL_law_1322 rfl rfl ?_
        cases h
    · refine J_iconst (v := 0 ) (q := 1323) C dL_law_1322 rfl rfl ?_
      cases h
set_option maxHeartbeats 4000000 in
set_option maxRecDepth 100000 in
theorem cs_L_law_1202 {p : Program} {l : Launch} {e : Env} {s : State} {m : MethodId} {args : Array Value} {below : List Frame} {meth : Method} {c : Code} {D : va_G} {cI cR : ClassId} {ad : Nat → Nat} (hap : apN 77 ad) (C : Cx p s m args meth c cL_law 34 "WokenYearsLaw" D (tysC cI cR) 77 ad (some .boolean)) {Q : State → Prop} (hQ : LawEnd p l e s m args below meth c D ad cI cR Q) {b L : Nat} {xs : Nat → Int32} (hX : va_X b L xs s s.heap) (hbl : b < s.heap.size) (hbA : ¬ inA 77 ad b) {z5 : Int32} {z15 : Int32} {σ : Sg} (h : s_L_law_1202 L xs z5 z15 σ = some true) : Jd p l e room_1 s m args below meth c D 77 ad (celC cI cR ad) okC 34 Q 1202 [(0, .ref b), (1, .ref (ad 0)), (2, .ref (ad (41 + 33))), (3, .ref (ad (42 + 33))), (5, .int z5), (15, .int z15)] [] σ := by
  unfold s_L_law_1202 at h
  refine J_aload_n (q := 1203) C dL_law_1202 rfl rfl 1 rfl ?_
  refine J_iconst (v := 3 ) (q := 1204) C dL_law_1203 rfl rfl ?_
  obtain ⟨r65, σ65, ec65, h⟩ := bnd2_of h
  refine J_callIV (q := 1207) (As := [.int (3 : Int32)]) C (c_X5_dates hap  ec65) ok_X5_dates kM_L_143 (by decide) rfl rfl rfl rfl rfl rfl ⟨Nat.le_of_ble_eq_true rfl, Nat.le_of_ble_eq_true rfl⟩ (Nat.le_of_ble_eq_true rfl) dL_law_1204 rfl ?_
  refine J_istore (q := 1209) C dL_law_1207 rfl (by decide) rfl ?_
  refine J_iconst (v := 0 ) (q := 1210) C dL_law_1209 rfl rfl ?_
  refine J_istore (q := 1212) C dL_law_1210 rfl (by decide) rfl ?_
  refine J_iconst (v := 0 ) (q := 1213) C dL_law_1212 rfl rfl ?_
  refine J_istore (q := 1215) C dL_law_1213 rfl (by decide) rfl ?_
  refine J_iconst (v := -1 ) (q := 1216) C dL_law_1215 rfl rfl ?_
  refine J_istore (q := 1218) C dL_law_1216 rfl (by decide) rfl ?_
  refine J_iconst (v := 0 ) (q := 1219) C dL_law_1218 rfl rfl ?_
  refine J_istore (q := 1221) C dL_law_1219 rfl (by decide) rfl ?_
  refine J_sub [5, 6, 7, 8, 9, 10, 4, 3, 2, 1, 0] rfl ?_
  refine cl_L_law_1221 hap C hQ hX hbl hbA  (fun v17_1296 v18_1296 σv1296 h => ?_) FU _ _ _ _ _ h
  · exact cs_L_law_1296 hap C hQ hX hbl hbA h
set_option maxHeartbeats 4000000 in
set_option maxRecDepth 100000 in
theorem cl_L_law_982 {p : Program} {l : Launch} {e : Env} {s : State} {m : MethodId} {args : Array Value} {below : List Frame} {meth : Method} {c : Code} {D : va_G} {cI cR : ClassId} {ad : Nat → Nat} (hap : apN 77 ad) (C : Cx p s m args meth c cL_law 34 "WokenYearsLaw" D (tysC cI cR) 77 ad (some .boolean)) {Q : State → Prop} (hQ : LawEnd p l e s m args below meth c D ad cI cR Q) {b L : Nat} {xs : Nat → Int32} (hX : va_X b L xs s s.heap) (hbl : b < s.heap.size) (hbA : ¬ inA 77 ad b) {a5 : Int32} {a7 : Int32} {a8 : Bool} {a9 : Int32} {a11 : Int32} {a12 : Int32} {a13 : Int32} {a15 : Int32} {a16 : Int32} {k1013 : Int32 → Sg → Option Bool}  (hk1013 : ∀ (u17 : Int32) (σ1 : Sg), k1013 u17 σ1 = some true → Jd p l e room_1 s m args below meth c D 77 ad (celC cI cR ad) okC 34 Q 1013 [(0, .ref b), (1, .ref (ad 0)), (2, .ref (ad (41 + 33))), (3, .ref (ad (42 + 33))), (5, .int a5), (7, .int a7), (8, .int (b2i a8)), (9, .int a9), (11, .int a11), (12, .int a12), (13, .int a13), (15, .int a15), (16, .int a16), (17, .int u17)] [] σ1) : ∀ (n : Nat) (x17 : Int32) (x18 : Int32) (σx : Sg), l_L_law_982 L xs a5 a7 a8 a9 a11 a12 a13 a15 a16 k1013 n x17 x18 σx = some true → Jd p l e room_1 s m args below meth c D 77 ad (celC cI cR ad) okC 34 Q 982 [(0, .ref b), (1, .ref (ad 0)), (2, .ref (ad (41 + 33))), (3, .ref (ad (42 + 33))), (5, .int a5), (7, .int a7), (8, .int (b2i a8)), (9, .int a9), (11, .int a11), (12, .int a12), (13, .int a13), (15, .int a15), (16, .int a16), (17, .int x17), (18, .int x18)] [] σx := by
  intro n
  induction n with
  | zero => intro x17 x18 σx h; cases h
  | succ n ih =>
    intro x17 x18 σx h
    unfold l_L_law_982 at h
    refine J_iload (q := 984) C dL_law_982 rfl 14 rfl ?_
    refine J_bipush (v := 6) (q := 986) C dL_law_984 rfl rfl ?_
    refine J_icmp_ge (tgt := 1013) (q := 989) C dL_law_986 rfl (by decide) h (fun _ h => ?_) (fun _ h => ?_)
    · refine J_sub [0, 1, 2, 3, 4, 5, 6, 7, 8, 9, 10, 11, 12, 13] rfl ?_
      exact hk1013 _ _ h
    · refine J_iload (q := 991) C dL_law_989 rfl 13 rfl ?_
      refine J_if_ne (tgt := 1013) (q := 994) C dL_law_991 rfl (by decide) h (fun _ h => ?_) (fun _ h => ?_)
      · refine J_aload_n (q := 995) C dL_law_994 rfl rfl 1 rfl ?_
        obtain ⟨r126, σ126, ec126, h⟩ := bnd2_of h
        refine J_callIV (q := 998) (As := []) C (c_X5_tap hap  ec126) ok_X5_tap kM_L_75 (by decide) rfl rfl rfl rfl rfl rfl ⟨Nat.le_of_ble_eq_true rfl, Nat.le_of_ble_eq_true rfl⟩ (Nat.le_of_ble_eq_true rfl) dL_law_995 rfl ?_
        refine J_istore (q := 1000) C dL_law_998 rfl (by decide) rfl ?_
        refine J_iload (q := 1002) C dL_law_1000 rfl 0 rfl ?_
        refine J_if_ge (tgt := 1007) (q := 1005) C dL_law_1002 rfl (by decide) h (fun _ h => ?_) (fun _ h => ?_)
        · refine jn_elim h (fun y127 ey127 h => ?_)
          refine J_iinc (v := y127) (q := 1010) C dL_law_1007 rfl 14 rfl (by rw [ey127]; rfl) (by decide) rfl ?_
          refine J_goto (tgt := 982) C dL_law_1010 (by decide) ?_
          refine J_sub [2, 3, 4, 5, 6, 7, 8, 9, 10, 11, 12, 13, 14, 1, 0] rfl ?_
          exact ih _ _ _ h
        · refine J_iconst (v := 0 ) (q := 1006) C dL_law_1005 rfl rfl ?_
          cases h
      · refine J_sub [0, 1, 2, 3, 4, 5, 6, 7, 8, 9, 10, 11, 12, 13] rfl ?_
        exact hk1013 _ _ h
set_option maxHeartbeats 4000000 in
set_option maxRecDepth 100000 in
theorem cl_L_law_924 {p : Program} {l : Launch} {e : Env} {s : State} {m : MethodId} {args : Array Value} {below : List Frame} {meth : Method} {c : Code} {D : va_G} {cI cR : ClassId} {ad : Nat → Nat} (hap : apN 77 ad) (C : Cx p s m args meth c cL_law 34 "WokenYearsLaw" D (tysC cI cR) 77 ad (some .boolean)) {Q : State → Prop} (hQ : LawEnd p l e s m args below meth c D ad cI cR Q) {b L : Nat} {xs : Nat → Int32} (hX : va_X b L xs s s.heap) (hbl : b < s.heap.size) (hbA : ¬ inA 77 ad b) {a5 : Int32} {a7 : Int32} {a8 : Bool} {a9 : Int32} {a11 : Int32} {a12 : Int32} {a13 : Int32} {k1047 : Bool → Sg → Option Bool}  (hk1047 : ∀ (u14 : Bool) (σ1 : Sg), k1047 u14 σ1 = some true → Jd p l e room_1 s m args below meth c D 77 ad (celC cI cR ad) okC 34 Q 1047 [(0, .ref b), (1, .ref (ad 0)), (2, .ref (ad (41 + 33))), (3, .ref (ad (42 + 33))), (5, .int a5), (7, .int a7), (8, .int (b2i a8)), (9, .int a9), (11, .int a11), (12, .int a12), (14, .int (b2i u14))] [] σ1) : ∀ (n : Nat) (x14 : Bool) (x15 : Int32) (σx : Sg), l_L_law_924 L xs a5 a7 a8 a9 a11 a12 a13 k1047 n x14 x15 σx = some true → Jd p l e room_1 s m args below meth c D 77 ad (celC cI cR ad) okC 34 Q 924 [(0, .ref b), (1, .ref (ad 0)), (2, .ref (ad (41 + 33))), (3, .ref (ad (42 + 33))), (5, .int a5), (7, .int a7), (8, .int (b2i a8)), (9, .int a9), (11, .int a11), (12, .int a12), (13, .int a13), (14, .int (b2i x14)), (15, .int x15)] [] σx := by
  intro n
  induction n with
  | zero => intro x14 x15 σx h; cases h
  | succ n ih =>
    intro x14 x15 σx h
    unfold l_L_law_924 at h
    refine J_iload (q := 926) C dL_law_924 rfl 12 rfl ?_
    refine J_iload (q := 928) C dL_law_926 rfl 10 rfl ?_
    refine J_icmp_ge (tgt := 1047) (q := 931) C dL_law_928 rfl (by decide) h (fun _ h => ?_) (fun _ h => ?_)
    · refine J_sub [0, 1, 2, 3, 4, 5, 6, 7, 8, 9, 11] rfl ?_
      exact hk1047 _ _ h
    · refine J_iload (q := 933) C dL_law_931 rfl 11 rfl ?_
      refine J_ifeq_b (tgt := 1047) (q := 936) C dL_law_933 rfl (by decide) h (fun _ h => ?_) (fun _ h => ?_)
      · refine J_aload_n (q := 937) C dL_law_936 rfl rfl 1 rfl ?_
        refine J_iconst (v := 2 ) (q := 938) C dL_law_937 rfl rfl ?_
        refine J_iload (q := 940) C dL_law_938 rfl 12 rfl ?_
        obtain ⟨r123, σ123, ec123, h⟩ := bnd2_of h
        refine J_callIV (q := 943) (As := [.int (2 : Int32), .int x15]) C (c_X5_at hap  ec123) ok_X5_at kM_L_134 (by decide) rfl rfl rfl rfl rfl rfl ⟨Nat.le_of_ble_eq_true rfl, Nat.le_of_ble_eq_true rfl⟩ (Nat.le_of_ble_eq_true rfl) dL_law_940 rfl ?_
        refine J_iconst (v := 1 ) (q := 944) C dL_law_943 rfl rfl ?_
        refine J_icmp_eq (tgt := 949) (q := 947) C dL_law_944 rfl (by decide) h (fun _ h => ?_) (fun _ h => ?_)
        · refine J_aload_n (q := 950) C dL_law_949 rfl rfl 1 rfl ?_
          obtain ⟨r124, ec124, h⟩ := bnd_of h
          refine J_callIV (q := 953) (As := []) C (c_X5_asked hap  ec124) ok_X5_asked kM_L_92 (by decide) rfl rfl rfl rfl rfl rfl ⟨Nat.le_of_ble_eq_true rfl, Nat.le_of_ble_eq_true rfl⟩ (Nat.le_of_ble_eq_true rfl) dL_law_950 rfl ?_
          refine J_istore (q := 955) C dL_law_953 rfl (by decide) rfl ?_
          refine J_iload (q := 957) C dL_law_955 rfl 0 rfl ?_
          refine J_aload_n (q := 958) C dL_law_957 rfl rfl 2 rfl ?_
          refine J_iconst (v := 4 ) (q := 959) C dL_law_958 rfl rfl ?_
          obtain ⟨r125, ec125, h⟩ := bnd_of h
          refine J_callIV (q := 962) (As := [.int (4 : Int32)]) C (c_X5_count hap  ec125) ok_X5_count kM_L_62 (by decide) rfl rfl rfl rfl rfl rfl ⟨Nat.le_of_ble_eq_true rfl, Nat.le_of_ble_eq_true rfl⟩ (Nat.le_of_ble_eq_true rfl) dL_law_959 rfl ?_
          refine jn_elim h (fun k976 ek976 h => ?_)
          have hk976 : ∀ (σj976 : Sg), k976 σj976 = some true → Jd p l e room_1 s m args below meth c D 77 ad (celC cI cR ad) okC 34 Q 976 [(0, .ref b), (1, .ref (ad 0)), (2, .ref (ad (41 + 33))), (3, .ref (ad (42 + 33))), (5, .int a5), (7, .int a7), (8, .int (b2i a8)), (9, .int a9), (11, .int a11), (12, .int a12), (13, .int a13), (15, .int x15), (16, .int r124)] [] σj976 := by
            intro σj976 h
            rw [ek976] at h
            refine J_iconst (v := 0 ) (q := 977) C dL_law_976 rfl rfl ?_
            refine J_istore (q := 979) C dL_law_977 rfl (by decide) rfl ?_
            refine J_iconst (v := 0 ) (q := 980) C dL_law_979 rfl rfl ?_
            refine J_istore (q := 982) C dL_law_980 rfl (by decide) rfl ?_
            refine J_sub [2, 3, 4, 5, 6, 7, 8, 9, 10, 11, 12, 13, 14, 1, 0] rfl ?_
            refine cl_L_law_982 hap C hQ hX hbl hbA  (fun v17_1013 σv1013 h => ?_) FU _ _ _ h
            · refine J_iload (q := 1015) C dL_law_1013 rfl 13 rfl ?_
              refine J_iconst (v := 1 ) (q := 1016) C dL_law_1015 rfl rfl ?_
              refine jn_elim h (fun k1039 ek1039 h => ?_)
              have hk1039 : ∀ (t0_1039 : Bool), k1039 t0_1039 = some true → Jd p l e room_1 s m args below meth c D 77 ad (celC cI cR ad) okC 34 Q 1039 [(0, .ref b), (1, .ref (ad 0)), (2, .ref (ad (41 + 33))), (3, .ref (ad (42 + 33))), (5, .int a5), (7, .int a7), (8, .int (b2i a8)), (9, .int a9), (11, .int a11), (12, .int a12), (13, .int a13), (15, .int x15)] [.int (b2i t0_1039)] σv1013 := by
                intro t0_1039 h
                rw [ek1039] at h
                refine J_istore (q := 1041) C dL_law_1039 rfl (by decide) rfl ?_
                refine jn_elim h (fun y128 ey128 h => ?_)
                refine J_iinc (v := y128) (q := 1044) C dL_law_1041 rfl 12 rfl (by rw [ey128]; rfl) (by decide) rfl ?_
                refine J_goto (tgt := 924) C dL_law_1044 (by decide) ?_
                refine J_sub [2, 3, 4, 5, 6, 7, 8, 9, 10, 11, 12, 1, 0] rfl ?_
                exact ih _ _ _ h
              refine jn_elim h (fun k1038 ek1038 h => ?_)
              have hk1038 : k1038 = some true → Jd p l e room_1 s m args below meth c D 77 ad (celC cI cR ad) okC 34 Q 1038 [(0, .ref b), (1, .ref (ad 0)), (2, .ref (ad (41 + 33))), (3, .ref (ad (42 + 33))), (5, .int a5), (7, .int a7), (8, .int (b2i a8)), (9, .int a9), (11, .int a11), (12, .int a12), (13, .int a13), (15, .int x15)] [] σv1013 := by
                intro  h
                rw [ek1038] at h
                refine J_iconst (v := 0 ) (q := 1039) C dL_law_1038 rfl rfl ?_
                exact hk1039 _ h
              refine J_icmp_ne (tgt := 1038) (q := 1019) C dL_law_1016 rfl (by decide) h (fun _ h => ?_) (fun _ h => ?_)
              · refine J_aload_n (q := 1020) C dL_law_1019 rfl rfl 1 rfl ?_
                refine J_iconst (v := 1 ) (q := 1021) C dL_law_1020 rfl rfl ?_
                obtain ⟨r129, ec129, h⟩ := bnd_of h
                refine J_callIV (q := 1024) (As := [.int (1 : Int32)]) C (c_X5_count hap  ec129) ok_X5_count kM_L_62 (by decide) rfl rfl rfl rfl rfl rfl ⟨Nat.le_of_ble_eq_true rfl, Nat.le_of_ble_eq_true rfl⟩ (Nat.le_of_ble_eq_true rfl) dL_law_1021 rfl ?_
                refine J_aload_n (q := 1025) C dL_law_1024 rfl rfl 2 rfl ?_
                refine J_bipush (v := 8) (q := 1027) C dL_law_1025 rfl rfl ?_
                refine J_iload (q := 1029) C dL_law_1027 rfl 12 rfl ?_
                refine J_iadd (q := 1030) C dL_law_1029 rfl ?_
                refine JL_iald (q := 1031) C isLA_41 h dL_law_1030 rfl (fun h => ?_)
                refine J_icmp_gt (tgt := 1038) (q := 1034) C dL_law_1031 rfl (by decide) h (fun _ h => ?_) (fun _ h => ?_)
                · refine J_sub [0, 1, 2, 3, 4, 5, 6, 7, 8, 9, 10, 11] rfl ?_
                  exact hk1038 h
                · refine J_iconst (v := 1 ) (q := 1035) C dL_law_1034 rfl rfl ?_
                  refine J_goto (tgt := 1039) C dL_law_1035 (by decide) ?_
                  refine J_sub [0, 1, 2, 3, 4, 5, 6, 7, 8, 9, 10, 11] rfl ?_
                  exact hk1039 _ h
              · refine J_sub [0, 1, 2, 3, 4, 5, 6, 7, 8, 9, 10, 11] rfl ?_
                exact hk1038 h
          refine J_icmp_eq (tgt := 976) (q := 965) C dL_law_962 rfl (by decide) h (fun _ h => ?_) (fun _ h => ?_)
          · refine J_sub [1, 2, 3, 4, 5, 6, 7, 8, 9, 10, 11, 13, 0] rfl ?_
            exact hk976 _ h
          · refine J_aload_n (q := 966) C dL_law_965 rfl rfl 2 rfl ?_
            refine J_iload (q := 968) C dL_law_966 rfl 0 rfl ?_
            obtain ⟨r130, σ130, ec130, h⟩ := bnd2_of h
            refine J_callIV (q := 971) (As := [.int r124]) C (c_X5_walk hap  ec130) ok_X5_walk kM_L_69 (by decide) rfl rfl rfl rfl rfl rfl ⟨Nat.le_of_ble_eq_true rfl, Nat.le_of_ble_eq_true rfl⟩ (Nat.le_of_ble_eq_true rfl) dL_law_968 rfl ?_
            refine J_if_ge (tgt := 976) (q := 974) C dL_law_971 rfl (by decide) h (fun _ h => ?_) (fun _ h => ?_)
            · refine J_sub [1, 2, 3, 4, 5, 6, 7, 8, 9, 10, 11, 13, 0] rfl ?_
              exact hk976 _ h
            · refine J_iconst (v := 0 ) (q := 975) C dL_law_974 rfl rfl ?_
              cases h
        · refine J_iconst (v := 0 ) (q := 948) C dL_law_947 rfl rfl ?_
          cases h
      · refine J_sub [0, 1, 2, 3, 4, 5, 6, 7, 8, 9, 11] rfl ?_
        exact hk1047 _ _ h
