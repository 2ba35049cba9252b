set_option maxHeartbeats 4000000 in
set_option maxRecDepth 100000 in
theorem cl_L_law_119 {p : Program} {l : Launch} {e : Env} {s : State} {m : MethodId} {args : Array Value} {below : List Frame} {meth : Method} {c : Code} {D : va_G} {cI cR : ClassId} {ad : Nat → Nat} (hap : apN 77 ad) (C : Cx p s m args meth c cL_law 34 "WokenYearsLaw" D (tysC cI cR) 77 ad (some .boolean)) {Q : State → Prop} (hQ : LawEnd p l e s m args below meth c D ad cI cR Q) {b L : Nat} {xs : Nat → Int32} (hX : va_X b L xs s s.heap) (hbl : b < s.heap.size) (hbA : ¬ inA 77 ad b) {a5 : Int32} {a6 : Int32} {a7 : Int32} {a8 : Int32} {a9 : Int32} {a10 : Int32} {a11 : Int32} {k356 : Int32 → Sg → Option Bool}  (hk356 : ∀ (u12 : Int32) (σ1 : Sg), k356 u12 σ1 = some true → Jd p l e room_1 s m args below meth c D 77 ad (celC cI cR ad) okC 34 Q 356 [(0, .ref b), (1, .ref (ad 0)), (2, .ref (ad (41 + 33))), (3, .ref (ad (42 + 33))), (4, .ref (ad (43 + 33))), (5, .int a5), (6, .int a6), (7, .int a7), (8, .int a8), (9, .int a9), (12, .int u12)] [] σ1) : ∀ (n : Nat) (x12 : Int32) (x13 : Int32) (σx : Sg), l_L_law_119 L xs a5 a6 a7 a8 a9 a10 a11 k356 n x12 x13 σx = some true → Jd p l e room_1 s m args below meth c D 77 ad (celC cI cR ad) okC 34 Q 119 [(0, .ref b), (1, .ref (ad 0)), (2, .ref (ad (41 + 33))), (3, .ref (ad (42 + 33))), (4, .ref (ad (43 + 33))), (5, .int a5), (6, .int a6), (7, .int a7), (8, .int a8), (9, .int a9), (10, .int a10), (11, .int a11), (12, .int x12), (13, .int x13)] [] σx := by
  intro n
  induction n with
  | zero => intro x12 x13 σx h; cases h
  | succ n ih =>
    intro x12 x13 σx h
    unfold l_L_law_119 at h
    refine J_iload (q := 121) C dL_law_119 rfl 13 rfl ?_
    refine J_aload_n (q := 122) C dL_law_121 rfl rfl 2 rfl ?_
    refine J_iconst (v := 1 ) (q := 123) C dL_law_122 rfl rfl ?_
    refine JL_iald (q := 124) C isLA_41 h dL_law_123 rfl (fun h => ?_)
    refine J_icmp_ge (tgt := 356) (q := 127) C dL_law_124 rfl (by decide) h (fun _ h => ?_) (fun _ h => ?_)
    · refine J_sub [0, 1, 2, 3, 4, 5, 6, 7, 8, 9, 12] rfl ?_
      exact hk356 _ _ h
    · refine J_aload_n (q := 128) C dL_law_127 rfl rfl 1 rfl ?_
      refine J_iload (q := 130) C dL_law_128 rfl 13 rfl ?_
      refine J_iconst (v := 4 ) (q := 131) C dL_law_130 rfl rfl ?_
      obtain ⟨r9, σ9, ec9, h⟩ := bnd2_of h
      refine J_callIV (q := 134) (As := [.int x13, .int (4 : Int32)]) C (c_X5_house hap  ec9) ok_X5_house kM_L_89 (by decide) rfl rfl rfl rfl rfl rfl ⟨Nat.le_of_ble_eq_true rfl, Nat.le_of_ble_eq_true rfl⟩ (Nat.le_of_ble_eq_true rfl) dL_law_131 rfl ?_
      refine J_iconst (v := 1 ) (q := 135) C dL_law_134 rfl rfl ?_
      refine J_icmp_eq (tgt := 140) (q := 138) C dL_law_135 rfl (by decide) h (fun _ h => ?_) (fun _ h => ?_)
      · refine J_aload_n (q := 141) C dL_law_140 rfl rfl 1 rfl ?_
        obtain ⟨r10, ec10, h⟩ := bnd_of h
        refine J_callIV (q := 144) (As := []) C (c_X5_asked hap  ec10) ok_X5_asked kM_L_92 (by decide) rfl rfl rfl rfl rfl rfl ⟨Nat.le_of_ble_eq_true rfl, Nat.le_of_ble_eq_true rfl⟩ (Nat.le_of_ble_eq_true rfl) dL_law_141 rfl ?_
        refine J_istore (q := 146) C dL_law_144 rfl (by decide) rfl ?_
        refine J_iload (q := 148) C dL_law_146 rfl 12 rfl ?_
        refine J_iload (q := 150) C dL_law_148 rfl 14 rfl ?_
        obtain ⟨r11, ec11, h⟩ := bnd_of h
        refine J_callIS (q := 153) (As := [.int a11, .int x13]) C (c_L_has hap  ec11) ok_L_has kM_L_108 rfl rfl rfl ⟨Nat.le_of_ble_eq_true rfl, Nat.le_of_ble_eq_true rfl⟩ (Nat.le_of_ble_eq_true rfl) dL_law_150 rfl ?_
        refine jn_elim h (fun k171 ek171 h => ?_)
        have hk171 : ∀ (t0_171 : Bool), k171 t0_171 = some true → Jd p l e room_1 s m args below meth c D 77 ad (celC cI cR ad) okC 34 Q 171 [(0, .ref b), (1, .ref (ad 0)), (2, .ref (ad (41 + 33))), (3, .ref (ad (42 + 33))), (4, .ref (ad (43 + 33))), (5, .int a5), (6, .int a6), (7, .int a7), (8, .int a8), (9, .int a9), (10, .int a10), (11, .int a11), (12, .int x12), (13, .int x13), (14, .int r10)] [.int (b2i t0_171)] σ9 := by
          intro t0_171 h
          rw [ek171] at h
          refine J_istore (q := 173) C dL_law_171 rfl (by decide) rfl ?_
          refine J_iload (q := 175) C dL_law_173 rfl 13 rfl ?_
          refine J_iload (q := 177) C dL_law_175 rfl 0 rfl ?_
          refine jn_elim h (fun k190 ek190 h => ?_)
          have hk190 : ∀ (t0_190 : Int32), k190 t0_190 = some true → Jd p l e room_1 s m args below meth c D 77 ad (celC cI cR ad) okC 34 Q 190 [(0, .ref b), (1, .ref (ad 0)), (2, .ref (ad (41 + 33))), (3, .ref (ad (42 + 33))), (4, .ref (ad (43 + 33))), (5, .int a5), (6, .int a6), (7, .int a7), (8, .int a8), (9, .int a9), (10, .int a10), (11, .int a11), (13, .int x13), (14, .int r10), (15, .int (b2i t0_171))] [.int t0_190, .int x12] σ9 := by
            intro t0_190 h
            rw [ek190] at h
            refine J_iadd (q := 191) C dL_law_190 rfl ?_
            refine J_nmi h (fun y12 ey12 h => ?_)
            refine J_istore (q := 193) C dL_law_191 rfl (by decide) rfl ?_
            refine J_iload (q := 195) C dL_law_193 rfl 14 rfl ?_
            refine jn_elim h (fun k203 ek203 h => ?_)
            have hk203 : ∀ (t0_203 : Bool), k203 t0_203 = some true → Jd p l e room_1 s m args below meth c D 77 ad (celC cI cR ad) okC 34 Q 203 [(0, .ref b), (1, .ref (ad 0)), (2, .ref (ad (41 + 33))), (3, .ref (ad (42 + 33))), (4, .ref (ad (43 + 33))), (5, .int a5), (6, .int a6), (7, .int a7), (8, .int a8), (9, .int a9), (10, .int a10), (11, .int a11), (12, .int y12), (13, .int x13), (14, .int r10), (15, .int (b2i t0_171))] [.int (b2i t0_203)] σ9 := by
              intro t0_203 h
              rw [ek203] at h
              refine J_iload (q := 205) C dL_law_203 rfl 11 rfl ?_
              refine J_iload (q := 207) C dL_law_205 rfl 13 rfl ?_
              obtain ⟨r13, ec13, h⟩ := bnd_of h
              refine J_callIS (q := 210) (As := [.int a11, .int x13]) C (c_L_has hap  ec13) ok_L_has kM_L_108 rfl rfl rfl ⟨Nat.le_of_ble_eq_true rfl, Nat.le_of_ble_eq_true rfl⟩ (Nat.le_of_ble_eq_true rfl) dL_law_207 rfl ?_
              refine J_icmp_ne (tgt := 305) (q := 213) C dL_law_210 rfl (by decide) h (fun _ h => ?_) (fun _ h => ?_)
              · refine J_iload (q := 215) C dL_law_213 rfl 15 rfl ?_
                refine jn_elim h (fun k252 ek252 h => ?_)
                have hk252 : k252 = some true → Jd p l e room_1 s m args below meth c D 77 ad (celC cI cR ad) okC 34 Q 252 [(0, .ref b), (1, .ref (ad 0)), (2, .ref (ad (41 + 33))), (3, .ref (ad (42 + 33))), (4, .ref (ad (43 + 33))), (5, .int a5), (6, .int a6), (7, .int a7), (8, .int a8), (9, .int a9), (10, .int a10), (11, .int a11), (12, .int y12), (13, .int x13), (14, .int r10)] [] σ9 := by
                  intro  h
                  rw [ek252] at h
                  refine J_aload_n (q := 253) C dL_law_252 rfl rfl 2 rfl ?_
                  refine J_iconst (v := 2 ) (q := 254) C dL_law_253 rfl rfl ?_
                  refine J_iload (q := 256) C dL_law_254 rfl 13 rfl ?_
                  refine J_iadd (q := 257) C dL_law_256 rfl ?_
                  refine JL_iald (q := 258) C isLA_41 h dL_law_257 rfl (fun h => ?_)
                  refine J_iconst (v := 3 ) (q := 259) C dL_law_258 rfl rfl ?_
                  refine jn_elim h (fun k272 ek272 h => ?_)
                  have hk272 : k272 = some true → Jd p l e room_1 s m args below meth c D 77 ad (celC cI cR ad) okC 34 Q 272 [(0, .ref b), (1, .ref (ad 0)), (2, .ref (ad (41 + 33))), (3, .ref (ad (42 + 33))), (4, .ref (ad (43 + 33))), (5, .int a5), (6, .int a6), (7, .int a7), (8, .int a8), (9, .int a9), (10, .int a10), (11, .int a11), (12, .int y12), (13, .int x13), (14, .int r10)] [] σ9 := by
                    intro  h
                    rw [ek272] at h
                    refine J_iload (q := 274) C dL_law_272 rfl 10 rfl ?_
                    refine J_iload (q := 276) C dL_law_274 rfl 13 rfl ?_
                    obtain ⟨r14, ec14, h⟩ := bnd_of h
                    refine J_callIS (q := 279) (As := [.int a10, .int x13]) C (c_L_has hap  ec14) ok_L_has kM_L_108 rfl rfl rfl ⟨Nat.le_of_ble_eq_true rfl, Nat.le_of_ble_eq_true rfl⟩ (Nat.le_of_ble_eq_true rfl) dL_law_276 rfl ?_
                    refine jn_elim h (fun k307 ek307 h => ?_)
                    have hk307 : k307 = some true → Jd p l e room_1 s m args below meth c D 77 ad (celC cI cR ad) okC 34 Q 307 [(0, .ref b), (1, .ref (ad 0)), (2, .ref (ad (41 + 33))), (3, .ref (ad (42 + 33))), (4, .ref (ad (43 + 33))), (5, .int a5), (6, .int a6), (7, .int a7), (8, .int a8), (9, .int a9), (10, .int a10), (11, .int a11), (12, .int y12), (13, .int x13)] [] σ9 := by
                      intro  h
                      rw [ek307] at h
                      refine J_aload_n (q := 308) C dL_law_307 rfl rfl 1 rfl ?_
                      refine J_iload (q := 310) C dL_law_308 rfl 13 rfl ?_
                      refine J_iconst (v := 5 ) (q := 311) C dL_law_310 rfl rfl ?_
                      obtain ⟨r15, σ15, ec15, h⟩ := bnd2_of h
                      refine J_callIV (q := 314) (As := [.int x13, .int (5 : Int32)]) C (c_X5_house hap  ec15) ok_X5_house kM_L_89 (by decide) rfl rfl rfl rfl rfl rfl ⟨Nat.le_of_ble_eq_true rfl, Nat.le_of_ble_eq_true rfl⟩ (Nat.le_of_ble_eq_true rfl) dL_law_311 rfl ?_
                      refine J_iconst (v := 1 ) (q := 315) C dL_law_314 rfl rfl ?_
                      refine J_icmp_ne (tgt := 348) (q := 318) C dL_law_315 rfl (by decide) h (fun _ h => ?_) (fun _ h => ?_)
                      · refine J_aload_n (q := 319) C dL_law_318 rfl rfl 1 rfl ?_
                        obtain ⟨r16, ec16, h⟩ := bnd_of h
                        refine J_callIV (q := 322) (As := []) C (c_X5_asked hap  ec16) ok_X5_asked kM_L_92 (by decide) rfl rfl rfl rfl rfl rfl ⟨Nat.le_of_ble_eq_true rfl, Nat.le_of_ble_eq_true rfl⟩ (Nat.le_of_ble_eq_true rfl) dL_law_319 rfl ?_
                        refine jn_elim h (fun k330 ek330 h => ?_)
                        have hk330 : ∀ (t0_330 : Bool), k330 t0_330 = some true → Jd p l e room_1 s m args below meth c D 77 ad (celC cI cR ad) okC 34 Q 330 [(0, .ref b), (1, .ref (ad 0)), (2, .ref (ad (41 + 33))), (3, .ref (ad (42 + 33))), (4, .ref (ad (43 + 33))), (5, .int a5), (6, .int a6), (7, .int a7), (8, .int a8), (9, .int a9), (10, .int a10), (11, .int a11), (12, .int y12), (13, .int x13)] [.int (b2i t0_330)] σ15 := by
                          intro t0_330 h
                          rw [ek330] at h
                          refine J_iload (q := 332) C dL_law_330 rfl 11 rfl ?_
                          refine J_iload (q := 334) C dL_law_332 rfl 13 rfl ?_
                          obtain ⟨r17, ec17, h⟩ := bnd_of h
                          refine J_callIS (q := 337) (As := [.int a11, .int x13]) C (c_L_has hap  ec17) ok_L_has kM_L_108 rfl rfl rfl ⟨Nat.le_of_ble_eq_true rfl, Nat.le_of_ble_eq_true rfl⟩ (Nat.le_of_ble_eq_true rfl) dL_law_334 rfl ?_
                          refine J_icmp_ne (tgt := 348) (q := 340) C dL_law_337 rfl (by decide) h (fun _ h => ?_) (fun _ h => ?_)
                          · refine J_aload_n (q := 341) C dL_law_340 rfl rfl 1 rfl ?_
                            obtain ⟨r18, ec18, h⟩ := bnd_of h
                            refine J_callIV (q := 344) (As := []) C (c_X5_asked hap  ec18) ok_X5_asked kM_L_92 (by decide) rfl rfl rfl rfl rfl rfl ⟨Nat.le_of_ble_eq_true rfl, Nat.le_of_ble_eq_true rfl⟩ (Nat.le_of_ble_eq_true rfl) dL_law_341 rfl ?_
                            refine J_iconst (v := 5 ) (q := 345) C dL_law_344 rfl rfl ?_
                            refine J_icmp_le (tgt := 350) (q := 348) C dL_law_345 rfl (by decide) h (fun _ h => ?_) (fun _ h => ?_)
                            · refine jn_elim h (fun y19 ey19 h => ?_)
                              refine J_iinc (v := y19) (q := 353) C dL_law_350 rfl 13 rfl (by rw [ey19]; rfl) (by decide) rfl ?_
                              refine J_goto (tgt := 119) C dL_law_353 (by decide) ?_
                              refine J_sub [1, 2, 3, 4, 5, 6, 7, 8, 9, 10, 11, 12, 13, 0] rfl ?_
                              exact ih _ _ _ h
                            · refine J_iconst (v := 0 ) (q := 349) C dL_law_348 rfl rfl ?_
                              cases h
                          · refine J_iconst (v := 0 ) (q := 349) C dL_law_348 rfl rfl ?_
                            cases h
                        refine J_if_ne (tgt := 329) (q := 325) C dL_law_322 rfl (by decide) h (fun _ h => ?_) (fun _ h => ?_)
                        · refine J_iconst (v := 1 ) (q := 326) C dL_law_325 rfl rfl ?_
                          refine J_goto (tgt := 330) C dL_law_326 (by decide) ?_
                          exact hk330 _ h
                        · refine J_iconst (v := 0 ) (q := 330) C dL_law_329 rfl rfl ?_
                          exact hk330 _ h
                      · refine J_iconst (v := 0 ) (q := 349) C dL_law_348 rfl rfl ?_
                        cases h
                    refine J_ifeq_b (tgt := 307) (q := 282) C dL_law_279 rfl (by decide) h (fun _ h => ?_) (fun _ h => ?_)
                    · refine J_iload (q := 284) C dL_law_282 rfl 11 rfl ?_
                      refine J_iload (q := 286) C dL_law_284 rfl 13 rfl ?_
                      obtain ⟨r20, ec20, h⟩ := bnd_of h
                      refine J_callIS (q := 289) (As := [.int a11, .int x13]) C (c_L_has hap  ec20) ok_L_has kM_L_108 rfl rfl rfl ⟨Nat.le_of_ble_eq_true rfl, Nat.le_of_ble_eq_true rfl⟩ (Nat.le_of_ble_eq_true rfl) dL_law_286 rfl ?_
                      refine J_ifeq_b (tgt := 307) (q := 292) C dL_law_289 rfl (by decide) h (fun _ h => ?_) (fun _ h => ?_)
                      · refine J_iload (q := 294) C dL_law_292 rfl 14 rfl ?_
                        refine J_aload (q := 296) C dL_law_294 rfl 4 rfl ?_
                        refine J_bipush (v := 17) (q := 298) C dL_law_296 rfl rfl ?_
                        refine J_iload (q := 300) C dL_law_298 rfl 13 rfl ?_
                        refine J_iadd (q := 301) C dL_law_300 rfl ?_
                        refine JL_iald (q := 302) C isLA_43 h dL_law_301 rfl (fun h => ?_)
                        refine J_icmp_eq (tgt := 307) (q := 305) C dL_law_302 rfl (by decide) h (fun _ h => ?_) (fun _ h => ?_)
                        · refine J_sub [0, 1, 2, 3, 4, 5, 6, 7, 8, 9, 10, 11, 12, 13] rfl ?_
                          exact hk307 h
                        · refine J_iconst (v := 0 ) (q := 306) C dL_law_305 rfl rfl ?_
                          cases h
                      · refine J_sub [0, 1, 2, 3, 4, 5, 6, 7, 8, 9, 10, 11, 12, 13] rfl ?_
                        exact hk307 h
                    · refine J_sub [0, 1, 2, 3, 4, 5, 6, 7, 8, 9, 10, 11, 12, 13] rfl ?_
                      exact hk307 h
                  refine J_icmp_ne (tgt := 272) (q := 262) C dL_law_259 rfl (by decide) h (fun _ h => ?_) (fun _ h => ?_)
                  · refine J_iload (q := 264) C dL_law_262 rfl 11 rfl ?_
                    refine J_iload (q := 266) C dL_law_264 rfl 13 rfl ?_
                    obtain ⟨r21, ec21, h⟩ := bnd_of h
                    refine J_callIS (q := 269) (As := [.int a11, .int x13]) C (c_L_has hap  ec21) ok_L_has kM_L_108 rfl rfl rfl ⟨Nat.le_of_ble_eq_true rfl, Nat.le_of_ble_eq_true rfl⟩ (Nat.le_of_ble_eq_true rfl) dL_law_266 rfl ?_
                    refine J_ifne_b (tgt := 305) (q := 272) C dL_law_269 rfl (by decide) h (fun _ h => ?_) (fun _ h => ?_)
                    · refine J_iconst (v := 0 ) (q := 306) C dL_law_305 rfl rfl ?_
                      cases h
                    · exact hk272 h
                  · exact hk272 h
                refine J_ifeq_b (tgt := 252) (q := 218) C dL_law_215 rfl (by decide) h (fun _ h => ?_) (fun _ h => ?_)
                · refine J_iload (q := 220) C dL_law_218 rfl 8 rfl ?_
                  refine J_iconst (v := 3 ) (q := 221) C dL_law_220 rfl rfl ?_
                  refine J_icmp_lt (tgt := 305) (q := 224) C dL_law_221 rfl (by decide) h (fun _ h => ?_) (fun _ h => ?_)
                  · refine J_iconst (v := 0 ) (q := 306) C dL_law_305 rfl rfl ?_
                    cases h
                  · refine J_iload (q := 226) C dL_law_224 rfl 8 rfl ?_
                    refine J_bipush (v := 8) (q := 228) C dL_law_226 rfl rfl ?_
                    refine J_icmp_gt (tgt := 305) (q := 231) C dL_law_228 rfl (by decide) h (fun _ h => ?_) (fun _ h => ?_)
                    · refine J_iconst (v := 0 ) (q := 306) C dL_law_305 rfl rfl ?_
                      cases h
                    · refine J_iload (q := 233) C dL_law_231 rfl 14 rfl ?_
                      refine J_aload (q := 235) C dL_law_233 rfl 4 rfl ?_
                      refine J_iconst (v := 5 ) (q := 236) C dL_law_235 rfl rfl ?_
                      refine J_iload (q := 238) C dL_law_236 rfl 13 rfl ?_
                      refine J_iadd (q := 239) C dL_law_238 rfl ?_
                      refine JL_iald (q := 240) C isLA_43 h dL_law_239 rfl (fun h => ?_)
                      refine J_icmp_ne (tgt := 305) (q := 243) C dL_law_240 rfl (by decide) h (fun _ h => ?_) (fun _ h => ?_)
                      · refine J_iload (q := 245) C dL_law_243 rfl 13 rfl ?_
                        refine J_aload (q := 247) C dL_law_245 rfl 4 rfl ?_
                        refine J_iconst (v := 2 ) (q := 248) C dL_law_247 rfl rfl ?_
                        refine JL_iald (q := 249) C isLA_43 h dL_law_248 rfl (fun h => ?_)
                        refine J_icmp_ne (tgt := 305) (q := 252) C dL_law_249 rfl (by decide) h (fun _ h => ?_) (fun _ h => ?_)
                        · refine J_sub [0, 1, 2, 3, 4, 5, 6, 7, 8, 9, 10, 11, 12, 13, 14] rfl ?_
                          exact hk252 h
                        · refine J_iconst (v := 0 ) (q := 306) C dL_law_305 rfl rfl ?_
                          cases h
                      · refine J_iconst (v := 0 ) (q := 306) C dL_law_305 rfl rfl ?_
                        cases h
                · refine J_sub [0, 1, 2, 3, 4, 5, 6, 7, 8, 9, 10, 11, 12, 13, 14] rfl ?_
                  exact hk252 h
              · refine J_iconst (v := 0 ) (q := 306) C dL_law_305 rfl rfl ?_
                cases h
            refine J_if_lt (tgt := 202) (q := 198) C dL_law_195 rfl (by decide) h (fun _ h => ?_) (fun _ h => ?_)
            · refine J_iconst (v := 0 ) (q := 203) C dL_law_202 rfl rfl ?_
              refine J_sub [1, 2, 3, 4, 5, 6, 7, 8, 9, 10, 11, 12, 0, 13, 14, 15] rfl ?_
              exact hk203 _ h
            · refine J_iconst (v := 1 ) (q := 199) C dL_law_198 rfl rfl ?_
              refine J_goto (tgt := 203) C dL_law_199 (by decide) ?_
              refine J_sub [1, 2, 3, 4, 5, 6, 7, 8, 9, 10, 11, 12, 0, 13, 14, 15] rfl ?_
              exact hk203 _ h
          refine J_ifeq_b (tgt := 189) (q := 180) C dL_law_177 rfl (by decide) h (fun _ h => ?_) (fun _ h => ?_)
          · refine J_aload_n (q := 181) C dL_law_180 rfl rfl 2 rfl ?_
            refine J_iload (q := 183) C dL_law_181 rfl 14 rfl ?_
            obtain ⟨r22, ec22, h⟩ := bnd_of h
            refine J_callIV (q := 186) (As := [.int x13]) C (c_X5_pays hap  ec22) ok_X5_pays kM_L_112 (by decide) rfl rfl rfl rfl rfl rfl ⟨Nat.le_of_ble_eq_true rfl, Nat.le_of_ble_eq_true rfl⟩ (Nat.le_of_ble_eq_true rfl) dL_law_183 rfl ?_
            refine J_goto (tgt := 190) C dL_law_186 (by decide) ?_
            refine J_sub [1, 2, 3, 4, 5, 6, 7, 8, 9, 10, 11, 12, 14, 15, 0] rfl ?_
            exact hk190 _ h
          · refine J_iconst (v := 0 ) (q := 190) C dL_law_189 rfl rfl ?_
            refine J_sub [1, 2, 3, 4, 5, 6, 7, 8, 9, 10, 11, 12, 14, 15, 0] rfl ?_
            exact hk190 _ h
        refine jn_elim h (fun k170 ek170 h => ?_)
        have hk170 : k170 = some true → Jd p l e room_1 s m args below meth c D 77 ad (celC cI cR ad) okC 34 Q 170 [(0, .ref b), (1, .ref (ad 0)), (2, .ref (ad (41 + 33))), (3, .ref (ad (42 + 33))), (4, .ref (ad (43 + 33))), (5, .int a5), (6, .int a6), (7, .int a7), (8, .int a8), (9, .int a9), (10, .int a10), (11, .int a11), (12, .int x12), (13, .int x13), (14, .int r10)] [] σ9 := by
          intro  h
          rw [ek170] at h
          refine J_iconst (v := 0 ) (q := 171) C dL_law_170 rfl rfl ?_
          exact hk171 _ h
        refine J_ifeq_b (tgt := 170) (q := 156) C dL_law_153 rfl (by decide) h (fun _ h => ?_) (fun _ h => ?_)
        · refine J_iload (q := 158) C dL_law_156 rfl 11 rfl ?_
          refine J_iload (q := 160) C dL_law_158 rfl 14 rfl ?_
          obtain ⟨r23, ec23, h⟩ := bnd_of h
          refine J_callIS (q := 163) (As := [.int a10, .int x13]) C (c_L_has hap  ec23) ok_L_has kM_L_108 rfl rfl rfl ⟨Nat.le_of_ble_eq_true rfl, Nat.le_of_ble_eq_true rfl⟩ (Nat.le_of_ble_eq_true rfl) dL_law_160 rfl ?_
          refine J_ifne_b (tgt := 170) (q := 166) C dL_law_163 rfl (by decide) h (fun _ h => ?_) (fun _ h => ?_)
          · refine J_sub [1, 2, 3, 4, 5, 6, 7, 8, 9, 10, 11, 12, 13, 14, 0] rfl ?_
            exact hk170 h
          · refine J_iconst (v := 1 ) (q := 167) C dL_law_166 rfl rfl ?_
            refine J_goto (tgt := 171) C dL_law_167 (by decide) ?_
            refine J_sub [1, 2, 3, 4, 5, 6, 7, 8, 9, 10, 11, 12, 13, 14, 0] rfl ?_
            exact hk171 _ h
        · refine J_sub [1, 2, 3, 4, 5, 6, 7, 8, 9, 10, 11, 12, 13, 14, 0] rfl ?_
          exact hk170 h
      · refine J_iconst (v := 0 ) (q := 139) C dL_law_138 rfl rfl ?_
        cases h
set_option maxHeartbeats 4000000 in
set_option maxRecDepth 100000 in
theorem cl_L_law_41 {p : Program} {l : Launch} {e : Env} {s : State} {m : MethodId} {args : Array Value} {below : List Frame} {meth : Method} {c : Code} {D : va_G} {cI cR : ClassId} {ad : Nat → Nat} (hap : apN 77 ad) (C : Cx p s m args meth c cL_law 34 "WokenYearsLaw" D (tysC cI cR) 77 ad (some .boolean)) {Q : State → Prop} (hQ : LawEnd p l e s m args below meth c D ad cI cR Q) {b L : Nat} {xs : Nat → Int32} (hX : va_X b L xs s s.heap) (hbl : b < s.heap.size) (hbA : ¬ inA 77 ad b) {k533 : Sg → Option Bool}  (hk533 : ∀ (σ1 : Sg), k533 σ1 = some true → Jd p l e room_1 s m args below meth c D 77 ad (celC cI cR ad) okC 34 Q 533 [(0, .ref b), (1, .ref (ad 0)), (2, .ref (ad (41 + 33))), (3, .ref (ad (42 + 33)))] [] σ1) : ∀ (n : Nat) (x5 : Int32) (σx : Sg), l_L_law_41 L xs k533 n x5 σx = some true → Jd p l e room_1 s m args below meth c D 77 ad (celC cI cR ad) okC 34 Q 41 [(0, .ref b), (1, .ref (ad 0)), (2, .ref (ad (41 + 33))), (3, .ref (ad (42 + 33))), (4, .ref (ad (43 + 33))), (5, .int x5)] [] σx := by
  intro n
  induction n with
  | zero => intro x5 σx h; cases h
  | succ n ih =>
    intro x5 σx h
    unfold l_L_law_41 at h
    refine J_iload (q := 43) C dL_law_41 rfl 5 rfl ?_
    refine J_bipush (v := 14) (q := 45) C dL_law_43 rfl rfl ?_
    refine J_icmp_ge (tgt := 533) (q := 48) C dL_law_45 rfl (by decide) h (fun _ h => ?_) (fun _ h => ?_)
    · refine J_sub [0, 1, 2, 3] rfl ?_
      exact hk533 _ h
    · refine J_aload_n (q := 49) C dL_law_48 rfl rfl 3 rfl ?_
      refine J_aload (q := 51) C dL_law_49 rfl 4 rfl ?_
      obtain ⟨σ2, ec2, h⟩ := bnd_of h
      refine J_callXS (q := 54) (As := [.ref (ad (42 + 33)), .ref (ad (43 + 33))]) C (c_L_copy hap isLA_42 isLA_43 ec2) ok_L_copy kM_L_100 rfl rfl rfl ⟨Nat.le_of_ble_eq_true rfl, Nat.le_of_ble_eq_true rfl⟩ (Nat.le_of_ble_eq_true rfl) dL_law_51 rfl ?_
      refine J_aload_n (q := 55) C dL_law_54 rfl rfl 0 rfl ?_
      refine J_bipush (v := 7) (q := 57) C dL_law_55 rfl rfl ?_
      refine J_iload (q := 59) C dL_law_57 rfl 5 rfl ?_
      refine J_iadd (q := 60) C dL_law_59 rfl ?_
      obtain ⟨r3, ec3, h⟩ := bnd_of h
      refine JS_callIS (q := 63) (As := [.ref b, .int ((7 : Int32) + x5)]) C hX hbl hbA (c_L_cell hap hbA ec3) ok_L_cell kM_L_15 rfl rfl rfl ⟨Nat.le_of_ble_eq_true rfl, Nat.le_of_ble_eq_true rfl⟩ (Nat.le_of_ble_eq_true rfl) dL_law_60 rfl ?_
      refine J_istore (q := 65) C dL_law_63 rfl (by decide) rfl ?_
      refine J_aload_n (q := 66) C dL_law_65 rfl rfl 2 rfl ?_
      refine J_iconst (v := 3 ) (q := 67) C dL_law_66 rfl rfl ?_
      obtain ⟨r4, ec4, h⟩ := bnd_of h
      refine J_callIV (q := 70) (As := [.int (3 : Int32)]) C (c_X5_count hap  ec4) ok_X5_count kM_L_62 (by decide) rfl rfl rfl rfl rfl rfl ⟨Nat.le_of_ble_eq_true rfl, Nat.le_of_ble_eq_true rfl⟩ (Nat.le_of_ble_eq_true rfl) dL_law_67 rfl ?_
      refine J_istore (q := 72) C dL_law_70 rfl (by decide) rfl ?_
      refine J_iload (q := 74) C dL_law_72 rfl 1 rfl ?_
      refine J_bipush (v := 14) (q := 76) C dL_law_74 rfl rfl ?_
      obtain ⟨r5, ec5, h⟩ := bnd_of h
      refine J_callIS (q := 79) (As := [.int r3, .int (14 : Int32)]) C (c_L_low hap  ec5) ok_L_low kM_L_21 rfl rfl rfl ⟨Nat.le_of_ble_eq_true rfl, Nat.le_of_ble_eq_true rfl⟩ (Nat.le_of_ble_eq_true rfl) dL_law_76 rfl ?_
      refine J_istore (q := 81) C dL_law_79 rfl (by decide) rfl ?_
      refine J_aload_n (q := 82) C dL_law_81 rfl rfl 4 rfl ?_
      refine J_iload (q := 84) C dL_law_82 rfl 2 rfl ?_
      refine J_aload_n (q := 85) C dL_law_84 rfl rfl 5 rfl ?_
      refine J_aload_n (q := 86) C dL_law_85 rfl rfl 6 rfl ?_
      obtain ⟨r6, σ6, ec6, h⟩ := bnd2_of h
      refine J_callIS (q := 89) (As := [.ref (ad 0), .int r3, .ref (ad (41 + 33)), .ref (ad (42 + 33))]) C (c_L_deed hap isLA_41 isLA_42 ec6) ok_L_deed kM_L_104 rfl rfl rfl ⟨Nat.le_of_ble_eq_true rfl, Nat.le_of_ble_eq_true rfl⟩ (Nat.le_of_ble_eq_true rfl) dL_law_86 rfl ?_
      refine J_istore (q := 91) C dL_law_89 rfl (by decide) rfl ?_
      refine J_iload (q := 93) C dL_law_91 rfl 0 rfl ?_
      refine J_if_ge (tgt := 98) (q := 96) C dL_law_93 rfl (by decide) h (fun _ h => ?_) (fun _ h => ?_)
      · refine J_aload (q := 100) C dL_law_98 rfl 8 rfl ?_
        obtain ⟨r7, ec7, h⟩ := bnd_of h
        refine J_callIS (q := 103) (As := [.ref (ad (43 + 33))]) C (c_L_awake hap isLA_43 ec7) ok_L_awake kM_L_55 rfl rfl rfl ⟨Nat.le_of_ble_eq_true rfl, Nat.le_of_ble_eq_true rfl⟩ (Nat.le_of_ble_eq_true rfl) dL_law_100 rfl ?_
        refine J_istore (q := 105) C dL_law_103 rfl (by decide) rfl ?_
        refine J_aload_n (q := 106) C dL_law_105 rfl rfl 6 rfl ?_
        refine J_bipush (v := 6) (q := 108) C dL_law_106 rfl rfl ?_
        obtain ⟨r8, ec8, h⟩ := bnd_of h
        refine J_callIV (q := 111) (As := [.int (6 : Int32)]) C (c_X5_count hap  ec8) ok_X5_count kM_L_62 (by decide) rfl rfl rfl rfl rfl rfl ⟨Nat.le_of_ble_eq_true rfl, Nat.le_of_ble_eq_true rfl⟩ (Nat.le_of_ble_eq_true rfl) dL_law_108 rfl ?_
        refine J_istore (q := 113) C dL_law_111 rfl (by decide) rfl ?_
        refine J_iconst (v := 0 ) (q := 114) C dL_law_113 rfl rfl ?_
        refine J_istore (q := 116) C dL_law_114 rfl (by decide) rfl ?_
        refine J_iconst (v := 0 ) (q := 117) C dL_law_116 rfl rfl ?_
        refine J_istore (q := 119) C dL_law_117 rfl (by decide) rfl ?_
        refine J_sub [8, 9, 10, 11, 12, 13, 7, 6, 5, 4, 3, 2, 1, 0] rfl ?_
        refine cl_L_law_119 hap C hQ hX hbl hbA  (fun v12_356 σv356 h => ?_) FU _ _ _ h
        · refine J_aload_n (q := 357) C dL_law_356 rfl rfl 1 rfl ?_
          refine J_iconst (v := 1 ) (q := 358) C dL_law_357 rfl rfl ?_
          obtain ⟨r24, ec24, h⟩ := bnd_of h
          refine J_callIV (q := 361) (As := [.int (1 : Int32)]) C (c_X5_count hap  ec24) ok_X5_count kM_L_62 (by decide) rfl rfl rfl rfl rfl rfl ⟨Nat.le_of_ble_eq_true rfl, Nat.le_of_ble_eq_true rfl⟩ (Nat.le_of_ble_eq_true rfl) dL_law_358 rfl ?_
          refine J_aload (q := 363) C dL_law_361 rfl 4 rfl ?_
          refine J_iconst (v := 0 ) (q := 364) C dL_law_363 rfl rfl ?_
          refine JL_iald (q := 365) C isLA_43 h dL_law_364 rfl (fun h => ?_)
          refine J_isub (q := 366) C dL_law_365 rfl ?_
          refine J_nmi h (fun y25 ey25 h => ?_)
          refine J_istore (q := 368) C dL_law_366 rfl (by decide) rfl ?_
          refine J_aload_n (q := 369) C dL_law_368 rfl rfl 2 rfl ?_
          refine J_bipush (v := 7) (q := 371) C dL_law_369 rfl rfl ?_
          obtain ⟨r26, ec26, h⟩ := bnd_of h
          refine J_callIV (q := 374) (As := [.int (7 : Int32)]) C (c_X5_count hap  ec26) ok_X5_count kM_L_62 (by decide) rfl rfl rfl rfl rfl rfl ⟨Nat.le_of_ble_eq_true rfl, Nat.le_of_ble_eq_true rfl⟩ (Nat.le_of_ble_eq_true rfl) dL_law_371 rfl ?_
          refine J_aload (q := 376) C dL_law_374 rfl 5 rfl ?_
          refine J_iconst (v := 4 ) (q := 377) C dL_law_376 rfl rfl ?_
          refine JL_iald (q := 378) C isLA_43 h dL_law_377 rfl (fun h => ?_)
          refine J_iload (q := 380) C dL_law_378 rfl 11 rfl ?_
          refine J_iadd (q := 381) C dL_law_380 rfl ?_
          refine J_icmp_ne (tgt := 472) (q := 384) C dL_law_381 rfl (by decide) h (fun _ h => ?_) (fun _ h => ?_)
          · refine J_iload (q := 386) C dL_law_384 rfl 10 rfl ?_
            refine J_iconst (v := 1 ) (q := 387) C dL_law_386 rfl rfl ?_
            refine jn_elim h (fun k451 ek451 h => ?_)
            have hk451 : k451 = some true → Jd p l e room_1 s m args below meth c D 77 ad (celC cI cR ad) okC 34 Q 451 [(0, .ref b), (1, .ref (ad 0)), (2, .ref (ad (41 + 33))), (3, .ref (ad (42 + 33))), (4, .ref (ad (43 + 33))), (5, .int x5), (6, .int r3), (7, .int r4), (9, .int r6), (13, .int y25)] [] σv356 := by
              intro  h
              rw [ek451] at h
              refine J_iload (q := 453) C dL_law_451 rfl 8 rfl ?_
              refine jn_elim h (fun k461 ek461 h => ?_)
              have hk461 : k461 = some true → Jd p l e room_1 s m args below meth c D 77 ad (celC cI cR ad) okC 34 Q 461 [(0, .ref b), (1, .ref (ad 0)), (2, .ref (ad (41 + 33))), (3, .ref (ad (42 + 33))), (4, .ref (ad (43 + 33))), (5, .int x5), (6, .int r3), (7, .int r4), (9, .int r6)] [] σv356 := by
                intro  h
                rw [ek461] at h
                refine J_aload_n (q := 462) C dL_law_461 rfl rfl 1 rfl ?_
                refine J_iconst (v := 4 ) (q := 463) C dL_law_462 rfl rfl ?_
                obtain ⟨r27, ec27, h⟩ := bnd_of h
                refine J_callIV (q := 466) (As := [.int (4 : Int32)]) C (c_X5_count hap  ec27) ok_X5_count kM_L_62 (by decide) rfl rfl rfl rfl rfl rfl ⟨Nat.le_of_ble_eq_true rfl, Nat.le_of_ble_eq_true rfl⟩ (Nat.le_of_ble_eq_true rfl) dL_law_463 rfl ?_
                refine J_aload_n (q := 467) C dL_law_466 rfl rfl 2 rfl ?_
                refine J_iconst (v := 1 ) (q := 468) C dL_law_467 rfl rfl ?_
                refine JL_iald (q := 469) C isLA_41 h dL_law_468 rfl (fun h => ?_)
                refine J_icmp_lt (tgt := 474) (q := 472) C dL_law_469 rfl (by decide) h (fun _ h => ?_) (fun _ h => ?_)
                · refine J_iload (q := 476) C dL_law_474 rfl 8 rfl ?_
                  refine J_iconst (v := 1 ) (q := 477) C dL_law_476 rfl rfl ?_
                  refine jn_elim h (fun k527 ek527 h => ?_)
                  have hk527 : ∀ (σj527 : Sg), k527 σj527 = some true → Jd p l e room_1 s m args below meth c D 77 ad (celC cI cR ad) okC 34 Q 527 [(0, .ref b), (1, .ref (ad 0)), (2, .ref (ad (41 + 33))), (3, .ref (ad (42 + 33))), (4, .ref (ad (43 + 33))), (5, .int x5)] [] σj527 := by
                    intro σj527 h
                    rw [ek527] at h
                    refine jn_elim h (fun y28 ey28 h => ?_)
                    refine J_iinc (v := y28) (q := 530) C dL_law_527 rfl 5 rfl (by rw [ey28]; rfl) (by decide) rfl ?_
                    refine J_goto (tgt := 41) C dL_law_530 (by decide) ?_
                    refine J_sub [1, 2, 3, 4, 5, 0] rfl ?_
                    exact ih _ _ h
                  refine J_icmp_ne (tgt := 527) (q := 480) C dL_law_477 rfl (by decide) h (fun _ h => ?_) (fun _ h => ?_)
                  · refine J_aload_n (q := 481) C dL_law_480 rfl rfl 1 rfl ?_
                    refine J_iconst (v := 3 ) (q := 482) C dL_law_481 rfl rfl ?_
                    obtain ⟨r29, ec29, h⟩ := bnd_of h
                    refine J_callIV (q := 485) (As := [.int (3 : Int32)]) C (c_X5_count hap  ec29) ok_X5_count kM_L_62 (by decide) rfl rfl rfl rfl rfl rfl ⟨Nat.le_of_ble_eq_true rfl, Nat.le_of_ble_eq_true rfl⟩ (Nat.le_of_ble_eq_true rfl) dL_law_482 rfl ?_
                    refine J_iload (q := 487) C dL_law_485 rfl 7 rfl ?_
                    refine J_iconst (v := 1 ) (q := 488) C dL_law_487 rfl rfl ?_
                    refine J_iadd (q := 489) C dL_law_488 rfl ?_
                    refine J_icmp_ne (tgt := 525) (q := 492) C dL_law_489 rfl (by decide) h (fun _ h => ?_) (fun _ h => ?_)
                    · refine J_aload_n (q := 493) C dL_law_492 rfl rfl 1 rfl ?_
                      refine J_iload (q := 495) C dL_law_493 rfl 7 rfl ?_
                      obtain ⟨r30, σ30, ec30, h⟩ := bnd2_of h
                      refine J_callIV (q := 498) (As := [.int r4]) C (c_X5_undo hap  ec30) ok_X5_undo kM_L_113 (by decide) rfl rfl rfl rfl rfl rfl ⟨Nat.le_of_ble_eq_true rfl, Nat.le_of_ble_eq_true rfl⟩ (Nat.le_of_ble_eq_true rfl) dL_law_495 rfl ?_
                      refine J_iconst (v := 1 ) (q := 499) C dL_law_498 rfl rfl ?_
                      refine J_icmp_ne (tgt := 525) (q := 502) C dL_law_499 rfl (by decide) h (fun _ h => ?_) (fun _ h => ?_)
                      · refine J_aload_n (q := 503) C dL_law_502 rfl rfl 1 rfl ?_
                        refine J_aload_n (q := 504) C dL_law_503 rfl rfl 2 rfl ?_
                        refine J_aload (q := 506) C dL_law_504 rfl 4 rfl ?_
                        obtain ⟨r31, σ31, ec31, h⟩ := bnd2_of h
                        refine J_callIS (q := 509) (As := [.ref (ad 0), .ref (ad (41 + 33)), .ref (ad (43 + 33))]) C (c_L_same hap isLA_41 isLA_43 ec31) ok_L_same kM_L_116 rfl rfl rfl ⟨Nat.le_of_ble_eq_true rfl, Nat.le_of_ble_eq_true rfl⟩ (Nat.le_of_ble_eq_true rfl) dL_law_506 rfl ?_
                        refine J_ifeq_b (tgt := 525) (q := 512) C dL_law_509 rfl (by decide) h (fun _ h => ?_) (fun _ h => ?_)
                        · refine J_aload_n (q := 513) C dL_law_512 rfl rfl 1 rfl ?_
                          refine J_iload (q := 515) C dL_law_513 rfl 6 rfl ?_
                          refine J_aload_n (q := 516) C dL_law_515 rfl rfl 2 rfl ?_
                          refine J_aload (q := 518) C dL_law_516 rfl 4 rfl ?_
                          obtain ⟨r32, σ32, ec32, h⟩ := bnd2_of h
                          refine J_callIS (q := 521) (As := [.ref (ad 0), .int r3, .ref (ad (41 + 33)), .ref (ad (43 + 33))]) C (c_L_deed hap isLA_41 isLA_43 ec32) ok_L_deed kM_L_104 rfl rfl rfl ⟨Nat.le_of_ble_eq_true rfl, Nat.le_of_ble_eq_true rfl⟩ (Nat.le_of_ble_eq_true rfl) dL_law_518 rfl ?_
                          refine J_iconst (v := 1 ) (q := 522) C dL_law_521 rfl rfl ?_
                          refine J_icmp_eq (tgt := 527) (q := 525) C dL_law_522 rfl (by decide) h (fun _ h => ?_) (fun _ h => ?_)
                          · refine J_sub [0, 1, 2, 3, 4, 5] rfl ?_
                            exact hk527 _ h
                          · refine J_iconst (v := 0 ) (q := 526) C dL_law_525 rfl rfl ?_
                            cases h
                        · refine J_iconst (v := 0 ) (q := 526) C dL_law_525 rfl rfl ?_
                          cases h
                      · refine J_iconst (v := 0 ) (q := 526) C dL_law_525 rfl rfl ?_
                        cases h
                    · refine J_iconst (v := 0 ) (q := 526) C dL_law_525 rfl rfl ?_
                      cases h
                  · refine J_sub [0, 1, 2, 3, 4, 5] rfl ?_
                    exact hk527 _ h
                · refine J_iconst (v := 0 ) (q := 473) C dL_law_472 rfl rfl ?_
                  cases h
              refine J_if_ne (tgt := 461) (q := 456) C dL_law_453 rfl (by decide) h (fun _ h => ?_) (fun _ h => ?_)
              · refine J_iload (q := 458) C dL_law_456 rfl 9 rfl ?_
                refine J_if_ne (tgt := 472) (q := 461) C dL_law_458 rfl (by decide) h (fun _ h => ?_) (fun _ h => ?_)
                · refine J_sub [0, 1, 2, 3, 4, 5, 6, 7, 8] rfl ?_
                  exact hk461 h
                · refine J_iconst (v := 0 ) (q := 473) C dL_law_472 rfl rfl ?_
                  cases h
              · refine J_sub [0, 1, 2, 3, 4, 5, 6, 7, 8] rfl ?_
                exact hk461 h
            refine J_icmp_ne (tgt := 451) (q := 390) C dL_law_387 rfl (by decide) h (fun _ h => ?_) (fun _ h => ?_)
            · refine J_iload (q := 392) C dL_law_390 rfl 9 rfl ?_
              refine J_iconst (v := 3 ) (q := 393) C dL_law_392 rfl rfl ?_
              refine jn_elim h (fun k413 ek413 h => ?_)
              have hk413 : k413 = some true → Jd p l e room_1 s m args below meth c D 77 ad (celC cI cR ad) okC 34 Q 413 [(0, .ref b), (1, .ref (ad 0)), (2, .ref (ad (41 + 33))), (3, .ref (ad (42 + 33))), (4, .ref (ad (43 + 33))), (5, .int x5), (6, .int r3), (7, .int r4), (8, .int r5), (9, .int r6), (13, .int y25)] [] σv356 := by
                intro  h
                rw [ek413] at h
                refine J_iload (q := 415) C dL_law_413 rfl 8 rfl ?_
                refine J_iconst (v := 2 ) (q := 416) C dL_law_415 rfl rfl ?_
                refine jn_elim h (fun k432 ek432 h => ?_)
                have hk432 : k432 = some true → Jd p l e room_1 s m args below meth c D 77 ad (celC cI cR ad) okC 34 Q 432 [(0, .ref b), (1, .ref (ad 0)), (2, .ref (ad (41 + 33))), (3, .ref (ad (42 + 33))), (4, .ref (ad (43 + 33))), (5, .int x5), (6, .int r3), (7, .int r4), (8, .int r5), (9, .int r6), (13, .int y25)] [] σv356 := by
                  intro  h
                  rw [ek432] at h
                  refine J_iload (q := 434) C dL_law_432 rfl 8 rfl ?_
                  refine J_bipush (v := 8) (q := 436) C dL_law_434 rfl rfl ?_
                  refine J_icmp_le (tgt := 451) (q := 439) C dL_law_436 rfl (by decide) h (fun _ h => ?_) (fun _ h => ?_)
                  · refine J_sub [0, 1, 2, 3, 4, 5, 6, 7, 9, 10] rfl ?_
                    exact hk451 h
                  · refine J_iload (q := 441) C dL_law_439 rfl 8 rfl ?_
                    refine J_bipush (v := 13) (q := 443) C dL_law_441 rfl rfl ?_
                    refine J_icmp_ge (tgt := 451) (q := 446) C dL_law_443 rfl (by decide) h (fun _ h => ?_) (fun _ h => ?_)
                    · refine J_sub [0, 1, 2, 3, 4, 5, 6, 7, 9, 10] rfl ?_
                      exact hk451 h
                    · refine J_iload (q := 448) C dL_law_446 rfl 10 rfl ?_
                      refine J_if_ne (tgt := 472) (q := 451) C dL_law_448 rfl (by decide) h (fun _ h => ?_) (fun _ h => ?_)
                      · refine J_sub [0, 1, 2, 3, 4, 5, 6, 7, 9, 10] rfl ?_
                        exact hk451 h
                      · refine J_iconst (v := 0 ) (q := 473) C dL_law_472 rfl rfl ?_
                        cases h
                refine J_icmp_le (tgt := 432) (q := 419) C dL_law_416 rfl (by decide) h (fun _ h => ?_) (fun _ h => ?_)
                · exact hk432 h
                · refine J_iload (q := 421) C dL_law_419 rfl 8 rfl ?_
                  refine J_bipush (v := 9) (q := 423) C dL_law_421 rfl rfl ?_
                  refine J_icmp_ge (tgt := 432) (q := 426) C dL_law_423 rfl (by decide) h (fun _ h => ?_) (fun _ h => ?_)
                  · exact hk432 h
                  · refine J_iload (q := 428) C dL_law_426 rfl 10 rfl ?_
                    refine J_iconst (v := 1 ) (q := 429) C dL_law_428 rfl rfl ?_
                    refine J_icmp_ne (tgt := 472) (q := 432) C dL_law_429 rfl (by decide) h (fun _ h => ?_) (fun _ h => ?_)
                    · exact hk432 h
                    · refine J_iconst (v := 0 ) (q := 473) C dL_law_472 rfl rfl ?_
                      cases h
              refine J_icmp_ge (tgt := 413) (q := 396) C dL_law_393 rfl (by decide) h (fun _ h => ?_) (fun _ h => ?_)
              · refine J_sub [1, 2, 3, 4, 5, 6, 7, 8, 9, 10, 0] rfl ?_
                exact hk413 h
              · refine J_iload (q := 398) C dL_law_396 rfl 0 rfl ?_
                refine J_aload_n (q := 399) C dL_law_398 rfl rfl 2 rfl ?_
                refine J_iconst (v := 4 ) (q := 400) C dL_law_399 rfl rfl ?_
                obtain ⟨r33, ec33, h⟩ := bnd_of h
                refine J_callIV (q := 403) (As := [.int (4 : Int32)]) C (c_X5_count hap  ec33) ok_X5_count kM_L_62 (by decide) rfl rfl rfl rfl rfl rfl ⟨Nat.le_of_ble_eq_true rfl, Nat.le_of_ble_eq_true rfl⟩ (Nat.le_of_ble_eq_true rfl) dL_law_400 rfl ?_
                refine J_aload (q := 405) C dL_law_403 rfl 5 rfl ?_
                refine J_iconst (v := 2 ) (q := 406) C dL_law_405 rfl rfl ?_
                refine JL_iald (q := 407) C isLA_43 h dL_law_406 rfl (fun h => ?_)
                obtain ⟨r34, ec34, h⟩ := bnd_of h
                refine J_callIS (q := 410) (As := [.int r33, .int (gA σv356 43 (2 : Int32).toNatClampNeg)]) C (c_L_far hap  ec34) ok_L_far kM_L_45 rfl rfl rfl ⟨Nat.le_of_ble_eq_true rfl, Nat.le_of_ble_eq_true rfl⟩ (Nat.le_of_ble_eq_true rfl) dL_law_407 rfl ?_
                refine J_icmp_ne (tgt := 472) (q := 413) C dL_law_410 rfl (by decide) h (fun _ h => ?_) (fun _ h => ?_)
                · refine J_sub [1, 2, 3, 4, 5, 6, 7, 8, 9, 10, 0] rfl ?_
                  exact hk413 h
                · refine J_iconst (v := 0 ) (q := 473) C dL_law_472 rfl rfl ?_
                  cases h
            · refine J_sub [1, 2, 3, 4, 5, 6, 7, 8, 10, 0] rfl ?_
              exact hk451 h
          · refine J_iconst (v := 0 ) (q := 473) C dL_law_472 rfl rfl ?_
            cases h
      · refine J_iconst (v := 0 ) (q := 97) C dL_law_96 rfl rfl ?_
        cases h
