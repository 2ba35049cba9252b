/-! THE CLAIM OUT OF ONE WALK OF THE LAW'S BODY. Your part is whole_start (and what it stands on); all else here is the same for every law, but numbers. -/
def R_law : String := "WokenYearsLaw"
def lw_P (b : Addr) (xs : List Int32) (args : Array Value) (s : State) : Prop := args = #[.ref b] ∧ s.IntsAt b xs ∧ xs.length ≤ 3072 ∧ (Jvm.Cond.and given_1 narrow_1).before args s = true
def lw_Q (_ : Array Value) (s : State) (o : Outcome) (t : State) : Prop := o = .returned (some (.int 1)) ∧ Framed s o t [] 600000 7302250
def lw_Z (below : List Frame) (a : Array Value) (s : State) : State → Prop := fun t => ∃ o, t.status = .running ∧ Ended t below o ∧ lw_Q a s o t
/-- the law's own end, with 1 on the stack, nothing written that was there before, its room as the claim has it -/
theorem lw_ret {p : Program} {l : Launch} {e : Env} {s : State} {m : MethodId} {below : List Frame} {meth : Method} {c : Code} {b : Nat} (hx : p.tables.exec = Jvm.exec) (hb : c.code = code) (hr : meth.sig.returnType = ret) (hlocks : meth.locks = false) {pc : Nat} {H : Heap} {ls : Array Slot} (hdg : decode code pc = .ok (.ireturn, 1)) : W p l e room_1 s m #[Value.ref b] below meth c H [] 600000 7302250 (lw_Z below #[Value.ref b] s) (F0 m pc ls [.int 1]) := by
  intro T hT X
  obtain ⟨fs, hret, hrun, hended, hW, hframe⟩ := X.leave (v := some (.int 1)) (hlocks := hlocks) (fun h => by rw [hr] at h; cases h)
  have hmeth' : T.vm.method? m = some meth := X.method'
  refine ⟨T.setFrames fs, ?_, .returned (some (.int 1)), hrun, hended, rfl, ⟨_, rfl⟩, hW, hframe⟩
  jvm_step X.here [X.here.top, hx, hb, hdg, hmeth', hr, ret, narrow_b1]
  (try refine ⟨rfl, ?_⟩); (try refine ⟨rfl, ?_⟩)
  first | (intro acts; rw [hret _ acts rfl rfl rfl]) | rw [hret _ _ rfl rfl rfl]
  exact Steps.refl _
/-- what holds at the law's entry: the machine, the code, the tables' words (any of lw_tbl by 'hts w (by decide +kernel)'), the script of L ints xs at the cell b, what the Statement gives of the start (any of its parts by flat_of_before) -/
def lw_At (p : Program) (s : State) (m : MethodId) (meth : Method) (c : Code) (b L : Nat) (xs : Nat → Int32) : Prop :=
  p.tables.exec = Jvm.exec ∧ c.code = code ∧ meth.sig.returnType = ret ∧ c.maxLocals = 4 ∧ s.vm.findClass R_law = some m.cls ∧ (∀ w ∈ lw_tbl, w.before #[Value.ref b] s = true) ∧ va_X b L xs s s.heap ∧ b < s.heap.size ∧ meth.locks = false ∧ (Jvm.Cond.and given_1 narrow_1).before #[Value.ref b] s = true

/-- what holds all along the law's loop -/
def Lx (p : Program) (s : State) (m : MethodId) (meth : Method) (c : Code) (D : va_G) (cI cR : ClassId) (b L : Nat) (xs : Nat → Int32) (adC adM : Nat → Nat) : Prop :=
  lw_At p s m meth c b L xs ∧ va_K D vwCl (tysC cI cR) s ∧ NW s ∧ apN 74 adC ∧ apN 16 adM ∧ (∀ k, k < 74 → s.heap.size ≤ adC k) ∧ (∀ k, k < 16 → s.heap.size ≤ adM k) ∧ ∀ i, i < 74 → ∀ j, j < 16 → adC i ≠ adM j
/-- the law's machine: both worlds -/
def Jl (p : Program) (l : Launch) (e : Env) (s : State) (m : MethodId) (below : List Frame) (meth : Method) (c : Code) (D : va_G) (cI cR : ClassId) (b : Nat) (adC adM : Nat → Nat) (pc : Nat) (lv : List (Nat × Value)) (st : List Value) (σ τ : Sg) : Prop :=
  okC σ → ∀ (ls : Array Slot) (H : Heap) (locs : List Loc), lv_has ls 4 lv → va_P D vwCl (wd 74 adC (celC cI cR adC σ)) H → va_P D vwCl (wd 16 adM (celM cI adM τ)) H → va_S (fun q : Nat => s.heap.size ≤ q) s.heap H locs → W p l e room_1 s m #[Value.ref b] below meth c H locs 600000 7302250 (lw_Z below #[Value.ref b] s) (F0 m pc ls st)
section LL
variable {p : Program} {l : Launch} {e : Env} {s : State} {m : MethodId} {below : List Frame} {meth : Method} {c : Code} {D : va_G} {cI cR : ClassId} {b L : Nat} {xs : Nat → Int32} {adC adM : Nat → Nat} {pc : Nat} {lv : List (Nat × Value)} {rest : List Value} {σ τ : Sg}
theorem L_iadd (C : Lx p s m meth c D cI cR b L xs adC adM) {q : Nat} {x y : Int32} (hdg : decode code pc = .ok (.iadd, 1)) (hq : pc + 1 = q)  (k : Jl p l e s m below meth c D cI cR b adC adM q lv (.int (x + y) :: rest) σ τ) : Jl p l e s m below meth c D cI cR b adC adM pc lv (.int y :: .int x :: rest) σ τ := by
  subst hq; intro hok ls H locs hl hP hM hS; exact lv_iadd C.1.1 C.1.2.1 hdg (k hok ls H locs hl hP hM hS)
theorem L_isub (C : Lx p s m meth c D cI cR b L xs adC adM) {q : Nat} {x y : Int32} (hdg : decode code pc = .ok (.isub, 1)) (hq : pc + 1 = q)  (k : Jl p l e s m below meth c D cI cR b adC adM q lv (.int (x - y) :: rest) σ τ) : Jl p l e s m below meth c D cI cR b adC adM pc lv (.int y :: .int x :: rest) σ τ := by
  subst hq; intro hok ls H locs hl hP hM hS; exact lv_isub C.1.1 C.1.2.1 hdg (k hok ls H locs hl hP hM hS)
theorem L_iand (C : Lx p s m meth c D cI cR b L xs adC adM) {q : Nat} {x y : Int32} (hdg : decode code pc = .ok (.iand, 1)) (hq : pc + 1 = q)  (k : Jl p l e s m below meth c D cI cR b adC adM q lv (.int (x &&& y) :: rest) σ τ) : Jl p l e s m below meth c D cI cR b adC adM pc lv (.int y :: .int x :: rest) σ τ := by
  subst hq; intro hok ls H locs hl hP hM hS; exact lv_iand C.1.1 C.1.2.1 hdg (k hok ls H locs hl hP hM hS)
theorem L_iconst (C : Lx p s m meth c D cI cR b L xs adC adM) {q : Nat} {n : Int} {v : Int32} (hdg : decode code pc = .ok (.iconst n, 1)) (hq : pc + 1 = q) (hv : Int32.ofInt n = v) (k : Jl p l e s m below meth c D cI cR b adC adM q lv (.int v :: rest) σ τ) : Jl p l e s m below meth c D cI cR b adC adM pc lv (rest) σ τ := by
  subst hq; intro hok ls H locs hl hP hM hS; exact lv_iconst C.1.1 C.1.2.1 hdg hv (k hok ls H locs hl hP hM hS)
theorem L_bipush (C : Lx p s m meth c D cI cR b L xs adC adM) {q : Nat} {n : Int} {v : Int32} (hdg : decode code pc = .ok (.bipush n, 2)) (hq : pc + 2 = q) (hv : (Int8.ofInt n).toInt32 = v) (k : Jl p l e s m below meth c D cI cR b adC adM q lv (.int v :: rest) σ τ) : Jl p l e s m below meth c D cI cR b adC adM pc lv (rest) σ τ := by
  subst hq; intro hok ls H locs hl hP hM hS; exact lv_bipush C.1.1 C.1.2.1 hdg hv (k hok ls H locs hl hP hM hS)
theorem L_iload_n (C : Lx p s m meth c D cI cR b L xs adC adM) {q : Nat} {k0 : Fin 4} {i : Nat} {x : Int32} (hdg : decode code pc = .ok (.iload_n k0, 1)) (hq : pc + 1 = q) (hi : (k0 : Nat) = i) (pl : Nat) (hpl : lv[pl]? = some (i, .int x)) (k : Jl p l e s m below meth c D cI cR b adC adM q lv (.int x :: rest) σ τ) : Jl p l e s m below meth c D cI cR b adC adM pc lv rest σ τ := by
  subst hq; intro hok ls H locs hl hP hM hS; exact lv_iload_n C.1.1 C.1.2.1 hdg hi (lv_at hl pl hpl) (k hok ls H locs hl hP hM hS)
theorem L_aload_n (C : Lx p s m meth c D cI cR b L xs adC adM) {q : Nat} {k0 : Fin 4} {i : Nat} {x : Nat} (hdg : decode code pc = .ok (.aload_n k0, 1)) (hq : pc + 1 = q) (hi : (k0 : Nat) = i) (pl : Nat) (hpl : lv[pl]? = some (i, .ref x)) (k : Jl p l e s m below meth c D cI cR b adC adM q lv (.ref x :: rest) σ τ) : Jl p l e s m below meth c D cI cR b adC adM pc lv rest σ τ := by
  subst hq; intro hok ls H locs hl hP hM hS; exact lv_aload_n C.1.1 C.1.2.1 hdg hi (lv_at hl pl hpl) (k hok ls H locs hl hP hM hS)
theorem L_iinc (C : Lx p s m meth c D cI cR b L xs adC adM) {q : Nat} {i : Nat} {n : Int} {x v : Int32} {lv' : List (Nat × Value)} (hdg : decode code pc = .ok (.iinc i n, 3)) (hq : pc + 3 = q) (pl : Nat) (hpl : lv[pl]? = some (i, .int x)) (hv : x + Int32.ofInt n = v) (hn : i < 4) (hlv : (i, Value.int v) :: lv.filter (fun z => !(z.1 == i) && !(z.1 + 1 == i && z.2.category == 2)) = lv') (k : Jl p l e s m below meth c D cI cR b adC adM q lv' rest σ τ) : Jl p l e s m below meth c D cI cR b adC adM pc lv rest σ τ := by
  subst hq; intro hok ls H locs hl hP hM hS; exact lv_iinc C.1.1 C.1.2.1 hdg hl hpl hv hn hlv (fun ls' hl' => k hok ls' H locs hl' hP hM hS)
theorem L_goto (C : Lx p s m meth c D cI cR b L xs adC adM) {off : Int} {tgt : Nat} (hdg : decode code pc = .ok (.goto off, 3)) (ht : (pc : Int) + off = (tgt : Int)) (k : Jl p l e s m below meth c D cI cR b adC adM tgt lv rest σ τ) : Jl p l e s m below meth c D cI cR b adC adM pc lv rest σ τ := by
  intro hok ls H locs hl hP hM hS; exact lv_goto C.1.1 C.1.2.1 hdg ht (k hok ls H locs hl hP hM hS)
theorem L_gt (C : Lx p s m meth c D cI cR b L xs adC adM) {off : Int} {tgt q : Nat} {x y : Int32} (hdg : decode code pc = .ok (.if_icmp .gt off, 3)) (hq : pc + 3 = q) (ht : (pc : Int) + off = (tgt : Int)) (kt : y < x → Jl p l e s m below meth c D cI cR b adC adM tgt lv rest σ τ) (kf : ¬ y < x → Jl p l e s m below meth c D cI cR b adC adM q lv rest σ τ) : Jl p l e s m below meth c D cI cR b adC adM pc lv (.int y :: .int x :: rest) σ τ := by
  subst hq; intro hok ls H locs hl hP hM hS; exact lv_icmp_gt C.1.1 C.1.2.1 hdg ht (fun z => kt z hok ls H locs hl hP hM hS) (fun z => kf z hok ls H locs hl hP hM hS)
theorem L_eq (C : Lx p s m meth c D cI cR b L xs adC adM) {off : Int} {tgt : Nat} {x : Int32} (hdg : decode code pc = .ok (.if_icmp .eq off, 3)) (ht : (pc : Int) + off = (tgt : Int)) (k : Jl p l e s m below meth c D cI cR b adC adM tgt lv rest σ τ) : Jl p l e s m below meth c D cI cR b adC adM pc lv (.int x :: .int x :: rest) σ τ := by
  intro hok ls H locs hl hP hM hS; exact lv_icmp_eq C.1.1 C.1.2.1 hdg ht (fun _ => k hok ls H locs hl hP hM hS) (fun z => absurd rfl z)
theorem L_lcmp (C : Lx p s m meth c D cI cR b L xs adC adM) {off : Int} {tgt q : Nat} {x : Int64} (hdg : decode code pc = .ok (.lcmp, 1)) (hq : pc + 1 = q) (hdg2 : decode code q = .ok (.ifCond .eq off, 3)) (ht : (q : Int) + off = (tgt : Int)) (k : Jl p l e s m below meth c D cI cR b adC adM tgt lv rest σ τ) : Jl p l e s m below meth c D cI cR b adC adM pc lv (.long x :: .long x :: rest) σ τ := by
  subst hq; intro hok ls H locs hl hP hM hS
  refine W.lcmp C.1.1 C.1.2.1 hdg ?_
  exact lv_if_eq C.1.1 C.1.2.1 hdg2 ht (fun _ => k hok ls H locs hl hP hM hS) (fun z => absurd (by unfold lg_cmp; simp) z)
theorem L_tsIn (C : Lx p s m meth c D cI cR b L xs adC adM) {dflt lo hi : Int} {offs : Array Int} {len : Nat} {x : Int32} {off : Int} {tgt : Nat} (v : Int32) (hx : x = v) (hdg : decode code pc = .ok (.tableswitch dflt lo hi offs, len)) (h1 : ¬ v.toInt < lo) (h2 : ¬ hi < v.toInt) (ho : offs[(v.toInt - lo).toNat]? = some off) (ht : (pc : Int) + off = (tgt : Int)) (k : Jl p l e s m below meth c D cI cR b adC adM tgt lv rest σ τ) : Jl p l e s m below meth c D cI cR b adC adM pc lv (.int x :: rest) σ τ := by
  subst hx; intro hok ls H locs hl hP hM hS; exact lv_tableIn C.1.1 C.1.2.1 hdg h1 h2 ho ht (k hok ls H locs hl hP hM hS)
theorem L_tsOut (C : Lx p s m meth c D cI cR b L xs adC adM) {dflt lo hi : Int} {offs : Array Int} {len : Nat} {x : Int32} {tgt : Nat} (hdg : decode code pc = .ok (.tableswitch dflt lo hi offs, len)) (hx : x.toInt < lo ∨ hi < x.toInt) (ht : (pc : Int) + dflt = (tgt : Int)) (k : Jl p l e s m below meth c D cI cR b adC adM tgt lv rest σ τ) : Jl p l e s m below meth c D cI cR b adC adM pc lv (.int x :: rest) σ τ := by
  intro hok ls H locs hl hP hM hS; exact lv_tableOut C.1.1 C.1.2.1 hdg hx ht (k hok ls H locs hl hP hM hS)
theorem L_slen (C : Lx p s m meth c D cI cR b L xs adC adM) {q : Nat} (hdg : decode code pc = .ok (.arraylength, 1)) (hq : pc + 1 = q) (k : Jl p l e s m below meth c D cI cR b adC adM q lv (.int (nI L) :: rest) σ τ) : Jl p l e s m below meth c D cI cR b adC adM pc lv (.ref b :: rest) σ τ := by
  subst hq; intro hok ls H locs hl hP hM hS; exact va_slen C.1.1 C.1.2.1 C.1.2.2.2.2.2.2.1 C.1.2.2.2.2.2.2.2.1 (Nat.not_le.mpr C.1.2.2.2.2.2.2.2.1) hS hdg (k hok ls H locs hl hP hM hS)
theorem L_sld (C : Lx p s m meth c D cI cR b L xs adC adM) {q : Nat} {i : Int32} (hin : vp_in i L) (hdg : decode code pc = .ok (.iaload, 1)) (hq : pc + 1 = q) (k : Jl p l e s m below meth c D cI cR b adC adM q lv (.int (xs i.toNatClampNeg) :: rest) σ τ) : Jl p l e s m below meth c D cI cR b adC adM pc lv (.int i :: .ref b :: rest) σ τ := by
  subst hq; intro hok ls H locs hl hP hM hS; exact va_sld C.1.1 C.1.2.1 C.1.2.2.2.2.2.2.1 C.1.2.2.2.2.2.2.2.1 (Nat.not_le.mpr C.1.2.2.2.2.2.2.2.1) hS hin hdg (k hok ls H locs hl hP hM hS)
theorem L_arg (C : Lx p s m meth c D cI cR b L xs adC adM) {n : Int} {i j q1 q2 q3 q4 q5 : Nat} (pl pb : Nat) (hpb : lv[pb]? = some (0, .ref b)) (hpl : lv[pl]? = some (3, .int (nI i))) (hj : Int32.ofInt n = nI j) (hi : i + j < L) (hL : L ≤ 3072) (d0 : decode code pc = .ok (.aload_n 0, 1)) (h0 : pc + 1 = q1) (d1 : decode code q1 = .ok (.iload_n 3, 1)) (h1 : q1 + 1 = q2) (d2 : decode code q2 = .ok (.iconst n, 1)) (h2 : q2 + 1 = q3) (d3 : decode code q3 = .ok (.iadd, 1)) (h3 : q3 + 1 = q4) (d4 : decode code q4 = .ok (.iaload, 1)) (h4 : q4 + 1 = q5) (k : Jl p l e s m below meth c D cI cR b adC adM q5 lv (.int (xs (i + j)) :: rest) σ τ) : Jl p l e s m below meth c D cI cR b adC adM pc lv rest σ τ := by
  refine L_aload_n C d0 h0 rfl pb hpb ?_
  refine L_iload_n C d1 h1 rfl pl hpl ?_
  refine L_iconst C d2 h2 hj ?_
  refine L_iadd C d3 h3 ?_
  rw [nI_add]
  refine L_sld C (vp_in_nI hi (by omega)) d4 h4 ?_
  rw [nI_clamp (by omega)]
  exact k
theorem L_callCI (C : Lx p s m meth c D cI cR b L xs adC adM) {y : MethodName} {cc' : ByteArray} {maxL fr lo n index q : Nat} {ty : FieldType} {r : Int32} {σ' : Sg} {As : List Value} (hMt : MI l D (tysC cI cR) 74 adC (celC cI cR adC) okC y cc' maxL ty fr lo (.ref (adC 0) :: As) σ r σ') (hy : okV y cc' maxL (some ty) n) (hl0 : Cond.methodLink "WokenYearsLaw" index y ∈ WA) (hyc : y.cls = RX5) (hn : As.length = n) {st : List Value} (hst : st = As.reverse ++ (.ref (adC 0) :: rest)) (hR : fr + 1 ≤ 2048 ∧ 8 + (maxL + 11) + lo ≤ 84000) (hW8 : (rest.map fun v => v.category).sum ≤ 8) (hdg : decode code pc = .ok (.invokevirtual index, 3)) (hq : pc + 3 = q) (k : Jl p l e s m below meth c D cI cR b adC adM q lv (.int r :: rest) σ' τ) : Jl p l e s m below meth c D cI cR b adC adM pc lv st σ τ := by
  subst hq; subst hst
  intro hok ls H locs hl hP hM hS
  have hts : ∀ w ∈ WA, w.before #[Value.ref b] s = true := fun w hw => C.1.2.2.2.2.2.1 w (mWt hw)
  refine va_calli (va_runV (As := As) (rest := rest) ⟨C.1.1, C.1.2.1, C.1.2.2.2.1, C.1.2.2.2.2.1, hts⟩ hMt ⟨callB_of n hts (gWB hy.1) rfl rfl rfl (hts _ hy.2.2.2.1) (hts _ hl0) hy.2.2.2.2 hR, hts _ hy.2.1, hts _ hy.2.2.1⟩ ⟨fun a U g0 mk z => ⟨z.1, WP_call z.2⟩, hyc ▸ va_recv C.2.1 hP (ci := 4) (q0 := 0) (show vwCl[4]? = some (RX5, TX5, 12) from rfl) (wd_get (by decide) rfl), fun U hU hW => ⟨rfl, by rw [hU]; exact hP, ⟨va_K.moved hW.alike C.2.1, NW_warm hW C.2.2.1⟩, hok⟩⟩ rfl hn hl.1 rfl (lv_room hW8) hdg ⟨Nat.le_refl _, Nat.le_refl _⟩) hS (fun q _ hq => by obtain ⟨i, hi, rfl⟩ := hq; exact C.2.2.2.2.2.1 i hi) (fun q hq => by obtain ⟨i, hi, rfl⟩ := hq; exact C.2.2.2.2.2.1 i hi) (fun r1 u t H1 locs1 ht hvm hw hB hz hk1 hS => ?_)
  obtain ⟨hP1, hok1⟩ := hB
  rw [ht] at hP1
  subst hw
  have hO := hM.kept (H1 := H1) (fun k9 q hq => by
    have hlt := va_at.lt (hM k9 q hq)
    obtain ⟨hk, rfl⟩ := wd_of hq
    exact hk1 _ hlt ((fun (k : Nat) (hk : k < 16) => (fun ⟨i, hi, he⟩ => C.2.2.2.2.2.2.2 i hi k hk he.symm : ¬ inA 74 adC (adM k))) k9 hk))
  exact k hok1 ls H1 locs1 hl hP1 hO hS
theorem L_callMI (C : Lx p s m meth c D cI cR b L xs adC adM) {y : MethodName} {cc' : ByteArray} {maxL fr lo n index q : Nat} {ty : FieldType} {r : Int32} {τ' : Sg} {As : List Value} (hMt : MI l D (tysC cI cR) 16 adM (celM cI adM) okM y cc' maxL ty fr lo (.ref (adM 0) :: As) τ r τ') (hy : okV y cc' maxL (some ty) n) (hl0 : Cond.methodLink "WokenYearsLaw" index y ∈ WA) (hyc : y.cls = RX6) (hn : As.length = n) {st : List Value} (hst : st = As.reverse ++ (.ref (adM 0) :: rest)) (hR : fr + 1 ≤ 2048 ∧ 8 + (maxL + 11) + lo ≤ 84000) (hW8 : (rest.map fun v => v.category).sum ≤ 8) (hdg : decode code pc = .ok (.invokevirtual index, 3)) (hq : pc + 3 = q) (k : Jl p l e s m below meth c D cI cR b adC adM q lv (.int r :: rest) σ τ') : Jl p l e s m below meth c D cI cR b adC adM pc lv st σ τ := by
  subst hq; subst hst
  intro hok ls H locs hl hP hM hS
  have hts : ∀ w ∈ WA, w.before #[Value.ref b] s = true := fun w hw => C.1.2.2.2.2.2.1 w (mWt hw)
  refine va_calli (va_runV (As := As) (rest := rest) ⟨C.1.1, C.1.2.1, C.1.2.2.2.1, C.1.2.2.2.2.1, hts⟩ hMt ⟨callB_of n hts (gWB hy.1) rfl rfl rfl (hts _ hy.2.2.2.1) (hts _ hl0) hy.2.2.2.2 hR, hts _ hy.2.1, hts _ hy.2.2.1⟩ ⟨fun a U g0 mk z => ⟨z.1, WP_call z.2⟩, hyc ▸ va_recv C.2.1 hM (ci := 5) (q0 := 0) (show vwCl[5]? = some (RX6, TX6, 28) from rfl) (wd_get (by decide) rfl), fun U hU hW => ⟨rfl, by rw [hU]; exact hM, ⟨va_K.moved hW.alike C.2.1, NW_warm hW C.2.2.1⟩, trivial⟩⟩ rfl hn hl.1 rfl (lv_room hW8) hdg ⟨Nat.le_refl _, Nat.le_refl _⟩) hS (fun q _ hq => by obtain ⟨i, hi, rfl⟩ := hq; exact C.2.2.2.2.2.2.1 i hi) (fun q hq => by obtain ⟨i, hi, rfl⟩ := hq; exact C.2.2.2.2.2.2.1 i hi) (fun r1 u t H1 locs1 ht hvm hw hB hz hk1 hS => ?_)
  obtain ⟨hP1, hok1⟩ := hB
  rw [ht] at hP1
  subst hw
  have hO := hP.kept (H1 := H1) (fun k9 q hq => by
    have hlt := va_at.lt (hP k9 q hq)
    obtain ⟨hk, rfl⟩ := wd_of hq
    exact hk1 _ hlt ((fun (k : Nat) (hk : k < 74) => (fun ⟨j, hj, he⟩ => C.2.2.2.2.2.2.2 k hk j hj he : ¬ inA 16 adM (adC k))) k9 hk))
  exact k hok ls H1 locs1 hl hO hP1 hS
theorem L_callCJ (C : Lx p s m meth c D cI cR b L xs adC adM) {y : MethodName} {cc' : ByteArray} {maxL fr lo n index q : Nat} {r : Int64} {σ' : Sg} {As : List Value} (hMt : ML l D (tysC cI cR) 74 adC (celC cI cR adC) okC y cc' maxL fr lo (.ref (adC 0) :: As) σ r σ') (hy : okV y cc' maxL (some .long) n) (hl0 : Cond.methodLink "WokenYearsLaw" index y ∈ WA) (hyc : y.cls = RX5) (hn : As.length = n) {st : List Value} (hst : st = As.reverse ++ (.ref (adC 0) :: rest)) (hR : fr + 1 ≤ 2048 ∧ 8 + (maxL + 11) + lo ≤ 84000) (hW8 : (rest.map fun v => v.category).sum ≤ 8) (hdg : decode code pc = .ok (.invokevirtual index, 3)) (hq : pc + 3 = q) (k : Jl p l e s m below meth c D cI cR b adC adM q lv (.long r :: rest) σ' τ) : Jl p l e s m below meth c D cI cR b adC adM pc lv st σ τ := by
  subst hq; subst hst
  intro hok ls H locs hl hP hM hS
  have hts : ∀ w ∈ WA, w.before #[Value.ref b] s = true := fun w hw => C.1.2.2.2.2.2.1 w (mWt hw)
  refine va_calll (va_runV (As := As) (rest := rest) ⟨C.1.1, C.1.2.1, C.1.2.2.2.1, C.1.2.2.2.2.1, hts⟩ hMt ⟨callB_of n hts (gWB hy.1) rfl rfl rfl (hts _ hy.2.2.2.1) (hts _ hl0) hy.2.2.2.2 hR, hts _ hy.2.1, hts _ hy.2.2.1⟩ ⟨fun a U g0 mk z => ⟨z.1, WP_call z.2⟩, hyc ▸ va_recv C.2.1 hP (ci := 4) (q0 := 0) (show vwCl[4]? = some (RX5, TX5, 12) from rfl) (wd_get (by decide) rfl), fun U hU hW => ⟨rfl, by rw [hU]; exact hP, ⟨va_K.moved hW.alike C.2.1, NW_warm hW C.2.2.1⟩, hok⟩⟩ rfl hn hl.1 rfl (lv_room hW8) hdg ⟨Nat.le_refl _, Nat.le_refl _⟩) hS (fun q _ hq => by obtain ⟨i, hi, rfl⟩ := hq; exact C.2.2.2.2.2.1 i hi) (fun q hq => by obtain ⟨i, hi, rfl⟩ := hq; exact C.2.2.2.2.2.1 i hi) (fun r1 u t H1 locs1 ht hvm hw hB hz hk1 hS => ?_)
  obtain ⟨hP1, hok1⟩ := hB
  rw [ht] at hP1
  subst hw
  have hO := hM.kept (H1 := H1) (fun k9 q hq => by
    have hlt := va_at.lt (hM k9 q hq)
    obtain ⟨hk, rfl⟩ := wd_of hq
    exact hk1 _ hlt ((fun (k : Nat) (hk : k < 16) => (fun ⟨i, hi, he⟩ => C.2.2.2.2.2.2.2 i hi k hk he.symm : ¬ inA 74 adC (adM k))) k9 hk))
  exact k hok1 ls H1 locs1 hl hP1 hO hS
theorem L_callMJ (C : Lx p s m meth c D cI cR b L xs adC adM) {y : MethodName} {cc' : ByteArray} {maxL fr lo n index q : Nat} {r : Int64} {τ' : Sg} {As : List Value} (hMt : ML l D (tysC cI cR) 16 adM (celM cI adM) okM y cc' maxL fr lo (.ref (adM 0) :: As) τ r τ') (hy : okV y cc' maxL (some .long) n) (hl0 : Cond.methodLink "WokenYearsLaw" index y ∈ WA) (hyc : y.cls = RX6) (hn : As.length = n) {st : List Value} (hst : st = As.reverse ++ (.ref (adM 0) :: rest)) (hR : fr + 1 ≤ 2048 ∧ 8 + (maxL + 11) + lo ≤ 84000) (hW8 : (rest.map fun v => v.category).sum ≤ 8) (hdg : decode code pc = .ok (.invokevirtual index, 3)) (hq : pc + 3 = q) (k : Jl p l e s m below meth c D cI cR b adC adM q lv (.long r :: rest) σ τ') : Jl p l e s m below meth c D cI cR b adC adM pc lv st σ τ := by
  subst hq; subst hst
  intro hok ls H locs hl hP hM hS
  have hts : ∀ w ∈ WA, w.before #[Value.ref b] s = true := fun w hw => C.1.2.2.2.2.2.1 w (mWt hw)
  refine va_calll (va_runV (As := As) (rest := rest) ⟨C.1.1, C.1.2.1, C.1.2.2.2.1, C.1.2.2.2.2.1, hts⟩ hMt ⟨callB_of n hts (gWB hy.1) rfl rfl rfl (hts _ hy.2.2.2.1) (hts _ hl0) hy.2.2.2.2 hR, hts _ hy.2.1, hts _ hy.2.2.1⟩ ⟨fun a U g0 mk z => ⟨z.1, WP_call z.2⟩, hyc ▸ va_recv C.2.1 hM (ci := 5) (q0 := 0) (show vwCl[5]? = some (RX6, TX6, 28) from rfl) (wd_get (by decide) rfl), fun U hU hW => ⟨rfl, by rw [hU]; exact hM, ⟨va_K.moved hW.alike C.2.1, NW_warm hW C.2.2.1⟩, trivial⟩⟩ rfl hn hl.1 rfl (lv_room hW8) hdg ⟨Nat.le_refl _, Nat.le_refl _⟩) hS (fun q _ hq => by obtain ⟨i, hi, rfl⟩ := hq; exact C.2.2.2.2.2.2.1 i hi) (fun q hq => by obtain ⟨i, hi, rfl⟩ := hq; exact C.2.2.2.2.2.2.1 i hi) (fun r1 u t H1 locs1 ht hvm hw hB hz hk1 hS => ?_)
  obtain ⟨hP1, hok1⟩ := hB
  rw [ht] at hP1
  subst hw
  have hO := hP.kept (H1 := H1) (fun k9 q hq => by
    have hlt := va_at.lt (hP k9 q hq)
    obtain ⟨hk, rfl⟩ := wd_of hq
    exact hk1 _ hlt ((fun (k : Nat) (hk : k < 74) => (fun ⟨j, hj, he⟩ => C.2.2.2.2.2.2.2 k hk j hj he : ¬ inA 16 adM (adC k))) k9 hk))
  exact k hok ls H1 locs1 hl hO hP1 hS
end LL
