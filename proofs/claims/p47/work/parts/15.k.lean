theorem kOB : Cond.instanceMethod Lib.objectInit ∈ WA := mW 38 (by decide +kernel) rfl
theorem kOC : Cond.code Lib.objectInit ⟨#[0xb1]⟩ 1 none ∈ WA := mW 39 (by decide +kernel) rfl
theorem kAO : Cond.arrayOver (.object "WokenYears$Ints") ∈ lw_tbl := kA_over
/-- what the constructors ask of the tables beside the words -/
def NK (U : State) : Prop := NW U ∧ va_AO "WokenYears$Ints" U
theorem NK_warm {s U : State} (hW : s.WarmedH U.vm) (h : NK s) : NK U := ⟨NW_warm hW h.1, va_AO.moved hW.alike h.2⟩
theorem NK_same {s U : State} (e : s.vm = U.vm) (h : NK s) : NK U := ⟨NW_same e h.1, va_AO.moved (e ▸ Vm.Alike.refl s.vm) h.2⟩
theorem NK_tbl {args : Array Value} {s : State} (h : ∀ w ∈ lw_tbl, w.before args s = true) : NK s := ⟨NW_tbl h, va_AO.of (h _ kAO)⟩
def Kx (p : Program) (s : State) (m : MethodId) (args : Array Value) (meth : Method) (c : Code) (cc : ByteArray) (nL : Nat) (own : String) (D : va_G) (cI cR : ClassId) (A : Nat → Prop) (ret : Option FieldType) : Prop :=
  p.tables.exec = Jvm.exec ∧ c.code = cc ∧ c.maxLocals = nL ∧ s.vm.findClass own = some m.cls ∧ (∀ w ∈ WA, w.before args s = true) ∧ va_K D vwCl (tysC cI cR) s ∧ meth.sig.returnType = ret ∧ meth.locks = false ∧ NK s ∧ (∀ q, s.heap.size ≤ q → A q)
/-- the machine at a place, its world the cells 'ws' -/
def Kd (p : Program) (l : Launch) (e : Env) (R : Room) (s : State) (m : MethodId) (args : Array Value) (below : List Frame) (meth : Method) (c : Code) (D : va_G) (A : Nat → Prop) (nL : Nat) (Q : State → Prop) (pc : Nat) (lv : List (Nat × Value)) (st : List Value) (ws : va_W) (cells slots : Nat) : Prop :=
  ∀ (ls : Array Slot) (H : Heap) (locs : List Loc), lv_has ls nL lv → va_P D vwCl ws H → va_D A ws → va_S A s.heap H locs → W p l e R s m args below meth c H locs cells slots Q (F0 m pc ls st)
section KK
variable {p : Program} {l : Launch} {e : Env} {R : Room} {s : State} {m : MethodId} {args : Array Value} {below : List Frame} {meth : Method} {c : Code} {D : va_G} {cI cR : ClassId} {A : Nat → Prop} {nL : Nat} {Q : State → Prop} {cc : ByteArray} {own : String} {ret : Option FieldType} {pc : Nat} {lv : List (Nat × Value)} {rest : List Value} {ws : va_W} {cells slots : Nat}
theorem K_iadd (C : Kx p s m args meth c cc nL own D cI cR A ret) {q : Nat} {x y : Int32} (hdg : decode cc pc = .ok (.iadd, 1)) (hq : pc + 1 = q)  (k : Kd p l e R s m args below meth c D A nL Q q lv (.int (x + y) :: rest) ws cells slots) : Kd p l e R s m args below meth c D A nL Q pc lv (.int y :: .int x :: rest) ws cells slots := by
  subst hq; intro ls H locs hl hP hD hS; exact lv_iadd C.1 C.2.1 hdg (k ls H locs hl hP hD hS)
theorem K_isub (C : Kx p s m args meth c cc nL own D cI cR A ret) {q : Nat} {x y : Int32} (hdg : decode cc pc = .ok (.isub, 1)) (hq : pc + 1 = q)  (k : Kd p l e R s m args below meth c D A nL Q q lv (.int (x - y) :: rest) ws cells slots) : Kd p l e R s m args below meth c D A nL Q pc lv (.int y :: .int x :: rest) ws cells slots := by
  subst hq; intro ls H locs hl hP hD hS; exact lv_isub C.1 C.2.1 hdg (k ls H locs hl hP hD hS)
theorem K_iand (C : Kx p s m args meth c cc nL own D cI cR A ret) {q : Nat} {x y : Int32} (hdg : decode cc pc = .ok (.iand, 1)) (hq : pc + 1 = q)  (k : Kd p l e R s m args below meth c D A nL Q q lv (.int (x &&& y) :: rest) ws cells slots) : Kd p l e R s m args below meth c D A nL Q pc lv (.int y :: .int x :: rest) ws cells slots := by
  subst hq; intro ls H locs hl hP hD hS; exact lv_iand C.1 C.2.1 hdg (k ls H locs hl hP hD hS)
theorem K_iconst (C : Kx p s m args meth c cc nL own D cI cR A ret) {q : Nat} {n : Int} {v : Int32} (hdg : decode cc pc = .ok (.iconst n, 1)) (hq : pc + 1 = q) (hv : Int32.ofInt n = v) (k : Kd p l e R s m args below meth c D A nL Q q lv (.int v :: rest) ws cells slots) : Kd p l e R s m args below meth c D A nL Q pc lv (rest) ws cells slots := by
  subst hq; intro ls H locs hl hP hD hS; exact lv_iconst C.1 C.2.1 hdg hv (k ls H locs hl hP hD hS)
theorem K_bipush (C : Kx p s m args meth c cc nL own D cI cR A ret) {q : Nat} {n : Int} {v : Int32} (hdg : decode cc pc = .ok (.bipush n, 2)) (hq : pc + 2 = q) (hv : (Int8.ofInt n).toInt32 = v) (k : Kd p l e R s m args below meth c D A nL Q q lv (.int v :: rest) ws cells slots) : Kd p l e R s m args below meth c D A nL Q pc lv (rest) ws cells slots := by
  subst hq; intro ls H locs hl hP hD hS; exact lv_bipush C.1 C.2.1 hdg hv (k ls H locs hl hP hD hS)
theorem K_sipush (C : Kx p s m args meth c cc nL own D cI cR A ret) {q : Nat} {n : Int} {v : Int32} (hdg : decode cc pc = .ok (.sipush n, 3)) (hq : pc + 3 = q) (hv : (Int16.ofInt n).toInt32 = v) (k : Kd p l e R s m args below meth c D A nL Q q lv (.int v :: rest) ws cells slots) : Kd p l e R s m args below meth c D A nL Q pc lv (rest) ws cells slots := by
  subst hq; intro ls H locs hl hP hD hS; exact lv_sipush C.1 C.2.1 hdg hv (k ls H locs hl hP hD hS)
theorem K_lconst (C : Kx p s m args meth c cc nL own D cI cR A ret) {q : Nat} {n : Fin 2} {v : Int64} (hdg : decode cc pc = .ok (.lconst n, 1)) (hq : pc + 1 = q) (hv : Int64.ofNat (n : Nat) = v) (k : Kd p l e R s m args below meth c D A nL Q q lv (.long v :: rest) ws cells slots) : Kd p l e R s m args below meth c D A nL Q pc lv (rest) ws cells slots := by
  subst hq; intro ls H locs hl hP hD hS; exact lv_lconst C.1 C.2.1 hdg hv (k ls H locs hl hP hD hS)
theorem K_dup (C : Kx p s m args meth c cc nL own D cI cR A ret) {q : Nat} {va : Value} (hdg : decode cc pc = .ok (.dup, 1)) (hq : pc + 1 = q) (hva : va.category = 1) (k : Kd p l e R s m args below meth c D A nL Q q lv (va :: va :: rest) ws cells slots) : Kd p l e R s m args below meth c D A nL Q pc lv (va :: rest) ws cells slots := by
  subst hq; intro ls H locs hl hP hD hS; exact lv_dup C.1 C.2.1 hdg hva (k ls H locs hl hP hD hS)
theorem K_iload_n (C : Kx p s m args meth c cc nL own D cI cR A ret) {q : Nat} {k0 : Fin 4} {i : Nat} {x : Int32} (hdg : decode cc pc = .ok (.iload_n k0, 1)) (hq : pc + 1 = q) (hi : (k0 : Nat) = i) (pl : Nat) (hpl : lv[pl]? = some (i, .int x)) (k : Kd p l e R s m args below meth c D A nL Q q lv (.int x :: rest) ws cells slots) : Kd p l e R s m args below meth c D A nL Q pc lv rest ws cells slots := by
  subst hq; intro ls H locs hl hP hD hS; exact lv_iload_n C.1 C.2.1 hdg hi (lv_at hl pl hpl) (k ls H locs hl hP hD hS)
theorem K_aload_n (C : Kx p s m args meth c cc nL own D cI cR A ret) {q : Nat} {k0 : Fin 4} {i : Nat} {x : Nat} (hdg : decode cc pc = .ok (.aload_n k0, 1)) (hq : pc + 1 = q) (hi : (k0 : Nat) = i) (pl : Nat) (hpl : lv[pl]? = some (i, .ref x)) (k : Kd p l e R s m args below meth c D A nL Q q lv (.ref x :: rest) ws cells slots) : Kd p l e R s m args below meth c D A nL Q pc lv rest ws cells slots := by
  subst hq; intro ls H locs hl hP hD hS; exact lv_aload_n C.1 C.2.1 hdg hi (lv_at hl pl hpl) (k ls H locs hl hP hD hS)
theorem K_istore_n (C : Kx p s m args meth c cc nL own D cI cR A ret) {q : Nat} {k0 : Fin 4} {i : Nat} {x : Int32} {lv' : List (Nat × Value)} (hdg : decode cc pc = .ok (.istore_n k0, 1)) (hq : pc + 1 = q) (hi : (k0 : Nat) = i) (hn : i < nL) (hlv : (i, Value.int x) :: lv.filter (fun z => !(z.1 == i) && !(z.1 + 1 == i && z.2.category == 2)) = lv') (k : Kd p l e R s m args below meth c D A nL Q q lv' rest ws cells slots) : Kd p l e R s m args below meth c D A nL Q pc lv (.int x :: rest) ws cells slots := by
  subst hq; intro ls H locs hl hP hD hS; exact lv_istore_n C.1 C.2.1 hdg hi hl hn hlv (fun ls' hl' => k ls' H locs hl' hP hD hS)
theorem K_astore_n (C : Kx p s m args meth c cc nL own D cI cR A ret) {q : Nat} {k0 : Fin 4} {i : Nat} {x : Nat} {lv' : List (Nat × Value)} (hdg : decode cc pc = .ok (.astore_n k0, 1)) (hq : pc + 1 = q) (hi : (k0 : Nat) = i) (hn : i < nL) (hlv : (i, Value.ref x) :: lv.filter (fun z => !(z.1 == i) && !(z.1 + 1 == i && z.2.category == 2)) = lv') (k : Kd p l e R s m args below meth c D A nL Q q lv' rest ws cells slots) : Kd p l e R s m args below meth c D A nL Q pc lv (.ref x :: rest) ws cells slots := by
  subst hq; intro ls H locs hl hP hD hS; exact lv_astore_n C.1 C.2.1 hdg hi hl hn hlv (fun ls' hl' => k ls' H locs hl' hP hD hS)
theorem K_iinc (C : Kx p s m args meth c cc nL own D cI cR A ret) {q : Nat} {i : Nat} {n : Int} {x v : Int32} {lv' : List (Nat × Value)} (hdg : decode cc pc = .ok (.iinc i n, 3)) (hq : pc + 3 = q) (pl : Nat) (hpl : lv[pl]? = some (i, .int x)) (hv : x + Int32.ofInt n = v) (hn : i < nL) (hlv : (i, Value.int v) :: lv.filter (fun z => !(z.1 == i) && !(z.1 + 1 == i && z.2.category == 2)) = lv') (k : Kd p l e R s m args below meth c D A nL Q q lv' rest ws cells slots) : Kd p l e R s m args below meth c D A nL Q pc lv rest ws cells slots := by
  subst hq; intro ls H locs hl hP hD hS; exact lv_iinc C.1 C.2.1 hdg hl hpl hv hn hlv (fun ls' hl' => k ls' H locs hl' hP hD hS)
theorem K_goto (C : Kx p s m args meth c cc nL own D cI cR A ret) {off : Int} {tgt : Nat} (hdg : decode cc pc = .ok (.goto off, 3)) (ht : (pc : Int) + off = (tgt : Int)) (k : Kd p l e R s m args below meth c D A nL Q tgt lv rest ws cells slots) : Kd p l e R s m args below meth c D A nL Q pc lv rest ws cells slots := by
  intro ls H locs hl hP hD hS; exact lv_goto C.1 C.2.1 hdg ht (k ls H locs hl hP hD hS)
theorem K_icmp_ge_t (C : Kx p s m args meth c cc nL own D cI cR A ret) {off : Int} {tgt : Nat} {x y : Int32} (hdg : decode cc pc = .ok (.if_icmp .ge off, 3)) (ht : (pc : Int) + off = (tgt : Int)) (h : y ≤ x) (k : Kd p l e R s m args below meth c D A nL Q tgt lv rest ws cells slots) : Kd p l e R s m args below meth c D A nL Q pc lv (.int y :: .int x :: rest) ws cells slots := by
  intro ls H locs hl hP hD hS; exact lv_icmp_ge C.1 C.2.1 hdg ht (fun _ => k ls H locs hl hP hD hS) (fun z => absurd h z)
theorem K_icmp_ge_f (C : Kx p s m args meth c cc nL own D cI cR A ret) {off : Int} {q : Nat} {x y : Int32} (hdg : decode cc pc = .ok (.if_icmp .ge off, 3)) (hq : pc + 3 = q) (tgt : Nat) (ht : (pc : Int) + off = (tgt : Int)) (h : ¬ y ≤ x) (k : Kd p l e R s m args below meth c D A nL Q q lv rest ws cells slots) : Kd p l e R s m args below meth c D A nL Q pc lv (.int y :: .int x :: rest) ws cells slots := by
  subst hq; intro ls H locs hl hP hD hS; exact lv_icmp_ge C.1 C.2.1 hdg ht (fun z => absurd z h) (fun _ => k ls H locs hl hP hD hS)
theorem K_icmp_gt_t (C : Kx p s m args meth c cc nL own D cI cR A ret) {off : Int} {tgt : Nat} {x y : Int32} (hdg : decode cc pc = .ok (.if_icmp .gt off, 3)) (ht : (pc : Int) + off = (tgt : Int)) (h : y < x) (k : Kd p l e R s m args below meth c D A nL Q tgt lv rest ws cells slots) : Kd p l e R s m args below meth c D A nL Q pc lv (.int y :: .int x :: rest) ws cells slots := by
  intro ls H locs hl hP hD hS; exact lv_icmp_gt C.1 C.2.1 hdg ht (fun _ => k ls H locs hl hP hD hS) (fun z => absurd h z)
theorem K_icmp_gt_f (C : Kx p s m args meth c cc nL own D cI cR A ret) {off : Int} {q : Nat} {x y : Int32} (hdg : decode cc pc = .ok (.if_icmp .gt off, 3)) (hq : pc + 3 = q) (tgt : Nat) (ht : (pc : Int) + off = (tgt : Int)) (h : ¬ y < x) (k : Kd p l e R s m args below meth c D A nL Q q lv rest ws cells slots) : Kd p l e R s m args below meth c D A nL Q pc lv (.int y :: .int x :: rest) ws cells slots := by
  subst hq; intro ls H locs hl hP hD hS; exact lv_icmp_gt C.1 C.2.1 hdg ht (fun z => absurd z h) (fun _ => k ls H locs hl hP hD hS)
theorem K_icmp_eq_t (C : Kx p s m args meth c cc nL own D cI cR A ret) {off : Int} {tgt : Nat} {x y : Int32} (hdg : decode cc pc = .ok (.if_icmp .eq off, 3)) (ht : (pc : Int) + off = (tgt : Int)) (h : x = y) (k : Kd p l e R s m args below meth c D A nL Q tgt lv rest ws cells slots) : Kd p l e R s m args below meth c D A nL Q pc lv (.int y :: .int x :: rest) ws cells slots := by
  intro ls H locs hl hP hD hS; exact lv_icmp_eq C.1 C.2.1 hdg ht (fun _ => k ls H locs hl hP hD hS) (fun z => absurd h z)
theorem K_if_eq_t (C : Kx p s m args meth c cc nL own D cI cR A ret) {off : Int} {tgt : Nat} {x : Int32} (hdg : decode cc pc = .ok (.ifCond .eq off, 3)) (ht : (pc : Int) + off = (tgt : Int)) (h : x = 0) (k : Kd p l e R s m args below meth c D A nL Q tgt lv rest ws cells slots) : Kd p l e R s m args below meth c D A nL Q pc lv (.int x :: rest) ws cells slots := by
  intro ls H locs hl hP hD hS; exact lv_if_eq C.1 C.2.1 hdg ht (fun _ => k ls H locs hl hP hD hS) (fun z => absurd h z)
theorem K_mmax (C : Kx p s m args meth c cc nL own D cI cR A ret) {q index : Nat} {x y v : Int32} (hv : mmax x y = v) (hl0 : Cond.methodLink own index Lib.Math.max.name ∈ WA) (hst : Cond.static Lib.Math.max.name ∈ WA) (hcd : Cond.code Lib.Math.max.name Lib.Math.max.code 2 (some .int) ∈ WA) (hf : 1 ≤ R.frames) (hlo : (rest.map fun v => v.category).sum + 13 ≤ R.locals) (hce : cells ≤ R.cells) (hsl : slots ≤ R.slots) (hdg : decode cc pc = .ok (.invokestatic index, 3)) (hq : pc + 3 = q) (k : Kd p l e R s m args below meth c D A nL Q q lv (.int v :: rest) ws cells slots) : Kd p l e R s m args below meth c D A nL Q pc lv (.int y :: .int x :: rest) ws cells slots := by
  subst hq; subst hv; intro ls H locs hl hP hD hS
  exact va_mmax C.1 C.2.1 (C.2.2.1.trans hl.1.symm) C.2.2.2.1 (C.2.2.2.2.1 _ hl0) (C.2.2.2.2.1 _ hst) (C.2.2.2.2.1 _ kZ_RJ9) (C.2.2.2.2.1 _ hcd) hf hlo hce hsl hdg (k ls H locs hl hP hD hS)
theorem K_mmin (C : Kx p s m args meth c cc nL own D cI cR A ret) {q index : Nat} {x y v : Int32} (hv : mmin x y = v) (hl0 : Cond.methodLink own index Lib.Math.min.name ∈ WA) (hst : Cond.static Lib.Math.min.name ∈ WA) (hcd : Cond.code Lib.Math.min.name Lib.Math.min.code 2 (some .int) ∈ WA) (hf : 1 ≤ R.frames) (hlo : (rest.map fun v => v.category).sum + 13 ≤ R.locals) (hce : cells ≤ R.cells) (hsl : slots ≤ R.slots) (hdg : decode cc pc = .ok (.invokestatic index, 3)) (hq : pc + 3 = q) (k : Kd p l e R s m args below meth c D A nL Q q lv (.int v :: rest) ws cells slots) : Kd p l e R s m args below meth c D A nL Q pc lv (.int y :: .int x :: rest) ws cells slots := by
  subst hq; subst hv; intro ls H locs hl hP hD hS
  exact va_mmin C.1 C.2.1 (C.2.2.1.trans hl.1.symm) C.2.2.2.1 (C.2.2.2.2.1 _ hl0) (C.2.2.2.2.1 _ hst) (C.2.2.2.2.1 _ kZ_RJ9) (C.2.2.2.2.1 _ hcd) hf hlo hce hsl hdg (k ls H locs hl hP hD hS)
theorem K_obj (C : Kx p s m args meth c cc nL own D cI cR A ret) {q index x : Nat} (hl0 : Cond.methodLink own index Lib.objectInit ∈ WA) (hf : 1 ≤ R.frames) (hlo : (rest.map fun v => v.category).sum + 12 ≤ R.locals) (hdg : decode cc pc = .ok (.invokespecial index, 3)) (hq : pc + 3 = q) (k : Kd p l e R s m args below meth c D A nL Q q lv rest ws cells slots) : Kd p l e R s m args below meth c D A nL Q pc lv (.ref x :: rest) ws cells slots := by
  subst hq; intro ls H locs hl hP hD hS
  refine W.objInit C.1 C.2.1 C.2.2.2.1 (C.2.2.2.2.1 _ hl0) (C.2.2.2.2.1 _ kOB) (C.2.2.2.2.1 _ kOC) rfl (hl.1.trans C.2.2.1.symm) rfl hdg hf (by rw [show 2 * (F0 m pc ls (.ref x :: rest)).monitorRoom = 0 from rfl, Nat.zero_add]; exact hlo) ?_
  exact W.eq (g2 := F0 m (pc + 3) ls rest) rfl (k ls H locs hl hP hD hS)
theorem K_new (C : Kx p s m args meth c cc nL own D cI cR A ret) {Cn : String} {T : u_T} {Nf ci index q : Nat} {fs : List Value} (hin : ∀ w ∈ u_ws Cn T Nf, w ∈ WA) (ty : Nat → FieldType) (hty : ∀ k, k < Nf → parseFieldDescriptor (T k).2.2.1 = some (ty k)) (hcl : Cond.classLink own index Cn ∈ WA) (hinst : Cond.instantiable Cn Nf ∈ WA) (hini : Cond.initialized Cn ∈ WA) (hc : vwCl[ci]? = some (Cn, T, Nf)) (hfs : ∀ j, j < Nf → defaultValue (ty j) = vp_V fs j) (hce : cells + 1 ≤ R.cells) (hsl : slots + Nf ≤ R.slots) (hdg : decode cc pc = .ok (.new index, 3)) (hq : pc + 3 = q) (k : ∀ h : Nat, Kd p l e R s m args below meth c D A nL Q q lv (.ref h :: rest) (ws ++ [(h, .inr (ci, fs))]) (cells + 1) (slots + Nf)) : Kd p l e R s m args below meth c D A nL Q pc lv rest ws cells slots := by
  subst hq; intro ls H locs hl hP hD hS
  exact va_new C.1 C.2.1 C.2.2.2.2.1 hin ty hty C.2.2.2.1 (C.2.2.2.2.1 _ hcl) (C.2.2.2.2.1 _ hinst) (C.2.2.2.2.1 _ hini) C.2.2.2.2.2.1 hP hD hS C.2.2.2.2.2.2.2.2.2 hc hfs hce hsl hdg (fun h H1 hP1 hD1 hS1 => k h ls H1 locs hl hP1 hD1 hS1)
theorem K_newa (C : Kx p s m args meth c cc nL own D cI cR A ret) {q : Nat} {n : Int32} {n' : Nat} (hn : ¬ n < 0) (hN : n.toNatClampNeg = n') (hby : n' * 4 ≤ 536870912) (hce : cells + 1 ≤ R.cells) (hsl : slots + n' ≤ R.slots) (hdg : decode cc pc = .ok (.newarray .int, 2)) (hq : pc + 2 = q) (k : ∀ h : Nat, Kd p l e R s m args below meth c D A nL Q q lv (.ref h :: rest) (ws ++ [(h, .inl (cI, n', .inl (fun _ => 0)))]) (cells + 1) (slots + n')) : Kd p l e R s m args below meth c D A nL Q pc lv (.int n :: rest) ws cells slots := by
  subst hq; intro ls H locs hl hP hD hS
  refine va_newa (atype := .int) (ty := .int) (a0 := (n', .inl (fun _ => 0))) C.1 C.2.1 (C.2.2.2.2.1 _ kA_int) rfl C.2.2.2.2.2.1 hP hD hS C.2.2.2.2.2.2.2.2.2 (fun _ => rfl) hn hN hby hce hsl hdg (fun h cA H1 hK1 hP1 hD1 hS1 => ?_)
  have e1 : s.vm.findClass ("[" ++ FieldType.int.toString) = some cA := (hK1.2 2 (cA, .int) rfl).2
  have e2 : s.vm.findClass ("[" ++ FieldType.int.toString) = some cI := (hK1.2 0 (cI, .int) rfl).2
  obtain rfl : cA = cI := Option.some.inj (e1.symm.trans e2)
  exact k h ls H1 locs hl hP1 hD1 hS1
theorem K_newq (C : Kx p s m args meth c cc nL own D cI cR A ret) {q index : Nat} {n : Int32} {n' : Nat} (hcl : Cond.classLink own index "WokenYears$Ints" ∈ WA) (hn : ¬ n < 0) (hN : n.toNatClampNeg = n') (hby : n' * 4 ≤ 536870912) (hce : cells + 1 ≤ R.cells) (hsl : slots + n' ≤ R.slots) (hdg : decode cc pc = .ok (.anewarray index, 3)) (hq : pc + 3 = q) (k : ∀ h : Nat, Kd p l e R s m args below meth c D A nL Q q lv (.ref h :: rest) (ws ++ [(h, .inl (cR, n', .inr (.inr (.inr (.inr (fun _ => none))))))]) (cells + 1) (slots + n')) : Kd p l e R s m args below meth c D A nL Q pc lv (.int n :: rest) ws cells slots := by
  subst hq; intro ls H locs hl hP hD hS
  refine va_newq C.1 C.2.1 C.2.2.2.1 (C.2.2.2.2.1 _ hcl) C.2.2.2.2.2.2.2.2.1.2 C.2.2.2.2.2.1 hP hD hS C.2.2.2.2.2.2.2.2.2 hn hN hby hce hsl hdg (fun h cA H1 hK1 hP1 hD1 hS1 => ?_)
  obtain ⟨kA, comp, -, -, -, e1⟩ := (hK1.2 2 (cA, .object "WokenYears$Ints") rfl).2
  obtain ⟨kA', comp', -, -, -, e2⟩ := (hK1.2 1 (cR, .object "WokenYears$Ints") rfl).2
  obtain rfl : cA = cR := Option.some.inj (e1.symm.trans e2)
  exact k h ls H1 locs hl hP1 hD1 hS1
theorem K_aast (C : Kx p s m args meth c cc nL own D cI cR A ret) {q a v n : Nat} {vs : List Value} {f : Nat → Option Nat} {i : Int32} {i' : Nat} {ws' : va_W} (q0 qk : Nat) (ha : ws[q0]? = some (a, .inl (cR, n, .inr (.inr (.inr (.inr (f))))))) (hv : ws[qk]? = some (v, .inr (0, vs))) (hin : inB i n = true) (hi : i.toNatClampNeg = i') (hw : ws.set q0 (a, .inl (cR, n, .inr (.inr (.inr (.inr (va_up f i' (some v))))))) = ws') (hdg : decode cc pc = .ok (.aastore, 1)) (hq : pc + 1 = q) (k : Kd p l e R s m args below meth c D A nL Q q lv rest ws' cells slots) : Kd p l e R s m args below meth c D A nL Q pc lv (.ref v :: .int i :: .ref a :: rest) ws cells slots := by
  subst hq; subst hw; subst hi; intro ls H locs hl hP hD hS
  exact va_astq C.1 C.2.1 C.2.2.2.2.2.1 hP hD hS q0 1 qk 0 (r := (RX0, TX0, 2)) ha rfl hv rfl (inB_in hin) hdg (fun H1 locs1 hP1 hD1 hS1 => k ls H1 locs1 hl hP1 hD1 hS1)
theorem K_alen (C : Kx p s m args meth c cc nL own D cI cR A ret) {q a : Nat} {cA : ClassId} {x : vp_A} {ty : FieldType} (q0 t0 : Nat) (ha : ws[q0]? = some (a, .inl (cA, x))) (ht : (tysC cI cR)[t0]? = some (cA, ty)) {v : Int32} (hv : nI x.1 = v) (hdg : decode cc pc = .ok (.arraylength, 1)) (hq : pc + 1 = q) (k : Kd p l e R s m args below meth c D A nL Q q lv (.int v :: rest) ws cells slots) : Kd p l e R s m args below meth c D A nL Q pc lv (.ref a :: rest) ws cells slots := by
  subst hq; subst hv; intro ls H locs hl hP hD hS
  exact va_alen (D := D) C.1 C.2.1 C.2.2.2.2.2.1 hP q0 t0 ha ht rfl hdg (k ls H locs hl hP hD hS)
theorem K_iast (C : Kx p s m args meth c cc nL own D cI cR A ret) {q a n : Nat} {f : Nat → Int32} {i x : Int32} {i' : Nat} {ws' : va_W} (q0 : Nat) (ha : ws[q0]? = some (a, .inl (cI, n, .inl f))) (hin : inB i n = true) (hi : i.toNatClampNeg = i') (hw : ws.set q0 (a, .inl (cI, n, .inl (upd f i' x))) = ws') (hdg : decode cc pc = .ok (.iastore, 1)) (hq : pc + 1 = q) (k : Kd p l e R s m args below meth c D A nL Q q lv rest ws' cells slots) : Kd p l e R s m args below meth c D A nL Q pc lv (.int x :: .int i :: .ref a :: rest) ws cells slots := by
  subst hq; subst hw; subst hi; intro ls H locs hl hP hD hS
  exact va_iast (D := D) C.1 C.2.1 C.2.2.2.2.2.1 hP hD hS q0 0 ha rfl (inB_in hin) hdg (fun H1 locs1 hP1 hD1 hS1 => k ls H1 locs1 hl hP1 hD1 hS1)
theorem K_get (C : Kx p s m args meth c cc nL own D cI cR A ret) {Cn : String} {T : u_T} {Nf ci index q a : Nat} {fs : List Value} (hin : ∀ w ∈ u_ws Cn T Nf, w ∈ WA) (q0 : Nat) (ha : ws[q0]? = some (a, .inr (ci, fs))) (hcl : vwCl[ci]? = some (Cn, T, Nf)) (j : Nat) (hj : j < Nf) (hw : Cond.fieldLink own index (T j).1 (T j).2.1 (T j).2.2.1 ∈ WA) {v : Value} (hv : fs[j]? = some v) (hdg : decode cc pc = .ok (.getfield index, 3)) (hq : pc + 3 = q) (k : Kd p l e R s m args below meth c D A nL Q q lv (v :: rest) ws cells slots) : Kd p l e R s m args below meth c D A nL Q pc lv (.ref a :: rest) ws cells slots := by
  subst hq; intro ls H locs hl hP hD hS
  exact va_get (D := D) C.1 C.2.1 C.2.2.2.2.1 hin C.2.2.2.1 C.2.2.2.2.2.1 hP q0 ha hcl j hj (C.2.2.2.2.1 _ hw) (fun _ h9 => h9) hv hdg (k ls H locs hl hP hD hS)
theorem K_put (C : Kx p s m args meth c cc nL own D cI cR A ret) {Cn : String} {T : u_T} {Nf ci index q a : Nat} {fs : List Value} {ws' : va_W} (hin : ∀ w ∈ u_ws Cn T Nf, w ∈ WA) (ty0 : Nat → FieldType) (hty : ∀ k, k < Nf → parseFieldDescriptor (T k).2.2.1 = some (ty0 k)) (hnm : ∀ a, a < Nf → ∀ b, b < Nf → a ≠ b → (T a).2.1 ≠ (T b).2.1) (q0 : Nat) (ha : ws[q0]? = some (a, .inr (ci, fs))) (hcl : vwCl[ci]? = some (Cn, T, Nf)) (j : Nat) (hj : j < Nf) (hw : Cond.fieldLink own index (T j).1 (T j).2.1 (T j).2.2.1 ∈ WA) (hfin : (T j).2.2.2 = false) {ty : FieldType} {v : Value} (hd : parseFieldDescriptor (T j).2.2.1 = some ty) (hn : narrow ty v = v) (hfit : fits ty v = true) (hlf : j < fs.length) (hs : ws.set q0 (a, .inr (ci, fs.set j v)) = ws') (hdg : decode cc pc = .ok (.putfield index, 3)) (hq : pc + 3 = q) (k : Kd p l e R s m args below meth c D A nL Q q lv rest ws' cells slots) : Kd p l e R s m args below meth c D A nL Q pc lv (v :: .ref a :: rest) ws cells slots := by
  subst hq; subst hs; intro ls H locs hl hP hD hS
  exact va_put (D := D) C.1 C.2.1 C.2.2.2.2.1 hin ty0 hty hnm C.2.2.2.1 C.2.2.2.2.2.1 hP hD hS q0 ha hcl j hj (C.2.2.2.2.1 _ hw) (fun _ h9 => h9) hfin hd hn hfit hlf hdg (fun H1 locs1 hP1 hD1 hS1 => k ls H1 locs1 hl hP1 hD1 hS1)
theorem K_putF (C : Kx p s m args meth c cc nL own D cI cR A ret) {Cn : String} {T : u_T} {Nf ci index q a : Nat} {fs : List Value} {ws' : va_W} (hin : ∀ w ∈ u_ws Cn T Nf, w ∈ WA) (ty0 : Nat → FieldType) (hty : ∀ k, k < Nf → parseFieldDescriptor (T k).2.2.1 = some (ty0 k)) (hnm : ∀ a, a < Nf → ∀ b, b < Nf → a ≠ b → (T a).2.1 ≠ (T b).2.1) (q0 : Nat) (ha : ws[q0]? = some (a, .inr (ci, fs))) (hcl : vwCl[ci]? = some (Cn, T, Nf)) (j : Nat) (hj : j < Nf) (hw : Cond.fieldLink own index (T j).1 (T j).2.1 (T j).2.2.1 ∈ WA) (hfin : (T j).2.2.2 = true) (hin2 : meth.name = "<init>") (hdecl : (T j).1 = own) {ty : FieldType} {v : Value} (hd : parseFieldDescriptor (T j).2.2.1 = some ty) (hn : narrow ty v = v) (hfit : fits ty v = true) (hlf : j < fs.length) (hs : ws.set q0 (a, .inr (ci, fs.set j v)) = ws') (hdg : decode cc pc = .ok (.putfield index, 3)) (hq : pc + 3 = q) (k : Kd p l e R s m args below meth c D A nL Q q lv rest ws' cells slots) : Kd p l e R s m args below meth c D A nL Q pc lv (v :: .ref a :: rest) ws cells slots := by
  subst hq; subst hs; intro ls H locs hl hP hD hS
  exact va_putF (D := D) C.1 C.2.1 C.2.2.2.2.1 hin ty0 hty hnm C.2.2.2.1 C.2.2.2.2.2.1 hP hD hS q0 ha hcl j hj (C.2.2.2.2.1 _ hw) (fun _ h9 => h9) hfin hin2 hdecl hd hn hfit hlf hdg (fun H1 locs1 hP1 hD1 hS1 => k ls H1 locs1 hl hP1 hD1 hS1)
end KK
def rmK (fr lo mc ms : Nat) : Room := { frames := fr, cells := mc, slots := ms, locals := lo }
/-- a constructor's contract: out of the one cell e0 it makes the cells w1, of which P tells -/
def MK (l : Launch) (D : va_G) (cI cR : ClassId) (y : MethodName) (cc : ByteArray) (maxL fr lo mc ms : Nat) (av : List Value) (e0 : va_E) (P : Nat → va_W → Prop) : Prop :=
  ∀ h0 sz : Nat, Met l y (.code y cc maxL none :: WA) (rmK fr lo mc ms) (va_Pc (.ref h0 :: av) (fun U => U.heap.size = sz ∧ va_P D vwCl [(h0, e0)] U.heap ∧ va_K D vwCl (tysC cI cR) U ∧ NK U)) (va_Qv (fun w1 : va_W => P h0 w1) (fun w1 t => va_P D vwCl w1 t.heap ∧ va_D (va_A [(h0, e0)] sz) w1) (va_A [(h0, e0)] sz)) mc ms (va_A [(h0, e0)] sz)
/-- a static method that makes an array of objects -/
def MQK (l : Launch) (D : va_G) (cI cR : ClassId) (y : MethodName) (cc : ByteArray) (maxL : Nat) (ty : FieldType) (fr lo mc ms : Nat) (av : List Value) (P : Option Nat → va_W → Prop) : Prop :=
  ∀ sz : Nat, Met l y (.code y cc maxL (some ty) :: WA) (rmK fr lo mc ms) (va_Pc av (fun U => U.heap.size = sz ∧ va_K D vwCl (tysC cI cR) U ∧ NK U)) (va_Qq (fun r (w1 : va_W) => P r w1) (fun w1 t => va_P D vwCl w1 t.heap ∧ va_D (va_A [] sz) w1) (va_A [] sz)) mc ms (va_A [] sz)
theorem va_D1 {A : Nat → Prop} {h : Nat} {x : va_E} (hA : A h) : va_D A [(h, x)] := by
  refine ⟨fun i j p q hi hj _ => ?_, fun k q hk => ?_⟩
  · rcases i with _ | i
    · rcases j with _ | j
      · rfl
      · simp at hj
    · simp at hi
  · rcases k with _ | k
    · cases hk; exact hA
    · simp at hk
theorem va_nil {D : va_G} {H : Heap} : va_P D vwCl [] H := fun k q h => by simp at h
theorem va_Dnil {A : Nat → Prop} : va_D A [] := ⟨fun i j p q h => by simp at h, fun k q h => by simp at h⟩
theorem entK {l : Launch} {D : va_G} {cI cR : ClassId} {y : MethodName} {cc : ByteArray} {maxL fr lo mc ms : Nat} {av : List Value} {e0 : va_E} {P : Nat → va_W → Prop} (own : String) (hy : plainName y.cls = true) (hyn : y.name = "<init>") (hcl : y.cls = own) (hlen : (lg_sl (.ref 0 :: av)).length ≤ maxL) (K : ∀ (p : Program) (e : Env) (s : State) (m : MethodId) (args : Array Value) (below : List Frame) (meth : Method) (c : Code) (h0 : Nat) (A : Nat → Prop), Kx p s m args meth c cc maxL own D cI cR A none → meth.name = "<init>" → Kd p l e (rmK fr lo mc ms) s m args below meth c D A maxL (MQ below (va_Qv (fun w1 : va_W => P h0 w1) (fun w1 t => va_P D vwCl w1 t.heap ∧ va_D A w1) A) args s mc ms A) 0 (lv_args 0 (.ref h0 :: av)) [] [(h0, e0)] 0 0) : MK l D cI cR y cc maxL fr lo mc ms av e0 P := by
  intro h0 sz
  refine Met.ofW (cc := cc) (maxL := maxL) (ret := none) hy rfl ?_
  intro p e s m args below meth c s₁ B hml hv
  obtain ⟨rfl, hsz, hP, hK, hNK⟩ := hv
  have hts := atoms_spec B.pre
  subst hcl
  subst hsz
  rw [lg_entry_eq]
  exact K p e s m _ below meth c h0 (va_A [(h0, e0)] s.heap.size) ⟨B.exec, B.bytes, hml, findClass_of_methodNamed B.named, fun w hw => hts w (List.mem_cons_of_mem _ hw), hK, B.returns, B.notSynchronized, hNK, fun q h => Or.inr h⟩ ((name_of_methodNamed B.named B.method).1.trans hyn) _ _ _ (lv_entry (.ref h0 :: av) hlen) hP (va_D1 (Or.inl ⟨0, e0, rfl⟩)) va_S.rf
theorem entKQ {l : Launch} {D : va_G} {cI cR : ClassId} {y : MethodName} {cc : ByteArray} {maxL fr lo mc ms : Nat} {ty : FieldType} {av : List Value} {P : Option Nat → va_W → Prop} (own : String) (hy : plainName y.cls = true) (hcl : y.cls = own) (hlen : (lg_sl av).length ≤ maxL) (K : ∀ (p : Program) (e : Env) (s : State) (m : MethodId) (args : Array Value) (below : List Frame) (meth : Method) (c : Code) (A : Nat → Prop), Kx p s m args meth c cc maxL own D cI cR A (some ty) → Kd p l e (rmK fr lo mc ms) s m args below meth c D A maxL (MQ below (va_Qq (fun r (w1 : va_W) => P r w1) (fun w1 t => va_P D vwCl w1 t.heap ∧ va_D A w1) A) args s mc ms A) 0 (lv_args 0 av) [] [] 0 0) : MQK l D cI cR y cc maxL ty fr lo mc ms av P := by
  intro sz
  refine Met.ofW (cc := cc) (maxL := maxL) (ret := some ty) hy rfl ?_
  intro p e s m args below meth c s₁ B hml hv
  obtain ⟨rfl, hsz, hK, hNK⟩ := hv
  have hts := atoms_spec B.pre
  subst hcl
  subst hsz
  rw [lg_entry_eq]
  exact K p e s m _ below meth c (va_A [] s.heap.size) ⟨B.exec, B.bytes, hml, findClass_of_methodNamed B.named, fun w hw => hts w (List.mem_cons_of_mem _ hw), hK, B.returns, B.notSynchronized, hNK, fun q h => Or.inr h⟩ _ _ _ (lv_entry av hlen) va_nil va_Dnil va_S.rf
section KE
variable {p : Program} {l : Launch} {e : Env} {R : Room} {s : State} {m : MethodId} {args : Array Value} {below : List Frame} {meth : Method} {c : Code} {D : va_G} {cI cR : ClassId} {A : Nat → Prop} {nL : Nat} {Q : State → Prop} {cc : ByteArray} {own : String} {ret : Option FieldType} {pc : Nat} {lv : List (Nat × Value)} {rest : List Value} {ws : va_W} {cells slots : Nat}
theorem K_vret (C : Kx p s m args meth c cc nL own D cI cR A none) {P : va_W → Prop} {mc ms : Nat} (hp : P ws) (hc : cells ≤ mc) (hs : slots ≤ ms) (hdg : decode cc pc = .ok (.return_, 1)) : Kd p l e R s m args below meth c D A nL (MQ below (va_Qv (fun w1 : va_W => P w1) (fun w1 t => va_P D vwCl w1 t.heap ∧ va_D A w1) A) args s mc ms A) pc lv [] ws cells slots := by
  intro ls H locs hl hP hD hS
  refine W.widen (k := mc) (n := ms) hc hs ?_
  exact W.vret C.1 C.2.1 C.2.2.2.2.2.2.1 (fun t ht hW => ⟨⟨ws, rfl, hp, by rw [ht]; exact hP, hD⟩, hS.F ht⟩) hS.2.2 hdg C.2.2.2.2.2.2.2.1
theorem K_aret {rt : FieldType} (C : Kx p s m args meth c cc nL own D cI cR A (some (.array rt))) {P : Option Nat → va_W → Prop} {mc ms a : Nat} (hp : P (some a) ws) (hc : cells ≤ mc) (hs : slots ≤ ms) (hdg : decode cc pc = .ok (.areturn, 1)) : Kd p l e R s m args below meth c D A nL (MQ below (va_Qq (fun r (w1 : va_W) => P r w1) (fun w1 t => va_P D vwCl w1 t.heap ∧ va_D A w1) A) args s mc ms A) pc lv [.ref a] ws cells slots := by
  intro ls H locs hl hP hD hS
  refine W.widen (k := mc) (n := ms) hc hs ?_
  exact W.aret C.1 C.2.1 C.2.2.2.2.2.2.1 (Or.inr ⟨rt, rfl⟩) (va_rf_or (some a)) (fun t ht hW => ⟨⟨some a, ws, rfl, hp, by rw [ht]; exact hP, hD⟩, hS.F ht⟩) hS.2.2 hdg C.2.2.2.2.2.2.2.1
theorem mapR (wr x : va_W) : (List.range wr.length).map (fun i => (wr ++ x)[i]?) = wr.map some := by
  apply List.ext_getElem
  · simp
  · intro i h1 h2
    have h3 : i < wr.length := by simpa using h1
    simp [List.getElem?_append_left h3, h3]
theorem ndR (n : Nat) : va_nd (List.range n) = true := by
  have h : ∀ (l : List Nat), l.Nodup → va_nd l = true := by
    intro l
    induction l with
    | nil => intro _; rfl
    | cons a l ih =>
      intro h
      have h2 := List.nodup_cons.mp h
      simp only [va_nd, Bool.and_eq_true, decide_eq_true_eq]
      exact ⟨h2.1, ih h2.2⟩
  exact h _ List.nodup_range
theorem K_init (C : Kx p s m args meth c cc nL own D cI cR A ret) {y : MethodName} {cc' : ByteArray} {maxL fr lo mc ms n index q h : Nat}  {e0 : va_E} {av : List Value} {P : Nat → va_W → Prop} {wr : va_W} (hM : MK l D cI cR y cc' maxL fr lo mc ms av e0 P) (hy : okI y cc' maxL n) (hl0 : Cond.methodLink own index y ∈ WA) (hn : av.length = n) {st : List Value} (hst : st = av.reverse ++ (.ref h :: rest)) (hws : ws = wr ++ [(h, e0)]) (hR : fr + 1 ≤ R.frames ∧ 8 + (maxL + 11) + lo ≤ R.locals) (hW8 : (rest.map fun v => v.category).sum ≤ 8) (hf : cells + mc ≤ R.cells ∧ slots + ms ≤ R.slots) (hdg : decode cc pc = .ok (.invokespecial index, 3)) (hq : pc + 3 = q) (k : ∀ w1 : va_W, P h w1 → Kd p l e R s m args below meth c D A nL Q q lv rest (wr ++ w1) (cells + mc) (slots + ms)) : Kd p l e R s m args below meth c D A nL Q pc lv st ws cells slots := by
  subst hq; subst hst; subst hws
  intro ls H locs hl hP hD hS
  obtain ⟨hx, hb, hml, hown, hts, hK, -, -, hNK, hA⟩ := C
  have hC : [wr.length].map (fun i => (wr ++ [(h, e0)])[i]?) = [(h, e0)].map some := by simp
  have hPc : va_P D vwCl [(h, e0)] H := hP.by (fun i => wr.length + i) (fun i z hz => by rcases i with _ | i <;> simp at hz ⊢; exact hz)
  have hFc := va_free (wc := [(h, e0)]) hD hS hA [wr.length] hC
  refine va_callv (va_runI (As := av) (rest := rest) ⟨hx, hb, hml, hown, hts⟩ (hM h H.size) ⟨callB_of n hts (gWB hy.1) rfl rfl rfl (hts _ hy.2.2.1) (hts _ hl0) hy.2.2.2.2 hR, hy.2.2.2.1, hts _ hy.2.1⟩ ⟨fun a U g mk z => by obtain ⟨z0, z1, zP, zK, zN⟩ := z; exact ⟨z0, z1, zP, va_K.moved (u := U) (U := U.calling g mk a) (Vm.Alike.refl U.vm) zK, NK_same (U := U.calling g mk a) rfl zN⟩, fun U hU hW => ⟨rfl, by rw [hU], by rw [hU]; exact hPc, va_K.moved hW.alike hK, NK_warm hW hNK⟩⟩ rfl hn hl.1 rfl (lv_room hW8) hdg hf) hS (fun q _ h => hFc q h) hFc (fun w1 t H1 locs1 ht hvm hw hB hz hk1 hS => ?_)
  obtain ⟨hP1, hD1⟩ := hB
  rw [ht] at hP1
  obtain ⟨hP, hD⟩ := va_join (wr := wr) (w1 := w1) hP hD [wr.length] (List.range wr.length) hC (mapR wr _) (ndR _) (fun i hi => by have := List.mem_range.mp hi; intro h9; have := List.mem_singleton.mp h9; omega) hk1 hFc hP1 hD1
  exact k w1 hw ls H1 locs1 hl hP hD hS
theorem K_initN (C : Kx p s m args meth c cc nL own D cI cR A ret) {y : MethodName} {cc' : ByteArray} {maxL fr lo mc ms n index q h : Nat} {host : String} {e0 : va_E} {av : List Value} {P : Nat → va_W → Prop} {wr : va_W} (hM : MK l D cI cR y cc' maxL fr lo mc ms av e0 P) (hy : okI y cc' maxL n) (hl0 : va_Nw (.methodLinkNest own index y host) s) (hn : av.length = n) {st : List Value} (hst : st = av.reverse ++ (.ref h :: rest)) (hws : ws = wr ++ [(h, e0)]) (hR : fr + 1 ≤ R.frames ∧ 8 + (maxL + 11) + lo ≤ R.locals) (hW8 : (rest.map fun v => v.category).sum ≤ 8) (hf : cells + mc ≤ R.cells ∧ slots + ms ≤ R.slots) (hdg : decode cc pc = .ok (.invokespecial index, 3)) (hq : pc + 3 = q) (k : ∀ w1 : va_W, P h w1 → Kd p l e R s m args below meth c D A nL Q q lv rest (wr ++ w1) (cells + mc) (slots + ms)) : Kd p l e R s m args below meth c D A nL Q pc lv st ws cells slots := by
  subst hq; subst hst; subst hws
  intro ls H locs hl hP hD hS
  obtain ⟨hx, hb, hml, hown, hts, hK, -, -, hNK, hA⟩ := C
  have hC : [wr.length].map (fun i => (wr ++ [(h, e0)])[i]?) = [(h, e0)].map some := by simp
  have hPc : va_P D vwCl [(h, e0)] H := hP.by (fun i => wr.length + i) (fun i z hz => by rcases i with _ | i <;> simp at hz ⊢; exact hz)
  have hFc := va_free (wc := [(h, e0)]) hD hS hA [wr.length] hC
  refine va_callv (va_runIN (As := av) (rest := rest) ⟨hx, hb, hml, hown, hts⟩ (hM h H.size) ⟨va_cnB n hts (gWB hy.1) rfl rfl rfl hl0 (hts _ hy.2.2.1) hy.2.2.2.2 hR, hy.2.2.2.1, hts _ hy.2.1⟩ ⟨fun a U g mk z => by obtain ⟨z0, z1, zP, zK, zN⟩ := z; exact ⟨z0, z1, zP, va_K.moved (u := U) (U := U.calling g mk a) (Vm.Alike.refl U.vm) zK, NK_same (U := U.calling g mk a) rfl zN⟩, fun U hU hW => ⟨rfl, by rw [hU], by rw [hU]; exact hPc, va_K.moved hW.alike hK, NK_warm hW hNK⟩⟩ rfl hn hl.1 rfl (lv_room hW8) hdg hf) hS (fun q _ h => hFc q h) hFc (fun w1 t H1 locs1 ht hvm hw hB hz hk1 hS => ?_)
  obtain ⟨hP1, hD1⟩ := hB
  rw [ht] at hP1
  obtain ⟨hP, hD⟩ := va_join (wr := wr) (w1 := w1) hP hD [wr.length] (List.range wr.length) hC (mapR wr _) (ndR _) (fun i hi => by have := List.mem_range.mp hi; intro h9; have := List.mem_singleton.mp h9; omega) hk1 hFc hP1 hD1
  exact k w1 hw ls H1 locs1 hl hP hD hS
theorem K_callQ (C : Kx p s m args meth c cc nL own D cI cR A ret) {y : MethodName} {cc' : ByteArray} {maxL fr lo mc ms n index q : Nat} {ty : FieldType} {av : List Value} {P : Option Nat → va_W → Prop} (hM : MQK l D cI cR y cc' maxL ty fr lo mc ms av P) (hy : okS y cc' maxL (some ty) n) (hl0 : Cond.methodLink own index y ∈ WA) (hn : av.length = n) {st : List Value} (hst : st = av.reverse ++ rest) (hR : fr + 1 ≤ R.frames ∧ 8 + (maxL + 11) + lo ≤ R.locals) (hW8 : (rest.map fun v => v.category).sum ≤ 8) (hf : cells + mc ≤ R.cells ∧ slots + ms ≤ R.slots) (hdg : decode cc pc = .ok (.invokestatic index, 3)) (hq : pc + 3 = q) (k : ∀ (r : Option Nat) (w1 : va_W), P r w1 → Kd p l e R s m args below meth c D A nL Q q lv (va_rf r :: rest) (ws ++ w1) (cells + mc) (slots + ms)) : Kd p l e R s m args below meth c D A nL Q pc lv st ws cells slots := by
  subst hq; subst hst
  intro ls H locs hl hP hD hS
  obtain ⟨hx, hb, hml, hown, hts, hK, -, -, hNK, hA⟩ := C
  have hFc := va_free (wc := []) hD hS hA [] rfl
  refine va_callq (va_runS (As := av) (rest := rest) ⟨hx, hb, hml, hown, hts⟩ (hM H.size) ⟨callB_of n hts (gWB hy.1) rfl rfl rfl (hts _ hy.2.2.1) (hts _ hl0) hy.2.2.2 hR, hts _ hy.2.1⟩ ⟨fun a U g mk z => by obtain ⟨z0, z1, zK, zN⟩ := z; exact ⟨z0, z1, va_K.moved (u := U) (U := U.calling g mk a) (Vm.Alike.refl U.vm) zK, NK_same (U := U.calling g mk a) rfl zN⟩, fun U hU hW => ⟨rfl, by rw [hU], va_K.moved hW.alike hK, NK_warm hW hNK⟩⟩ rfl hn hl.1 rfl (lv_room hW8) hdg hf) hS (fun q _ h => hFc q h) hFc (fun r w1 t H1 locs1 ht hvm hw hB hz hk1 hS => ?_)
  obtain ⟨hP1, hD1⟩ := hB
  rw [ht] at hP1
  obtain ⟨hP, hD⟩ := va_join (wr := ws) (w1 := w1) hP hD [] (List.range ws.length) rfl (by have := mapR ws []; rwa [List.append_nil] at this) (ndR _) (fun i _ => List.not_mem_nil) hk1 hFc hP1 hD1
  exact k r w1 hw ls H1 locs1 hl hP hD hS
theorem K_st {st st' : List Value} {ws ws' : va_W} (hst : st = st') (hw : ws = ws') (k : Kd p l e R s m args below meth c D A nL Q pc lv st' ws' cells slots) : Kd p l e R s m args below meth c D A nL Q pc lv st ws cells slots := hst ▸ hw ▸ k
theorem K_sub {lv' : List (Nat × Value)} {st : List Value} (ks : List Nat) (hk : lv_pick lv ks = lv') (k : Kd p l e R s m args below meth c D A nL Q pc lv' st ws cells slots) : Kd p l e R s m args below meth c D A nL Q pc lv st ws cells slots := fun ls H locs hl hP hD hS => k ls H locs (lv_sub hl ks hk) hP hD hS
end KE
/-- a method without an answer, over the cells wc, which become w1 -/
def MVK (l : Launch) (D : va_G) (cI cR : ClassId) (y : MethodName) (cc : ByteArray) (maxL fr lo : Nat) (av : List Value) (wc w1 : va_W) : Prop :=
  ∀ sz : Nat, Met l y (.code y cc maxL none :: WA) (rmK fr lo 0 0) (va_Pc av (fun U => U.heap.size = sz ∧ va_P D vwCl wc U.heap ∧ va_K D vwCl (tysC cI cR) U ∧ NK U ∧ va_D (fun _ => True) wc)) (va_Qv (fun u : va_W => u = w1) (fun u t => va_P D vwCl u t.heap ∧ va_D (va_A wc sz) u) (va_A wc sz)) 0 0 (va_A wc sz)
theorem entVK {l : Launch} {D : va_G} {cI cR : ClassId} {y : MethodName} {cc : ByteArray} {maxL fr lo : Nat} {av : List Value} {wc w1 : va_W} (own : String) (hy : plainName y.cls = true) (hcl : y.cls = own) (hlen : (lg_sl av).length ≤ maxL) (K : ∀ (p : Program) (e : Env) (s : State) (m : MethodId) (args : Array Value) (below : List Frame) (meth : Method) (c : Code) (A : Nat → Prop), Kx p s m args meth c cc maxL own D cI cR A none → Kd p l e (rmK fr lo 0 0) s m args below meth c D A maxL (MQ below (va_Qv (fun u : va_W => u = w1) (fun w1 t => va_P D vwCl w1 t.heap ∧ va_D A w1) A) args s 0 0 A) 0 (lv_args 0 av) [] wc 0 0) : MVK l D cI cR y cc maxL fr lo av wc w1 := by
  intro sz
  refine Met.ofW (cc := cc) (maxL := maxL) (ret := none) hy rfl ?_
  intro p e s m args below meth c s₁ B hml hv
  obtain ⟨rfl, hsz, hP, hK, hNK, hD0⟩ := hv
  have hts := atoms_spec B.pre
  subst hcl
  subst hsz
  rw [lg_entry_eq]
  exact K p e s m _ below meth c (va_A wc s.heap.size) ⟨B.exec, B.bytes, hml, findClass_of_methodNamed B.named, fun w hw => hts w (List.mem_cons_of_mem _ hw), hK, B.returns, B.notSynchronized, hNK, fun q h => Or.inr h⟩ _ _ _ (lv_entry av hlen) hP (hD0.self (sz := s.heap.size)) va_S.rf
section KV
variable {p : Program} {l : Launch} {e : Env} {R : Room} {s : State} {m : MethodId} {args : Array Value} {below : List Frame} {meth : Method} {c : Code} {D : va_G} {cI cR : ClassId} {A : Nat → Prop} {nL : Nat} {Q : State → Prop} {cc : ByteArray} {own : String} {ret : Option FieldType} {pc : Nat} {lv : List (Nat × Value)} {rest : List Value} {ws : va_W} {cells slots : Nat}
theorem K_callV (C : Kx p s m args meth c cc nL own D cI cR A ret) {y : MethodName} {cc' : ByteArray} {maxL fr lo n index q h : Nat} {As : List Value} {wc w1 wr : va_W} (isC isR : List Nat) (hC : isC.map (fun i => ws[i]?) = wc.map some) (hRr : isR.map (fun i => ws[i]?) = wr.map some) (hnC : va_nd isC = true) (hnR : va_nd isR = true) (hdis : ∀ i ∈ isR, i ∉ isC) (hM : MVK l D cI cR y cc' maxL fr lo (.ref h :: As) wc w1) (hy : okV y cc' maxL none n) (hl0 : Cond.methodLink own index y ∈ WA) {Cn : String} {T : u_T} {Nf ci : Nat} {fs : List Value} (hc0 : wc[0]? = some (h, .inr (ci, fs))) (hcl : vwCl[ci]? = some (Cn, T, Nf)) (hyc : y.cls = Cn) (hn : As.length = n) {st : List Value} (hst : st = As.reverse ++ (.ref h :: rest)) (hR : fr + 1 ≤ R.frames ∧ 8 + (maxL + 11) + lo ≤ R.locals) (hW8 : (rest.map fun v => v.category).sum ≤ 8) (hf : cells + 0 ≤ R.cells ∧ slots + 0 ≤ R.slots) (hdg : decode cc pc = .ok (.invokevirtual index, 3)) (hq : pc + 3 = q) (k : Kd p l e R s m args below meth c D A nL Q q lv rest (wr ++ w1) cells slots) : Kd p l e R s m args below meth c D A nL Q pc lv st ws cells slots := by
  subst hq; subst hst
  intro ls H locs hl hP hD hS
  obtain ⟨hx, hb, hml, hown, hts, hK, -, -, hNK, hA⟩ := C
  have hPc : va_P D vwCl wc H := fun i z hz => by
    have h1 : (isC.map (fun i => ws[i]?))[i]? = some (some z) := by rw [hC, List.getElem?_map, hz]; rfl
    rw [List.getElem?_map] at h1
    cases h2 : isC[i]? with
    | none => rw [h2] at h1; cases h1
    | some j => rw [h2] at h1; exact hP j z (Option.some.inj h1)
  have hDc := hD.sub (ws' := wc) isC hnC hC
  have hFc := va_free (wc := wc) hD hS hA isC hC
  refine va_callv (va_runV (As := As) (rest := rest) ⟨hx, hb, hml, hown, hts⟩ (hM H.size) ⟨callB_of n hts (gWB hy.1) rfl rfl rfl (hts _ hy.2.2.2.1) (hts _ hl0) hy.2.2.2.2 hR, hts _ hy.2.1, hts _ hy.2.2.1⟩ ⟨fun a U g mk z => by obtain ⟨z0, z1, zP, zK, zN, zD⟩ := z; exact ⟨z0, z1, zP, va_K.moved (u := U) (U := U.calling g mk a) (Vm.Alike.refl U.vm) zK, NK_same (U := U.calling g mk a) rfl zN, zD⟩, hyc ▸ va_recv hK hPc (q0 := 0) hcl hc0, fun U hU hW => ⟨rfl, by rw [hU], by rw [hU]; exact hPc, va_K.moved hW.alike hK, NK_warm hW hNK, hDc.weaken (fun _ _ _ _ => trivial)⟩⟩ rfl hn hl.1 rfl (lv_room hW8) hdg hf) hS (fun q _ h => hFc q h) hFc (fun u t H1 locs1 ht hvm hw hB hz hk1 hS => ?_)
  obtain ⟨hP1, hD1⟩ := hB
  subst hw
  rw [ht] at hP1
  obtain ⟨hP, hD⟩ := va_join (wr := wr) (w1 := u) hP hD isC isR hC hRr hnR hdis hk1 hFc hP1 hD1
  exact k ls H1 locs1 hl hP hD hS
end KV
