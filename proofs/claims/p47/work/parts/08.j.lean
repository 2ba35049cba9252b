/-! a state of the system: ints, longs, arrays, references, by numbers -/
abbrev Sg : Type := (Nat → Int32) × (Nat → Int64) × (Nat → Nat → Int32) × (Nat → Nat)
def gS (σ : Sg) (k : Nat) : Int32 := σ.1 k
def gL (σ : Sg) (k : Nat) : Int64 := σ.2.1 k
def gA (σ : Sg) (a : Nat) : Nat → Int32 := σ.2.2.1 a
def gR (σ : Sg) (k : Nat) : Nat := σ.2.2.2 k
def pS (σ : Sg) (k : Nat) (v : Int32) : Sg := (va_up σ.1 k v, σ.2)
def pL (σ : Sg) (k : Nat) (v : Int64) : Sg := (σ.1, va_up σ.2.1 k v, σ.2.2)
def pA (σ : Sg) (a : Nat) (f : Nat → Int32) : Sg := (σ.1, σ.2.1, va_up σ.2.2.1 a f, σ.2.2.2)
def pR (σ : Sg) (k : Nat) (v : Nat) : Sg := (σ.1, σ.2.1, σ.2.2.1, va_up σ.2.2.2 k v)
def b2i (b : Bool) : Int32 := match b with
  | true => 1
  | false => 0
def inB (i : Int32) (n : Nat) : Bool := !(decide (i < 0)) && decide (i.toNatClampNeg < n)
theorem inB_in {i : Int32} {n : Nat} (h : inB i n = true) : vp_in i n := by
  simp only [inB, Bool.and_eq_true, Bool.not_eq_true', decide_eq_false_iff_not, decide_eq_true_eq] at h
  intro q
  rcases q with q | q
  · exact h.1 q
  · omega
def ck {α : Type} (b : Bool) (x : Option α) : Option α := match b with
  | true => x
  | false => none
theorem ck_of {α : Type} {b : Bool} {x : Option α} {y : α} (h : ck b x = some y) : b = true ∧ x = some y := by
  cases b
  · cases h
  · exact ⟨rfl, h⟩
def nm {α β : Type} (e : α) (k : α → β) : β := k e
def bnd {α β : Type} (x : Option α) (k : α → Option β) : Option β := match x with
  | none => none
  | some a => k a
theorem bnd_of {α β : Type} {x : Option α} {k : α → Option β} {y : β} (h : bnd x k = some y) : ∃ a, x = some a ∧ k a = some y := by
  cases x with
  | none => cases h
  | some a => exact ⟨a, rfl, h⟩
theorem jn_elim {α β : Type} {K : α} {B : α → Option β} {out : β} {P : Prop} (h : nm K B = some out) (g : ∀ k, k = K → B k = some out → P) : P := g K rfl h
def bnd2 {α β γ : Type} (x : Option (α × β)) (k : α → β → Option γ) : Option γ := match x with
  | none => none
  | some a => k a.1 a.2
theorem bnd2_of {α β γ : Type} {x : Option (α × β)} {k : α → β → Option γ} {y : γ} (h : bnd2 x k = some y) : ∃ a b, x = some (a, b) ∧ k a b = some y := by
  cases x with
  | none => cases h
  | some a => exact ⟨a.1, a.2, rfl, h⟩
def oc {β : Type} (x : Option Nat) (A : β) (B : Nat → β) : β := match x with
  | none => A
  | some q => B q
theorem oc_none {β : Type} {A : Option β} {B : Nat → Option β} {y : β} (h : oc none A B = some y) : A = some y := h
theorem oc_some {β : Type} {q : Nat} {A : Option β} {B : Nat → Option β} {y : β} (h : oc (some q) A B = some y) : B q = some y := h
theorem ckn_of {α : Type} {P : Prop} [Decidable P] {x : Option α} {y : α} (h : ck (decide P) x = some y) : P ∧ x = some y := ⟨of_decide_eq_true (ck_of h).1, (ck_of h).2⟩
theorem itp {α : Type} {P : Prop} [Decidable P] {a b : Option α} {y : α} (h : (if P then a else b) = some y) (z : P) : a = some y := by rw [if_pos z] at h; exact h
theorem itn {α : Type} {P : Prop} [Decidable P] {a b : Option α} {y : α} (h : (if P then a else b) = some y) (z : ¬ P) : b = some y := by rw [if_neg z] at h; exact h
theorem oc_n {β : Type} {x : Option Nat} {A : Option β} {B : Nat → Option β} {y : β} (e : x = none) (h : oc x A B = some y) : A = some y := by rw [e] at h; exact h
theorem oc_s {β : Type} {x : Option Nat} {q : Nat} {A : Option β} {B : Nat → Option β} {y : β} (e : x = some q) (h : oc x A B = some y) : B q = some y := by rw [e] at h; exact h
def FU : Nat := 1000000000000
/-! the cells -/
def wd (N : Nat) (ad : Nat → Nat) (cel : Nat → va_E) : va_W := (List.range N).map (fun q => (ad q, cel q))
theorem wd_get {N : Nat} {ad : Nat → Nat} {cel : Nat → va_E} {q : Nat} {e : va_E} (ho : q < N) (he : cel q = e) : (wd N ad cel)[q]? = some (ad q, e) := by
  subst he; simp [wd, ho]
theorem wd_of {N : Nat} {ad : Nat → Nat} {cel : Nat → va_E} {q : Nat} {x : Nat × va_E} (h : (wd N ad cel)[q]? = some x) : q < N ∧ x = (ad q, cel q) := by
  by_cases hl : q < N
  · rw [wd_get hl rfl] at h
    exact ⟨hl, (Option.some.inj h).symm⟩
  · simp [wd, hl] at h
theorem wd_set {N : Nat} {ad : Nat → Nat} {cel cel' : Nat → va_E} {q : Nat} {e : va_E} (he : cel' q = e) (hne : ∀ x, x ≠ q → cel' x = cel x) : (wd N ad cel).set q (ad q, e) = wd N ad cel' := by
  apply List.ext_getElem?
  intro k
  rw [List.getElem?_set]
  by_cases h : q = k
  · subst h
    by_cases hl : q < N
    · simp [wd, hl, he]
    · simp [wd, hl]
  · by_cases hl : k < N
    · simp [wd, hl, h, hne k (fun z => h z.symm)]
    · simp [wd, hl, h]
def apN (N : Nat) (ad : Nat → Nat) : Prop := ∀ i j, i < N → j < N → ad i = ad j → i = j
def inA (N : Nat) (ad : Nat → Nat) : Nat → Prop := fun a => ∃ q, q < N ∧ a = ad q
theorem wd_D {N : Nat} {ad : Nat → Nat} {cel : Nat → va_E} (h : apN N ad) : va_D (inA N ad) (wd N ad cel) := by
  refine ⟨fun i j p q hi hj hpq => ?_, fun k q hk => ?_⟩
  · obtain ⟨h1, rfl⟩ := wd_of hi
    obtain ⟨h2, rfl⟩ := wd_of hj
    exact h i j h1 h2 hpq
  · obtain ⟨h1, rfl⟩ := wd_of hk
    exact ⟨k, h1, rfl⟩
/-- the world of a state -/
def WP (D : va_G) (tys : List (ClassId × FieldType)) (N : Nat) (ad : Nat → Nat) (cel : Sg → Nat → va_E) (ok : Sg → Prop) (σ : Sg) (U : State) : Prop := va_P D vwCl (wd N ad (cel σ)) U.heap ∧ (va_K D vwCl tys U ∧ NW U) ∧ ok σ
/-- the world behind a call -/
def WB (D : va_G) (N : Nat) (ad : Nat → Nat) (cel : Sg → Nat → va_E) (ok : Sg → Prop) (σ : Sg) (U : State) : Prop := va_P D vwCl (wd N ad (cel σ)) U.heap ∧ ok σ
theorem WP_call {D : va_G} {tys : List (ClassId × FieldType)} {N : Nat} {ad : Nat → Nat} {cel : Sg → Nat → va_E} {ok : Sg → Prop} {σ : Sg} {U : State} {g : JFrame} {mk : MethodId} {a : Array Value} (h : WP D tys N ad cel ok σ U) : WP D tys N ad cel ok σ (U.calling g mk a) :=
  ⟨h.1, ⟨va_K.moved (u := U) (U := U.calling g mk a) (Vm.Alike.refl U.vm) h.2.1.1, NW_same (U := U.calling g mk a) rfl h.2.1.2⟩, h.2.2⟩
def rmF (fr lo : Nat) : Room := { frames := fr, cells := 0, slots := 0, locals := lo }
theorem rmle {fr lo a : Nat} (h : a ≤ fr) : a ≤ (rmF fr lo).frames := h
theorem rmlf {fr lo a : Nat} (h : a ≤ lo) : a ≤ (rmF fr lo).locals := h
def QI (D : va_G) (tys : List (ClassId × FieldType)) (N : Nat) (ad : Nat → Nat) (cel : Sg → Nat → va_E) (ok : Sg → Prop) (r : Int32) (σ' : Sg) : Array Value → State → Outcome → State → Prop := va_Qi (fun (x : Int32) (_ : Unit) => x = r) (fun _ U => WB D N ad cel ok σ' U) (inA N ad)
def QL (D : va_G) (tys : List (ClassId × FieldType)) (N : Nat) (ad : Nat → Nat) (cel : Sg → Nat → va_E) (ok : Sg → Prop) (r : Int64) (σ' : Sg) : Array Value → State → Outcome → State → Prop := va_Ql (fun (x : Int64) (_ : Unit) => x = r) (fun _ U => WB D N ad cel ok σ' U) (inA N ad)
def QV (D : va_G) (tys : List (ClassId × FieldType)) (N : Nat) (ad : Nat → Nat) (cel : Sg → Nat → va_E) (ok : Sg → Prop) (σ' : Sg) : Array Value → State → Outcome → State → Prop := va_Qv (fun (_ : Unit) => True) (fun _ U => WB D N ad cel ok σ' U) (inA N ad)
def QR (D : va_G) (tys : List (ClassId × FieldType)) (N : Nat) (ad : Nat → Nat) (cel : Sg → Nat → va_E) (ok : Sg → Prop) (r : Option Nat) (σ' : Sg) : Array Value → State → Outcome → State → Prop := va_Qq (fun (x : Option Nat) (_ : Unit) => x = r.map ad) (fun _ U => WB D N ad cel ok σ' U) (inA N ad)
/-- contracts: an answer that is an int (r), a long, none, a reference -/
def MI (l : Launch) (D : va_G) (tys : List (ClassId × FieldType)) (N : Nat) (ad : Nat → Nat) (cel : Sg → Nat → va_E) (ok : Sg → Prop) (y : MethodName) (cc : ByteArray) (maxL : Nat) (ty : FieldType) (fr lo : Nat) (av : List Value) (σ : Sg) (r : Int32) (σ' : Sg) : Prop :=
  Met l y (.code y cc maxL (some ty) :: WA) (rmF fr lo) (va_Pc av (WP D tys N ad cel ok σ)) (QI D tys N ad cel ok r σ') 0 0 (inA N ad)
def ML (l : Launch) (D : va_G) (tys : List (ClassId × FieldType)) (N : Nat) (ad : Nat → Nat) (cel : Sg → Nat → va_E) (ok : Sg → Prop) (y : MethodName) (cc : ByteArray) (maxL : Nat) (fr lo : Nat) (av : List Value) (σ : Sg) (r : Int64) (σ' : Sg) : Prop :=
  Met l y (.code y cc maxL (some .long) :: WA) (rmF fr lo) (va_Pc av (WP D tys N ad cel ok σ)) (QL D tys N ad cel ok r σ') 0 0 (inA N ad)
def MV (l : Launch) (D : va_G) (tys : List (ClassId × FieldType)) (N : Nat) (ad : Nat → Nat) (cel : Sg → Nat → va_E) (ok : Sg → Prop) (y : MethodName) (cc : ByteArray) (maxL : Nat) (fr lo : Nat) (av : List Value) (σ : Sg) (σ' : Sg) : Prop :=
  Met l y (.code y cc maxL none :: WA) (rmF fr lo) (va_Pc av (WP D tys N ad cel ok σ)) (QV D tys N ad cel ok σ') 0 0 (inA N ad)
def MR (l : Launch) (D : va_G) (tys : List (ClassId × FieldType)) (N : Nat) (ad : Nat → Nat) (cel : Sg → Nat → va_E) (ok : Sg → Prop) (y : MethodName) (cc : ByteArray) (maxL : Nat) (ty : FieldType) (fr lo : Nat) (av : List Value) (σ : Sg) (r : Option Nat) (σ' : Sg) : Prop :=
  Met l y (.code y cc maxL (some ty) :: WA) (rmF fr lo) (va_Pc av (WP D tys N ad cel ok σ)) (QR D tys N ad cel ok r σ') 0 0 (inA N ad)
/-- what holds in a method's body -/
def Cx (p : Program) (s : State) (m : MethodId) (args : Array Value) (meth : Method) (c : Code) (cc : ByteArray) (nL : Nat) (own : String) (D : va_G) (tys : List (ClassId × FieldType)) (N : Nat) (ad : Nat → Nat) (ret : Option FieldType) : Prop :=
  p.tables.exec = Jvm.exec ∧ c.code = cc ∧ c.maxLocals = nL ∧ s.vm.findClass own = some m.cls ∧ (∀ w ∈ WA, w.before args s = true) ∧ va_K D vwCl tys s ∧ apN N ad ∧ meth.sig.returnType = ret ∧ meth.locks = false ∧ NW s
/-- the machine at a place of a method: its locals and stack as lists, its world by a state -/
def Jd (p : Program) (l : Launch) (e : Env) (R : Room) (s : State) (m : MethodId) (args : Array Value) (below : List Frame) (meth : Method) (c : Code) (D : va_G) (N : Nat) (ad : Nat → Nat) (cel : Sg → Nat → va_E) (ok : Sg → Prop) (nL : Nat) (Q : State → Prop) (pc : Nat) (lv : List (Nat × Value)) (st : List Value) (σ : Sg) : Prop :=
  ok σ → ∀ (ls : Array Slot) (H : Heap) (locs : List Loc), lv_has ls nL lv → va_P D vwCl (wd N ad (cel σ)) H → va_S (inA N ad) s.heap H locs → W p l e R s m args below meth c H locs R.cells R.slots Q (F0 m pc ls st)
section JJ
variable {p : Program} {l : Launch} {e : Env} {R : Room} {s : State} {m : MethodId} {args : Array Value} {below : List Frame} {meth : Method} {c : Code} {D : va_G} {tys : List (ClassId × FieldType)} {N : Nat} {ad : Nat → Nat} {cel : Sg → Nat → va_E} {ok : Sg → Prop} {nL : Nat} {Q : State → Prop} {cc : ByteArray} {own : String} {ret : Option FieldType} {pc : Nat} {lv : List (Nat × Value)} {rest : List Value} {σ : Sg}
theorem J_iadd (C : Cx p s m args meth c cc nL own D tys N ad ret) {q : Nat} {x y : Int32} (hdg : decode cc pc = .ok (.iadd, 1)) (hq : pc + 1 = q)  (k : Jd p l e R s m args below meth c D N ad cel ok nL Q q lv (.int (x + y) :: rest) σ) : Jd p l e R s m args below meth c D N ad cel ok nL Q pc lv (.int y :: .int x :: rest) σ := by
  subst hq; intro hok ls H locs hl hP hS; exact lv_iadd C.1 C.2.1 hdg (k hok ls H locs hl hP hS)
theorem J_isub (C : Cx p s m args meth c cc nL own D tys N ad ret) {q : Nat} {x y : Int32} (hdg : decode cc pc = .ok (.isub, 1)) (hq : pc + 1 = q)  (k : Jd p l e R s m args below meth c D N ad cel ok nL Q q lv (.int (x - y) :: rest) σ) : Jd p l e R s m args below meth c D N ad cel ok nL Q pc lv (.int y :: .int x :: rest) σ := by
  subst hq; intro hok ls H locs hl hP hS; exact lv_isub C.1 C.2.1 hdg (k hok ls H locs hl hP hS)
theorem J_imul (C : Cx p s m args meth c cc nL own D tys N ad ret) {q : Nat} {x y : Int32} (hdg : decode cc pc = .ok (.imul, 1)) (hq : pc + 1 = q)  (k : Jd p l e R s m args below meth c D N ad cel ok nL Q q lv (.int (x * y) :: rest) σ) : Jd p l e R s m args below meth c D N ad cel ok nL Q pc lv (.int y :: .int x :: rest) σ := by
  subst hq; intro hok ls H locs hl hP hS; exact lv_imul C.1 C.2.1 hdg (k hok ls H locs hl hP hS)
theorem J_iand (C : Cx p s m args meth c cc nL own D tys N ad ret) {q : Nat} {x y : Int32} (hdg : decode cc pc = .ok (.iand, 1)) (hq : pc + 1 = q)  (k : Jd p l e R s m args below meth c D N ad cel ok nL Q q lv (.int (x &&& y) :: rest) σ) : Jd p l e R s m args below meth c D N ad cel ok nL Q pc lv (.int y :: .int x :: rest) σ := by
  subst hq; intro hok ls H locs hl hP hS; exact lv_iand C.1 C.2.1 hdg (k hok ls H locs hl hP hS)
theorem J_ior (C : Cx p s m args meth c cc nL own D tys N ad ret) {q : Nat} {x y : Int32} (hdg : decode cc pc = .ok (.ior, 1)) (hq : pc + 1 = q)  (k : Jd p l e R s m args below meth c D N ad cel ok nL Q q lv (.int (x ||| y) :: rest) σ) : Jd p l e R s m args below meth c D N ad cel ok nL Q pc lv (.int y :: .int x :: rest) σ := by
  subst hq; intro hok ls H locs hl hP hS; exact lv_ior C.1 C.2.1 hdg (k hok ls H locs hl hP hS)
theorem J_ixor (C : Cx p s m args meth c cc nL own D tys N ad ret) {q : Nat} {x y : Int32} (hdg : decode cc pc = .ok (.ixor, 1)) (hq : pc + 1 = q)  (k : Jd p l e R s m args below meth c D N ad cel ok nL Q q lv (.int (x ^^^ y) :: rest) σ) : Jd p l e R s m args below meth c D N ad cel ok nL Q pc lv (.int y :: .int x :: rest) σ := by
  subst hq; intro hok ls H locs hl hP hS; exact lv_ixor C.1 C.2.1 hdg (k hok ls H locs hl hP hS)
theorem J_ishl (C : Cx p s m args meth c cc nL own D tys N ad ret) {q : Nat} {x y : Int32} (hdg : decode cc pc = .ok (.ishl, 1)) (hq : pc + 1 = q)  (k : Jd p l e R s m args below meth c D N ad cel ok nL Q q lv (.int (x <<< (y &&& 31)) :: rest) σ) : Jd p l e R s m args below meth c D N ad cel ok nL Q pc lv (.int y :: .int x :: rest) σ := by
  subst hq; intro hok ls H locs hl hP hS; exact lv_ishl C.1 C.2.1 hdg (k hok ls H locs hl hP hS)
theorem J_ishr (C : Cx p s m args meth c cc nL own D tys N ad ret) {q : Nat} {x y : Int32} (hdg : decode cc pc = .ok (.ishr, 1)) (hq : pc + 1 = q)  (k : Jd p l e R s m args below meth c D N ad cel ok nL Q q lv (.int (x >>> (y &&& 31)) :: rest) σ) : Jd p l e R s m args below meth c D N ad cel ok nL Q pc lv (.int y :: .int x :: rest) σ := by
  subst hq; intro hok ls H locs hl hP hS; exact lv_ishr C.1 C.2.1 hdg (k hok ls H locs hl hP hS)
theorem J_ladd (C : Cx p s m args meth c cc nL own D tys N ad ret) {q : Nat} {x y : Int64} (hdg : decode cc pc = .ok (.ladd, 1)) (hq : pc + 1 = q)  (k : Jd p l e R s m args below meth c D N ad cel ok nL Q q lv (.long (x + y) :: rest) σ) : Jd p l e R s m args below meth c D N ad cel ok nL Q pc lv (.long y :: .long x :: rest) σ := by
  subst hq; intro hok ls H locs hl hP hS; exact lv_ladd C.1 C.2.1 hdg (k hok ls H locs hl hP hS)
theorem J_lsub (C : Cx p s m args meth c cc nL own D tys N ad ret) {q : Nat} {x y : Int64} (hdg : decode cc pc = .ok (.lsub, 1)) (hq : pc + 1 = q)  (k : Jd p l e R s m args below meth c D N ad cel ok nL Q q lv (.long (x - y) :: rest) σ) : Jd p l e R s m args below meth c D N ad cel ok nL Q pc lv (.long y :: .long x :: rest) σ := by
  subst hq; intro hok ls H locs hl hP hS; exact lv_lsub C.1 C.2.1 hdg (k hok ls H locs hl hP hS)
theorem J_lmul (C : Cx p s m args meth c cc nL own D tys N ad ret) {q : Nat} {x y : Int64} (hdg : decode cc pc = .ok (.lmul, 1)) (hq : pc + 1 = q)  (k : Jd p l e R s m args below meth c D N ad cel ok nL Q q lv (.long (x * y) :: rest) σ) : Jd p l e R s m args below meth c D N ad cel ok nL Q pc lv (.long y :: .long x :: rest) σ := by
  subst hq; intro hok ls H locs hl hP hS; exact lv_lmul C.1 C.2.1 hdg (k hok ls H locs hl hP hS)
theorem J_idiv (C : Cx p s m args meth c cc nL own D tys N ad ret) {q : Nat} {x y : Int32} (hdg : decode cc pc = .ok (.idiv, 1)) (hq : pc + 1 = q) (hne : ¬ y = 0) (k : Jd p l e R s m args below meth c D N ad cel ok nL Q q lv (.int (x / y) :: rest) σ) : Jd p l e R s m args below meth c D N ad cel ok nL Q pc lv (.int y :: .int x :: rest) σ := by
  subst hq; intro hok ls H locs hl hP hS; exact lv_idiv C.1 C.2.1 hdg hne (k hok ls H locs hl hP hS)
theorem J_irem (C : Cx p s m args meth c cc nL own D tys N ad ret) {q : Nat} {x y : Int32} (hdg : decode cc pc = .ok (.irem, 1)) (hq : pc + 1 = q) (hne : ¬ y = 0) (k : Jd p l e R s m args below meth c D N ad cel ok nL Q q lv (.int (x - x / y * y) :: rest) σ) : Jd p l e R s m args below meth c D N ad cel ok nL Q pc lv (.int y :: .int x :: rest) σ := by
  subst hq; intro hok ls H locs hl hP hS; exact lv_irem C.1 C.2.1 hdg hne (k hok ls H locs hl hP hS)
theorem J_ldiv (C : Cx p s m args meth c cc nL own D tys N ad ret) {q : Nat} {x y : Int64} (hdg : decode cc pc = .ok (.ldiv, 1)) (hq : pc + 1 = q) (hne : ¬ y = 0) (k : Jd p l e R s m args below meth c D N ad cel ok nL Q q lv (.long (x / y) :: rest) σ) : Jd p l e R s m args below meth c D N ad cel ok nL Q pc lv (.long y :: .long x :: rest) σ := by
  subst hq; intro hok ls H locs hl hP hS; exact lv_ldiv C.1 C.2.1 hdg hne (k hok ls H locs hl hP hS)
theorem J_lrem (C : Cx p s m args meth c cc nL own D tys N ad ret) {q : Nat} {x y : Int64} (hdg : decode cc pc = .ok (.lrem, 1)) (hq : pc + 1 = q) (hne : ¬ y = 0) (k : Jd p l e R s m args below meth c D N ad cel ok nL Q q lv (.long (x - x / y * y) :: rest) σ) : Jd p l e R s m args below meth c D N ad cel ok nL Q pc lv (.long y :: .long x :: rest) σ := by
  subst hq; intro hok ls H locs hl hP hS; exact lv_lrem C.1 C.2.1 hdg hne (k hok ls H locs hl hP hS)
theorem J_iushr (C : Cx p s m args meth c cc nL own D tys N ad ret) {q : Nat} {x y : Int32} (hdg : decode cc pc = .ok (.iushr, 1)) (hq : pc + 1 = q)  (k : Jd p l e R s m args below meth c D N ad cel ok nL Q q lv (.int ((x.toUInt32 >>> (y.toUInt32 &&& Int32.toUInt32 31)).toInt32) :: rest) σ) : Jd p l e R s m args below meth c D N ad cel ok nL Q pc lv (.int y :: .int x :: rest) σ := by
  subst hq; intro hok ls H locs hl hP hS; exact lv_iushr C.1 C.2.1 hdg rfl (k hok ls H locs hl hP hS)
theorem J_i2l (C : Cx p s m args meth c cc nL own D tys N ad ret) {q : Nat} {x : Int32} (hdg : decode cc pc = .ok (.i2l, 1)) (hq : pc + 1 = q)  (k : Jd p l e R s m args below meth c D N ad cel ok nL Q q lv (.long x.toInt64 :: rest) σ) : Jd p l e R s m args below meth c D N ad cel ok nL Q pc lv (.int x :: rest) σ := by
  subst hq; intro hok ls H locs hl hP hS; exact lv_i2l C.1 C.2.1 hdg rfl (k hok ls H locs hl hP hS)
theorem J_l2i (C : Cx p s m args meth c cc nL own D tys N ad ret) {q : Nat} {x : Int64} (hdg : decode cc pc = .ok (.l2i, 1)) (hq : pc + 1 = q)  (k : Jd p l e R s m args below meth c D N ad cel ok nL Q q lv (.int x.toInt32 :: rest) σ) : Jd p l e R s m args below meth c D N ad cel ok nL Q pc lv (.long x :: rest) σ := by
  subst hq; intro hok ls H locs hl hP hS; exact lv_l2i C.1 C.2.1 hdg rfl (k hok ls H locs hl hP hS)
theorem J_i2b (C : Cx p s m args meth c cc nL own D tys N ad ret) {q : Nat} {x : Int32} (hdg : decode cc pc = .ok (.i2b, 1)) (hq : pc + 1 = q)  (k : Jd p l e R s m args below meth c D N ad cel ok nL Q q lv (.int x.toInt8.toInt32 :: rest) σ) : Jd p l e R s m args below meth c D N ad cel ok nL Q pc lv (.int x :: rest) σ := by
  subst hq; intro hok ls H locs hl hP hS; exact lv_i2b C.1 C.2.1 hdg rfl (k hok ls H locs hl hP hS)
theorem J_iconst (C : Cx p s m args meth c cc nL own D tys N ad ret) {q : Nat} {n : Int} {v : Int32} (hdg : decode cc pc = .ok (.iconst n, 1)) (hq : pc + 1 = q) (hv : Int32.ofInt n = v) (k : Jd p l e R s m args below meth c D N ad cel ok nL Q q lv (.int v :: rest) σ) : Jd p l e R s m args below meth c D N ad cel ok nL Q pc lv (rest) σ := by
  subst hq; intro hok ls H locs hl hP hS; exact lv_iconst C.1 C.2.1 hdg hv (k hok ls H locs hl hP hS)
theorem J_bipush (C : Cx p s m args meth c cc nL own D tys N ad ret) {q : Nat} {n : Int} {v : Int32} (hdg : decode cc pc = .ok (.bipush n, 2)) (hq : pc + 2 = q) (hv : (Int8.ofInt n).toInt32 = v) (k : Jd p l e R s m args below meth c D N ad cel ok nL Q q lv (.int v :: rest) σ) : Jd p l e R s m args below meth c D N ad cel ok nL Q pc lv (rest) σ := by
  subst hq; intro hok ls H locs hl hP hS; exact lv_bipush C.1 C.2.1 hdg hv (k hok ls H locs hl hP hS)
theorem J_sipush (C : Cx p s m args meth c cc nL own D tys N ad ret) {q : Nat} {n : Int} {v : Int32} (hdg : decode cc pc = .ok (.sipush n, 3)) (hq : pc + 3 = q) (hv : (Int16.ofInt n).toInt32 = v) (k : Jd p l e R s m args below meth c D N ad cel ok nL Q q lv (.int v :: rest) σ) : Jd p l e R s m args below meth c D N ad cel ok nL Q pc lv (rest) σ := by
  subst hq; intro hok ls H locs hl hP hS; exact lv_sipush C.1 C.2.1 hdg hv (k hok ls H locs hl hP hS)
theorem J_lconst (C : Cx p s m args meth c cc nL own D tys N ad ret) {q : Nat} {n : Fin 2} {v : Int64} (hdg : decode cc pc = .ok (.lconst n, 1)) (hq : pc + 1 = q) (hv : Int64.ofNat (n : Nat) = v) (k : Jd p l e R s m args below meth c D N ad cel ok nL Q q lv (.long v :: rest) σ) : Jd p l e R s m args below meth c D N ad cel ok nL Q pc lv (rest) σ := by
  subst hq; intro hok ls H locs hl hP hS; exact lv_lconst C.1 C.2.1 hdg hv (k hok ls H locs hl hP hS)
theorem J_null (C : Cx p s m args meth c cc nL own D tys N ad ret) {q : Nat}  (hdg : decode cc pc = .ok (.aconst_null, 1)) (hq : pc + 1 = q)  (k : Jd p l e R s m args below meth c D N ad cel ok nL Q q lv (.null :: rest) σ) : Jd p l e R s m args below meth c D N ad cel ok nL Q pc lv (rest) σ := by
  subst hq; intro hok ls H locs hl hP hS; exact lv_null C.1 C.2.1 hdg (k hok ls H locs hl hP hS)
theorem J_dup (C : Cx p s m args meth c cc nL own D tys N ad ret) {q : Nat} {va : Value} (hdg : decode cc pc = .ok (.dup, 1)) (hq : pc + 1 = q) (hva : va.category = 1) (k : Jd p l e R s m args below meth c D N ad cel ok nL Q q lv (va :: va :: rest) σ) : Jd p l e R s m args below meth c D N ad cel ok nL Q pc lv (va :: rest) σ := by
  subst hq; intro hok ls H locs hl hP hS; exact lv_dup C.1 C.2.1 hdg hva (k hok ls H locs hl hP hS)
theorem J_pop (C : Cx p s m args meth c cc nL own D tys N ad ret) {q : Nat} {va : Value} (hdg : decode cc pc = .ok (.pop, 1)) (hq : pc + 1 = q) (hva : va.category = 1) (k : Jd p l e R s m args below meth c D N ad cel ok nL Q q lv (rest) σ) : Jd p l e R s m args below meth c D N ad cel ok nL Q pc lv (va :: rest) σ := by
  subst hq; intro hok ls H locs hl hP hS; exact lv_pop C.1 C.2.1 hdg hva (k hok ls H locs hl hP hS)
theorem J_dup2 (C : Cx p s m args meth c cc nL own D tys N ad ret) {q : Nat} {va vb : Value} (hdg : decode cc pc = .ok (.dup2, 1)) (hq : pc + 1 = q) (hva : va.category = 1) (hvb : vb.category = 1) (k : Jd p l e R s m args below meth c D N ad cel ok nL Q q lv (va :: vb :: va :: vb :: rest) σ) : Jd p l e R s m args below meth c D N ad cel ok nL Q pc lv (va :: vb :: rest) σ := by
  subst hq; intro hok ls H locs hl hP hS; exact lv_dup2_11 C.1 C.2.1 hdg hva hvb (k hok ls H locs hl hP hS)
theorem J_lcmp (C : Cx p s m args meth c cc nL own D tys N ad ret) {q : Nat} {x y : Int64} (hdg : decode cc pc = .ok (.lcmp, 1)) (hq : pc + 1 = q) (k : Jd p l e R s m args below meth c D N ad cel ok nL Q q lv (.int (lg_cmp x y) :: rest) σ) : Jd p l e R s m args below meth c D N ad cel ok nL Q pc lv (.long y :: .long x :: rest) σ := by
  subst hq; intro hok ls H locs hl hP hS; exact W.lcmp C.1 C.2.1 hdg (k hok ls H locs hl hP hS)
theorem J_iload_n (C : Cx p s m args meth c cc nL own D tys N ad ret) {q : Nat} {k0 : Fin 4} {i : Nat} {x : Int32} (hdg : decode cc pc = .ok (.iload_n k0, 1)) (hq : pc + 1 = q) (hi : (k0 : Nat) = i) (pl : Nat) (hpl : lv[pl]? = some (i, .int x)) (k : Jd p l e R s m args below meth c D N ad cel ok nL Q q lv (.int x :: rest) σ) : Jd p l e R s m args below meth c D N ad cel ok nL Q pc lv rest σ := by
  subst hq; intro hok ls H locs hl hP hS; exact lv_iload_n C.1 C.2.1 hdg hi (lv_at hl pl hpl) (k hok ls H locs hl hP hS)
theorem J_iload (C : Cx p s m args meth c cc nL own D tys N ad ret) {q : Nat} {i : Nat} {x : Int32} (hdg : decode cc pc = .ok (.iload i, 2)) (hq : pc + 2 = q) (pl : Nat) (hpl : lv[pl]? = some (i, .int x)) (k : Jd p l e R s m args below meth c D N ad cel ok nL Q q lv (.int x :: rest) σ) : Jd p l e R s m args below meth c D N ad cel ok nL Q pc lv rest σ := by
  subst hq; intro hok ls H locs hl hP hS; exact lv_iload C.1 C.2.1 hdg (lv_at hl pl hpl) (k hok ls H locs hl hP hS)
theorem J_lload_n (C : Cx p s m args meth c cc nL own D tys N ad ret) {q : Nat} {k0 : Fin 4} {i : Nat} {x : Int64} (hdg : decode cc pc = .ok (.lload_n k0, 1)) (hq : pc + 1 = q) (hi : (k0 : Nat) = i) (pl : Nat) (hpl : lv[pl]? = some (i, .long x)) (k : Jd p l e R s m args below meth c D N ad cel ok nL Q q lv (.long x :: rest) σ) : Jd p l e R s m args below meth c D N ad cel ok nL Q pc lv rest σ := by
  subst hq; intro hok ls H locs hl hP hS; exact lv_lload_n C.1 C.2.1 hdg hi (lv_at hl pl hpl) (k hok ls H locs hl hP hS)
theorem J_lload (C : Cx p s m args meth c cc nL own D tys N ad ret) {q : Nat} {i : Nat} {x : Int64} (hdg : decode cc pc = .ok (.lload i, 2)) (hq : pc + 2 = q) (pl : Nat) (hpl : lv[pl]? = some (i, .long x)) (k : Jd p l e R s m args below meth c D N ad cel ok nL Q q lv (.long x :: rest) σ) : Jd p l e R s m args below meth c D N ad cel ok nL Q pc lv rest σ := by
  subst hq; intro hok ls H locs hl hP hS; exact lv_lload C.1 C.2.1 hdg (lv_at hl pl hpl) (k hok ls H locs hl hP hS)
theorem J_aload_n (C : Cx p s m args meth c cc nL own D tys N ad ret) {q : Nat} {k0 : Fin 4} {i : Nat} {x : Nat} (hdg : decode cc pc = .ok (.aload_n k0, 1)) (hq : pc + 1 = q) (hi : (k0 : Nat) = i) (pl : Nat) (hpl : lv[pl]? = some (i, .ref x)) (k : Jd p l e R s m args below meth c D N ad cel ok nL Q q lv (.ref x :: rest) σ) : Jd p l e R s m args below meth c D N ad cel ok nL Q pc lv rest σ := by
  subst hq; intro hok ls H locs hl hP hS; exact lv_aload_n C.1 C.2.1 hdg hi (lv_at hl pl hpl) (k hok ls H locs hl hP hS)
theorem J_aload (C : Cx p s m args meth c cc nL own D tys N ad ret) {q : Nat} {i : Nat} {x : Nat} (hdg : decode cc pc = .ok (.aload i, 2)) (hq : pc + 2 = q) (pl : Nat) (hpl : lv[pl]? = some (i, .ref x)) (k : Jd p l e R s m args below meth c D N ad cel ok nL Q q lv (.ref x :: rest) σ) : Jd p l e R s m args below meth c D N ad cel ok nL Q pc lv rest σ := by
  subst hq; intro hok ls H locs hl hP hS; exact lv_aload C.1 C.2.1 hdg (lv_at hl pl hpl) (k hok ls H locs hl hP hS)
theorem J_aload_nN (C : Cx p s m args meth c cc nL own D tys N ad ret) {q : Nat} {k0 : Fin 4} {i : Nat} (hdg : decode cc pc = .ok (.aload_n k0, 1)) (hq : pc + 1 = q) (hi : (k0 : Nat) = i) (pl : Nat) (hpl : lv[pl]? = some (i, .null)) (k : Jd p l e R s m args below meth c D N ad cel ok nL Q q lv (.null :: rest) σ) : Jd p l e R s m args below meth c D N ad cel ok nL Q pc lv rest σ := by
  subst hq; intro hok ls H locs hl hP hS; exact lv_aload_nN C.1 C.2.1 hdg hi (lv_at hl pl hpl) (k hok ls H locs hl hP hS)
theorem J_aloadN (C : Cx p s m args meth c cc nL own D tys N ad ret) {q : Nat} {i : Nat} (hdg : decode cc pc = .ok (.aload i, 2)) (hq : pc + 2 = q) (pl : Nat) (hpl : lv[pl]? = some (i, .null)) (k : Jd p l e R s m args below meth c D N ad cel ok nL Q q lv (.null :: rest) σ) : Jd p l e R s m args below meth c D N ad cel ok nL Q pc lv rest σ := by
  subst hq; intro hok ls H locs hl hP hS; exact lv_aloadN C.1 C.2.1 hdg (lv_at hl pl hpl) (k hok ls H locs hl hP hS)
theorem J_istore_n (C : Cx p s m args meth c cc nL own D tys N ad ret) {q : Nat} {k0 : Fin 4} {i : Nat} {x : Int32} {lv' : List (Nat × Value)} (hdg : decode cc pc = .ok (.istore_n k0, 1)) (hq : pc + 1 = q) (hi : (k0 : Nat) = i) (hn : i < nL) (hlv : (i, Value.int x) :: lv.filter (fun z => !(z.1 == i) && !(z.1 + 1 == i && z.2.category == 2)) = lv') (k : Jd p l e R s m args below meth c D N ad cel ok nL Q q lv' rest σ) : Jd p l e R s m args below meth c D N ad cel ok nL Q pc lv (.int x :: rest) σ := by
  subst hq; intro hok ls H locs hl hP hS; exact lv_istore_n C.1 C.2.1 hdg hi hl hn hlv (fun ls' hl' => k hok ls' H locs hl' hP hS)
theorem J_istore (C : Cx p s m args meth c cc nL own D tys N ad ret) {q : Nat} {i : Nat} {x : Int32} {lv' : List (Nat × Value)} (hdg : decode cc pc = .ok (.istore i, 2)) (hq : pc + 2 = q) (hn : i < nL) (hlv : (i, Value.int x) :: lv.filter (fun z => !(z.1 == i) && !(z.1 + 1 == i && z.2.category == 2)) = lv') (k : Jd p l e R s m args below meth c D N ad cel ok nL Q q lv' rest σ) : Jd p l e R s m args below meth c D N ad cel ok nL Q pc lv (.int x :: rest) σ := by
  subst hq; intro hok ls H locs hl hP hS; exact lv_istore C.1 C.2.1 hdg hl hn hlv (fun ls' hl' => k hok ls' H locs hl' hP hS)
theorem J_lstore_n (C : Cx p s m args meth c cc nL own D tys N ad ret) {q : Nat} {k0 : Fin 4} {i : Nat} {x : Int64} {lv' : List (Nat × Value)} (hdg : decode cc pc = .ok (.lstore_n k0, 1)) (hq : pc + 1 = q) (hi : (k0 : Nat) = i) (hn : i + 1 < nL) (hlv : (i, Value.long x) :: lv.filter (fun z => !(z.1 == i) && (!(z.1 == i + 1) && !(z.1 + 1 == i && z.2.category == 2))) = lv') (k : Jd p l e R s m args below meth c D N ad cel ok nL Q q lv' rest σ) : Jd p l e R s m args below meth c D N ad cel ok nL Q pc lv (.long x :: rest) σ := by
  subst hq; intro hok ls H locs hl hP hS; exact lv_lstore_n C.1 C.2.1 hdg hi hl hn hlv (fun ls' hl' => k hok ls' H locs hl' hP hS)
theorem J_lstore (C : Cx p s m args meth c cc nL own D tys N ad ret) {q : Nat} {i : Nat} {x : Int64} {lv' : List (Nat × Value)} (hdg : decode cc pc = .ok (.lstore i, 2)) (hq : pc + 2 = q) (hn : i + 1 < nL) (hlv : (i, Value.long x) :: lv.filter (fun z => !(z.1 == i) && (!(z.1 == i + 1) && !(z.1 + 1 == i && z.2.category == 2))) = lv') (k : Jd p l e R s m args below meth c D N ad cel ok nL Q q lv' rest σ) : Jd p l e R s m args below meth c D N ad cel ok nL Q pc lv (.long x :: rest) σ := by
  subst hq; intro hok ls H locs hl hP hS; exact lv_lstore C.1 C.2.1 hdg hl hn hlv (fun ls' hl' => k hok ls' H locs hl' hP hS)
theorem J_astore_n (C : Cx p s m args meth c cc nL own D tys N ad ret) {q : Nat} {k0 : Fin 4} {i : Nat} {x : Nat} {lv' : List (Nat × Value)} (hdg : decode cc pc = .ok (.astore_n k0, 1)) (hq : pc + 1 = q) (hi : (k0 : Nat) = i) (hn : i < nL) (hlv : (i, Value.ref x) :: lv.filter (fun z => !(z.1 == i) && !(z.1 + 1 == i && z.2.category == 2)) = lv') (k : Jd p l e R s m args below meth c D N ad cel ok nL Q q lv' rest σ) : Jd p l e R s m args below meth c D N ad cel ok nL Q pc lv (.ref x :: rest) σ := by
  subst hq; intro hok ls H locs hl hP hS; exact lv_astore_n C.1 C.2.1 hdg hi hl hn hlv (fun ls' hl' => k hok ls' H locs hl' hP hS)
theorem J_astore (C : Cx p s m args meth c cc nL own D tys N ad ret) {q : Nat} {i : Nat} {x : Nat} {lv' : List (Nat × Value)} (hdg : decode cc pc = .ok (.astore i, 2)) (hq : pc + 2 = q) (hn : i < nL) (hlv : (i, Value.ref x) :: lv.filter (fun z => !(z.1 == i) && !(z.1 + 1 == i && z.2.category == 2)) = lv') (k : Jd p l e R s m args below meth c D N ad cel ok nL Q q lv' rest σ) : Jd p l e R s m args below meth c D N ad cel ok nL Q pc lv (.ref x :: rest) σ := by
  subst hq; intro hok ls H locs hl hP hS; exact lv_astore C.1 C.2.1 hdg hl hn hlv (fun ls' hl' => k hok ls' H locs hl' hP hS)
theorem J_astore_nN (C : Cx p s m args meth c cc nL own D tys N ad ret) {q : Nat} {k0 : Fin 4} {i : Nat} {lv' : List (Nat × Value)} (hdg : decode cc pc = .ok (.astore_n k0, 1)) (hq : pc + 1 = q) (hi : (k0 : Nat) = i) (hn : i < nL) (hlv : (i, Value.null) :: lv.filter (fun z => !(z.1 == i) && !(z.1 + 1 == i && z.2.category == 2)) = lv') (k : Jd p l e R s m args below meth c D N ad cel ok nL Q q lv' rest σ) : Jd p l e R s m args below meth c D N ad cel ok nL Q pc lv (.null :: rest) σ := by
  subst hq; intro hok ls H locs hl hP hS; exact lv_astore_nN C.1 C.2.1 hdg hi hl hn hlv (fun ls' hl' => k hok ls' H locs hl' hP hS)
theorem J_astoreN (C : Cx p s m args meth c cc nL own D tys N ad ret) {q : Nat} {i : Nat} {lv' : List (Nat × Value)} (hdg : decode cc pc = .ok (.astore i, 2)) (hq : pc + 2 = q) (hn : i < nL) (hlv : (i, Value.null) :: lv.filter (fun z => !(z.1 == i) && !(z.1 + 1 == i && z.2.category == 2)) = lv') (k : Jd p l e R s m args below meth c D N ad cel ok nL Q q lv' rest σ) : Jd p l e R s m args below meth c D N ad cel ok nL Q pc lv (.null :: rest) σ := by
  subst hq; intro hok ls H locs hl hP hS; exact lv_astoreN C.1 C.2.1 hdg hl hn hlv (fun ls' hl' => k hok ls' H locs hl' hP hS)
theorem J_iinc (C : Cx p s m args meth c cc nL own D tys N ad ret) {q : Nat} {i : Nat} {n : Int} {x v : Int32} {lv' : List (Nat × Value)} (hdg : decode cc pc = .ok (.iinc i n, 3)) (hq : pc + 3 = q) (pl : Nat) (hpl : lv[pl]? = some (i, .int x)) (hv : x + Int32.ofInt n = v) (hn : i < nL) (hlv : (i, Value.int v) :: lv.filter (fun z => !(z.1 == i) && !(z.1 + 1 == i && z.2.category == 2)) = lv') (k : Jd p l e R s m args below meth c D N ad cel ok nL Q q lv' rest σ) : Jd p l e R s m args below meth c D N ad cel ok nL Q pc lv rest σ := by
  subst hq; intro hok ls H locs hl hP hS; exact lv_iinc C.1 C.2.1 hdg hl hpl hv hn hlv (fun ls' hl' => k hok ls' H locs hl' hP hS)
theorem J_goto (C : Cx p s m args meth c cc nL own D tys N ad ret) {off : Int} {tgt : Nat} (hdg : decode cc pc = .ok (.goto off, 3)) (ht : (pc : Int) + off = (tgt : Int)) (k : Jd p l e R s m args below meth c D N ad cel ok nL Q tgt lv rest σ) : Jd p l e R s m args below meth c D N ad cel ok nL Q pc lv rest σ := by
  intro hok ls H locs hl hP hS; exact lv_goto C.1 C.2.1 hdg ht (k hok ls H locs hl hP hS)
theorem J_if_eq (C : Cx p s m args meth c cc nL own D tys N ad ret) {off : Int} {tgt q : Nat} {x : Int32} {O : Type} {a b : Option O} {out : O} (hdg : decode cc pc = .ok (.ifCond .eq off, 3)) (hq : pc + 3 = q) (ht : (pc : Int) + off = (tgt : Int)) (h : (if x = 0 then a else b) = some out) (kt : x = 0 → a = some out → Jd p l e R s m args below meth c D N ad cel ok nL Q tgt lv rest σ) (kf : ¬ (x = 0) → b = some out → Jd p l e R s m args below meth c D N ad cel ok nL Q q lv rest σ) : Jd p l e R s m args below meth c D N ad cel ok nL Q pc lv (.int x :: rest) σ := by
  subst hq; intro hok ls H locs hl hP hS
  exact lv_if_eq C.1 C.2.1 hdg ht (fun z => kt z (by rw [if_pos z] at h; exact h) hok ls H locs hl hP hS) (fun z => kf z (by rw [if_neg z] at h; exact h) hok ls H locs hl hP hS)
theorem J_if_lt (C : Cx p s m args meth c cc nL own D tys N ad ret) {off : Int} {tgt q : Nat} {x : Int32} {O : Type} {a b : Option O} {out : O} (hdg : decode cc pc = .ok (.ifCond .lt off, 3)) (hq : pc + 3 = q) (ht : (pc : Int) + off = (tgt : Int)) (h : (if x < 0 then a else b) = some out) (kt : x < 0 → a = some out → Jd p l e R s m args below meth c D N ad cel ok nL Q tgt lv rest σ) (kf : ¬ (x < 0) → b = some out → Jd p l e R s m args below meth c D N ad cel ok nL Q q lv rest σ) : Jd p l e R s m args below meth c D N ad cel ok nL Q pc lv (.int x :: rest) σ := by
  subst hq; intro hok ls H locs hl hP hS
  exact lv_if_lt C.1 C.2.1 hdg ht (fun z => kt z (by rw [if_pos z] at h; exact h) hok ls H locs hl hP hS) (fun z => kf z (by rw [if_neg z] at h; exact h) hok ls H locs hl hP hS)
theorem J_if_ge (C : Cx p s m args meth c cc nL own D tys N ad ret) {off : Int} {tgt q : Nat} {x : Int32} {O : Type} {a b : Option O} {out : O} (hdg : decode cc pc = .ok (.ifCond .ge off, 3)) (hq : pc + 3 = q) (ht : (pc : Int) + off = (tgt : Int)) (h : (if 0 ≤ x then a else b) = some out) (kt : 0 ≤ x → a = some out → Jd p l e R s m args below meth c D N ad cel ok nL Q tgt lv rest σ) (kf : ¬ (0 ≤ x) → b = some out → Jd p l e R s m args below meth c D N ad cel ok nL Q q lv rest σ) : Jd p l e R s m args below meth c D N ad cel ok nL Q pc lv (.int x :: rest) σ := by
  subst hq; intro hok ls H locs hl hP hS
  exact lv_if_ge C.1 C.2.1 hdg ht (fun z => kt z (by rw [if_pos z] at h; exact h) hok ls H locs hl hP hS) (fun z => kf z (by rw [if_neg z] at h; exact h) hok ls H locs hl hP hS)
theorem J_if_gt (C : Cx p s m args meth c cc nL own D tys N ad ret) {off : Int} {tgt q : Nat} {x : Int32} {O : Type} {a b : Option O} {out : O} (hdg : decode cc pc = .ok (.ifCond .gt off, 3)) (hq : pc + 3 = q) (ht : (pc : Int) + off = (tgt : Int)) (h : (if 0 < x then a else b) = some out) (kt : 0 < x → a = some out → Jd p l e R s m args below meth c D N ad cel ok nL Q tgt lv rest σ) (kf : ¬ (0 < x) → b = some out → Jd p l e R s m args below meth c D N ad cel ok nL Q q lv rest σ) : Jd p l e R s m args below meth c D N ad cel ok nL Q pc lv (.int x :: rest) σ := by
  subst hq; intro hok ls H locs hl hP hS
  exact lv_if_gt C.1 C.2.1 hdg ht (fun z => kt z (by rw [if_pos z] at h; exact h) hok ls H locs hl hP hS) (fun z => kf z (by rw [if_neg z] at h; exact h) hok ls H locs hl hP hS)
theorem J_if_le (C : Cx p s m args meth c cc nL own D tys N ad ret) {off : Int} {tgt q : Nat} {x : Int32} {O : Type} {a b : Option O} {out : O} (hdg : decode cc pc = .ok (.ifCond .le off, 3)) (hq : pc + 3 = q) (ht : (pc : Int) + off = (tgt : Int)) (h : (if x ≤ 0 then a else b) = some out) (kt : x ≤ 0 → a = some out → Jd p l e R s m args below meth c D N ad cel ok nL Q tgt lv rest σ) (kf : ¬ (x ≤ 0) → b = some out → Jd p l e R s m args below meth c D N ad cel ok nL Q q lv rest σ) : Jd p l e R s m args below meth c D N ad cel ok nL Q pc lv (.int x :: rest) σ := by
  subst hq; intro hok ls H locs hl hP hS
  exact lv_if_le C.1 C.2.1 hdg ht (fun z => kt z (by rw [if_pos z] at h; exact h) hok ls H locs hl hP hS) (fun z => kf z (by rw [if_neg z] at h; exact h) hok ls H locs hl hP hS)
theorem J_icmp_eq (C : Cx p s m args meth c cc nL own D tys N ad ret) {off : Int} {tgt q : Nat} {x y : Int32} {O : Type} {a b : Option O} {out : O} (hdg : decode cc pc = .ok (.if_icmp .eq off, 3)) (hq : pc + 3 = q) (ht : (pc : Int) + off = (tgt : Int)) (h : (if x = y then a else b) = some out) (kt : x = y → a = some out → Jd p l e R s m args below meth c D N ad cel ok nL Q tgt lv rest σ) (kf : ¬ (x = y) → b = some out → Jd p l e R s m args below meth c D N ad cel ok nL Q q lv rest σ) : Jd p l e R s m args below meth c D N ad cel ok nL Q pc lv (.int y :: .int x :: rest) σ := by
  subst hq; intro hok ls H locs hl hP hS
  exact lv_icmp_eq C.1 C.2.1 hdg ht (fun z => kt z (by rw [if_pos z] at h; exact h) hok ls H locs hl hP hS) (fun z => kf z (by rw [if_neg z] at h; exact h) hok ls H locs hl hP hS)
theorem J_icmp_lt (C : Cx p s m args meth c cc nL own D tys N ad ret) {off : Int} {tgt q : Nat} {x y : Int32} {O : Type} {a b : Option O} {out : O} (hdg : decode cc pc = .ok (.if_icmp .lt off, 3)) (hq : pc + 3 = q) (ht : (pc : Int) + off = (tgt : Int)) (h : (if x < y then a else b) = some out) (kt : x < y → a = some out → Jd p l e R s m args below meth c D N ad cel ok nL Q tgt lv rest σ) (kf : ¬ (x < y) → b = some out → Jd p l e R s m args below meth c D N ad cel ok nL Q q lv rest σ) : Jd p l e R s m args below meth c D N ad cel ok nL Q pc lv (.int y :: .int x :: rest) σ := by
  subst hq; intro hok ls H locs hl hP hS
  exact lv_icmp_lt C.1 C.2.1 hdg ht (fun z => kt z (by rw [if_pos z] at h; exact h) hok ls H locs hl hP hS) (fun z => kf z (by rw [if_neg z] at h; exact h) hok ls H locs hl hP hS)
theorem J_icmp_ge (C : Cx p s m args meth c cc nL own D tys N ad ret) {off : Int} {tgt q : Nat} {x y : Int32} {O : Type} {a b : Option O} {out : O} (hdg : decode cc pc = .ok (.if_icmp .ge off, 3)) (hq : pc + 3 = q) (ht : (pc : Int) + off = (tgt : Int)) (h : (if y ≤ x then a else b) = some out) (kt : y ≤ x → a = some out → Jd p l e R s m args below meth c D N ad cel ok nL Q tgt lv rest σ) (kf : ¬ (y ≤ x) → b = some out → Jd p l e R s m args below meth c D N ad cel ok nL Q q lv rest σ) : Jd p l e R s m args below meth c D N ad cel ok nL Q pc lv (.int y :: .int x :: rest) σ := by
  subst hq; intro hok ls H locs hl hP hS
  exact lv_icmp_ge C.1 C.2.1 hdg ht (fun z => kt z (by rw [if_pos z] at h; exact h) hok ls H locs hl hP hS) (fun z => kf z (by rw [if_neg z] at h; exact h) hok ls H locs hl hP hS)
theorem J_icmp_gt (C : Cx p s m args meth c cc nL own D tys N ad ret) {off : Int} {tgt q : Nat} {x y : Int32} {O : Type} {a b : Option O} {out : O} (hdg : decode cc pc = .ok (.if_icmp .gt off, 3)) (hq : pc + 3 = q) (ht : (pc : Int) + off = (tgt : Int)) (h : (if y < x then a else b) = some out) (kt : y < x → a = some out → Jd p l e R s m args below meth c D N ad cel ok nL Q tgt lv rest σ) (kf : ¬ (y < x) → b = some out → Jd p l e R s m args below meth c D N ad cel ok nL Q q lv rest σ) : Jd p l e R s m args below meth c D N ad cel ok nL Q pc lv (.int y :: .int x :: rest) σ := by
  subst hq; intro hok ls H locs hl hP hS
  exact lv_icmp_gt C.1 C.2.1 hdg ht (fun z => kt z (by rw [if_pos z] at h; exact h) hok ls H locs hl hP hS) (fun z => kf z (by rw [if_neg z] at h; exact h) hok ls H locs hl hP hS)
theorem J_icmp_le (C : Cx p s m args meth c cc nL own D tys N ad ret) {off : Int} {tgt q : Nat} {x y : Int32} {O : Type} {a b : Option O} {out : O} (hdg : decode cc pc = .ok (.if_icmp .le off, 3)) (hq : pc + 3 = q) (ht : (pc : Int) + off = (tgt : Int)) (h : (if x ≤ y then a else b) = some out) (kt : x ≤ y → a = some out → Jd p l e R s m args below meth c D N ad cel ok nL Q tgt lv rest σ) (kf : ¬ (x ≤ y) → b = some out → Jd p l e R s m args below meth c D N ad cel ok nL Q q lv rest σ) : Jd p l e R s m args below meth c D N ad cel ok nL Q pc lv (.int y :: .int x :: rest) σ := by
  subst hq; intro hok ls H locs hl hP hS
  exact lv_icmp_le C.1 C.2.1 hdg ht (fun z => kt z (by rw [if_pos z] at h; exact h) hok ls H locs hl hP hS) (fun z => kf z (by rw [if_neg z] at h; exact h) hok ls H locs hl hP hS)
theorem J_if_ne (C : Cx p s m args meth c cc nL own D tys N ad ret) {off : Int} {tgt q : Nat} {x : Int32} {O : Type} {a b : Option O} {out : O} (hdg : decode cc pc = .ok (.ifCond .ne off, 3)) (hq : pc + 3 = q) (ht : (pc : Int) + off = (tgt : Int)) (h : (if x = 0 then a else b) = some out) (kt : x = 0 → a = some out → Jd p l e R s m args below meth c D N ad cel ok nL Q q lv rest σ) (kf : ¬ (x = 0) → b = some out → Jd p l e R s m args below meth c D N ad cel ok nL Q tgt lv rest σ) : Jd p l e R s m args below meth c D N ad cel ok nL Q pc lv (.int x :: rest) σ := by
  subst hq; intro hok ls H locs hl hP hS
  exact lv_if_ne C.1 C.2.1 hdg ht (fun z => kf z (by rw [if_neg z] at h; exact h) hok ls H locs hl hP hS) (fun z => kt z (by rw [if_pos z] at h; exact h) hok ls H locs hl hP hS)
theorem J_icmp_ne (C : Cx p s m args meth c cc nL own D tys N ad ret) {off : Int} {tgt q : Nat} {x y : Int32} {O : Type} {a b : Option O} {out : O} (hdg : decode cc pc = .ok (.if_icmp .ne off, 3)) (hq : pc + 3 = q) (ht : (pc : Int) + off = (tgt : Int)) (h : (if x = y then a else b) = some out) (kt : x = y → a = some out → Jd p l e R s m args below meth c D N ad cel ok nL Q q lv rest σ) (kf : ¬ (x = y) → b = some out → Jd p l e R s m args below meth c D N ad cel ok nL Q tgt lv rest σ) : Jd p l e R s m args below meth c D N ad cel ok nL Q pc lv (.int y :: .int x :: rest) σ := by
  subst hq; intro hok ls H locs hl hP hS
  exact lv_icmp_ne C.1 C.2.1 hdg ht (fun z => kf z (by rw [if_neg z] at h; exact h) hok ls H locs hl hP hS) (fun z => kt z (by rw [if_pos z] at h; exact h) hok ls H locs hl hP hS)
def bf {α : Type} (b : Bool) (x y : α) : α := match b with
  | true => x
  | false => y
theorem J_ifeq_b (C : Cx p s m args meth c cc nL own D tys N ad ret) {off : Int} {tgt q : Nat} {x : Bool} {O : Type} {a b : Option O} {out : O} (hdg : decode cc pc = .ok (.ifCond .eq off, 3)) (hq : pc + 3 = q) (ht : (pc : Int) + off = (tgt : Int)) (h : bf x a b = some out) (kt : x = true → a = some out → Jd p l e R s m args below meth c D N ad cel ok nL Q q lv rest σ) (kf : x = false → b = some out → Jd p l e R s m args below meth c D N ad cel ok nL Q tgt lv rest σ) : Jd p l e R s m args below meth c D N ad cel ok nL Q pc lv (.int (b2i x) :: rest) σ := by
  subst hq; intro hok ls H locs hl hP hS
  refine lv_if_eq C.1 C.2.1 hdg ht (fun z => ?_) (fun z => ?_)
  · cases x
    · exact kf rfl h hok ls H locs hl hP hS
    · cases z
  · cases x
    · exact absurd rfl z
    · exact kt rfl h hok ls H locs hl hP hS
theorem J_ifne_b (C : Cx p s m args meth c cc nL own D tys N ad ret) {off : Int} {tgt q : Nat} {x : Bool} {O : Type} {a b : Option O} {out : O} (hdg : decode cc pc = .ok (.ifCond .ne off, 3)) (hq : pc + 3 = q) (ht : (pc : Int) + off = (tgt : Int)) (h : bf x a b = some out) (kt : x = true → a = some out → Jd p l e R s m args below meth c D N ad cel ok nL Q tgt lv rest σ) (kf : x = false → b = some out → Jd p l e R s m args below meth c D N ad cel ok nL Q q lv rest σ) : Jd p l e R s m args below meth c D N ad cel ok nL Q pc lv (.int (b2i x) :: rest) σ := by
  subst hq; intro hok ls H locs hl hP hS
  refine lv_if_ne C.1 C.2.1 hdg ht (fun z => ?_) (fun z => ?_)
  · cases x
    · exact absurd rfl z
    · exact kt rfl h hok ls H locs hl hP hS
  · cases x
    · exact kf rfl h hok ls H locs hl hP hS
    · cases z
theorem J_ifnonnull (C : Cx p s m args meth c cc nL own D tys N ad ret) {off : Int} {tgt : Nat} {x : Nat} (hdg : decode cc pc = .ok (.ifnonnull off, 3)) (ht : (pc : Int) + off = (tgt : Int)) (k : Jd p l e R s m args below meth c D N ad cel ok nL Q tgt lv rest σ) : Jd p l e R s m args below meth c D N ad cel ok nL Q pc lv (.ref x :: rest) σ := by
  intro hok ls H locs hl hP hS; exact lv_ifnonnull C.1 C.2.1 hdg ht (k hok ls H locs hl hP hS)
theorem J_ifnull (C : Cx p s m args meth c cc nL own D tys N ad ret) {off : Int} {q : Nat} {x : Nat} (hdg : decode cc pc = .ok (.ifnull off, 3)) (hq : pc + 3 = q) (k : Jd p l e R s m args below meth c D N ad cel ok nL Q q lv rest σ) : Jd p l e R s m args below meth c D N ad cel ok nL Q pc lv (.ref x :: rest) σ := by
  subst hq; intro hok ls H locs hl hP hS; exact lv_ifnull C.1 C.2.1 hdg (k hok ls H locs hl hP hS)
theorem J_ifnullN (C : Cx p s m args meth c cc nL own D tys N ad ret) {off : Int} {tgt : Nat} (hdg : decode cc pc = .ok (.ifnull off, 3)) (ht : (pc : Int) + off = (tgt : Int)) (k : Jd p l e R s m args below meth c D N ad cel ok nL Q tgt lv rest σ) : Jd p l e R s m args below meth c D N ad cel ok nL Q pc lv (.null :: rest) σ := by
  intro hok ls H locs hl hP hS; exact lv_ifnullN C.1 C.2.1 hdg ht (k hok ls H locs hl hP hS)
theorem J_ifnonnullN (C : Cx p s m args meth c cc nL own D tys N ad ret) {off : Int} {q : Nat} (hdg : decode cc pc = .ok (.ifnonnull off, 3)) (hq : pc + 3 = q) (k : Jd p l e R s m args below meth c D N ad cel ok nL Q q lv rest σ) : Jd p l e R s m args below meth c D N ad cel ok nL Q pc lv (.null :: rest) σ := by
  subst hq; intro hok ls H locs hl hP hS; exact lv_ifnonnullN C.1 C.2.1 hdg (k hok ls H locs hl hP hS)
theorem J_ldc (C : Cx p s m args meth c cc nL own D tys N ad ret) {q index : Nat} {v : Int32} (hw : Cond.constant own index v ∈ WA) (hdg : decode cc pc = .ok (.ldc index, 2)) (hq : pc + 2 = q) (k : Jd p l e R s m args below meth c D N ad cel ok nL Q q lv (.int v :: rest) σ) : Jd p l e R s m args below meth c D N ad cel ok nL Q pc lv rest σ := by
  subst hq; intro hok ls H locs hl hP hS; exact lv_ldc C.1 C.2.1 C.2.2.2.1 (C.2.2.2.2.1 _ hw) hdg (k hok ls H locs hl hP hS)
theorem J_ldc2 (C : Cx p s m args meth c cc nL own D tys N ad ret) {q index : Nat} {v : Int64} (hw : Cond.constantLong own index v ∈ WA) (hdg : decode cc pc = .ok (.ldc2_w index, 3)) (hq : pc + 3 = q) (k : Jd p l e R s m args below meth c D N ad cel ok nL Q q lv (.long v :: rest) σ) : Jd p l e R s m args below meth c D N ad cel ok nL Q pc lv rest σ := by
  subst hq; intro hok ls H locs hl hP hS; exact lv_ldc2 C.1 C.2.1 C.2.2.2.1 (C.2.2.2.2.1 _ hw) hdg (k hok ls H locs hl hP hS)
theorem J_ldcw (C : Cx p s m args meth c cc nL own D tys N ad ret) {q index : Nat} {v : Int32} (hw : Cond.constant own index v ∈ WA) (hdg : decode cc pc = .ok (.ldc_w index, 3)) (hq : pc + 3 = q) (k : Jd p l e R s m args below meth c D N ad cel ok nL Q q lv (.int v :: rest) σ) : Jd p l e R s m args below meth c D N ad cel ok nL Q pc lv rest σ := by
  subst hq; intro hok ls H locs hl hP hS; exact lv_ldcw C.1 C.2.1 C.2.2.2.1 (C.2.2.2.2.1 _ hw) hdg (k hok ls H locs hl hP hS)
theorem J_sub {lv' : List (Nat × Value)} {st : List Value} (ks : List Nat) (hk : lv_pick lv ks = lv') (k : Jd p l e R s m args below meth c D N ad cel ok nL Q pc lv' st σ) : Jd p l e R s m args below meth c D N ad cel ok nL Q pc lv st σ := fun hok ls H locs hl hP hS => k hok ls H locs (lv_sub hl ks hk) hP hS
theorem J_nmi {O : Type} {x : Int32} {K : Int32 → Option O} {out : O} (h : nm x K = some out) (k : ∀ y : Int32, y = x → K y = some out → Jd p l e R s m args below meth c D N ad cel ok nL Q pc lv (.int y :: rest) σ) : Jd p l e R s m args below meth c D N ad cel ok nL Q pc lv (.int x :: rest) σ := k x rfl h
theorem J_nml {O : Type} {x : Int64} {K : Int64 → Option O} {out : O} (h : nm x K = some out) (k : ∀ y : Int64, y = x → K y = some out → Jd p l e R s m args below meth c D N ad cel ok nL Q pc lv (.long y :: rest) σ) : Jd p l e R s m args below meth c D N ad cel ok nL Q pc lv (.long x :: rest) σ := k x rfl h
theorem J_tsIn (C : Cx p s m args meth c cc nL own D tys N ad ret) {dflt lo hi : Int} {offs : Array Int} {len : Nat} {x : Int32} {off : Int} {tgt : Nat} (v : Int32) (hx : x = v) (hdg : decode cc pc = .ok (.tableswitch dflt lo hi offs, len)) (h1 : ¬ v.toInt < lo) (h2 : ¬ hi < v.toInt) (ho : offs[(v.toInt - lo).toNat]? = some off) (ht : (pc : Int) + off = (tgt : Int)) (k : Jd p l e R s m args below meth c D N ad cel ok nL Q tgt lv rest σ) : Jd p l e R s m args below meth c D N ad cel ok nL Q pc lv (.int x :: rest) σ := by
  subst hx; intro hok ls H locs hl hP hS; exact lv_tableIn C.1 C.2.1 hdg h1 h2 ho ht (k hok ls H locs hl hP hS)
theorem J_tsOut (C : Cx p s m args meth c cc nL own D tys N ad ret) {dflt lo hi : Int} {offs : Array Int} {len : Nat} {x : Int32} {tgt : Nat} (hdg : decode cc pc = .ok (.tableswitch dflt lo hi offs, len)) (hx : x.toInt < lo ∨ hi < x.toInt) (ht : (pc : Int) + dflt = (tgt : Int)) (k : Jd p l e R s m args below meth c D N ad cel ok nL Q tgt lv rest σ) : Jd p l e R s m args below meth c D N ad cel ok nL Q pc lv (.int x :: rest) σ := by
  intro hok ls H locs hl hP hS; exact lv_tableOut C.1 C.2.1 hdg hx ht (k hok ls H locs hl hP hS)
theorem J_ls (C : Cx p s m args meth c cc nL own D tys N ad ret) {dflt : Int} {ps : Array (Int × Int)} {len : Nat} {x : Int32} {off : Int} {tgt : Nat} (hdg : decode cc pc = .ok (.lookupswitch dflt ps, len)) (hp : (ps.toList.zip (ps.toList.drop 1)).all (fun (a, next) => a.1 < next.1) = true) (ho : Op.lookupswitch.offset ps.toList dflt x.toInt = off) (ht : (pc : Int) + off = (tgt : Int)) (k : Jd p l e R s m args below meth c D N ad cel ok nL Q tgt lv rest σ) : Jd p l e R s m args below meth c D N ad cel ok nL Q pc lv (.int x :: rest) σ := by
  intro hok ls H locs hl hP hS; exact lv_lookup C.1 C.2.1 hdg hp ho ht (k hok ls H locs hl hP hS)
def mmax (x y : Int32) : Int32 := if x < y then y else x
theorem J_mmax (C : Cx p s m args meth c cc nL own D tys N ad ret) {q index : Nat} {x y : Int32} (hl0 : Cond.methodLink own index Lib.Math.max.name ∈ WA) (hst : Cond.static Lib.Math.max.name ∈ WA) (hcd : Cond.code Lib.Math.max.name Lib.Math.max.code 2 (some .int) ∈ WA) (hf : 1 ≤ R.frames) (hlo : (rest.map fun v => v.category).sum + 13 ≤ R.locals) (hdg : decode cc pc = .ok (.invokestatic index, 3)) (hq : pc + 3 = q) (k : Jd p l e R s m args below meth c D N ad cel ok nL Q q lv (.int (mmax x y) :: rest) σ) : Jd p l e R s m args below meth c D N ad cel ok nL Q pc lv (.int y :: .int x :: rest) σ := by
  subst hq; intro hok ls H locs hl hP hS
  exact va_mmax C.1 C.2.1 (C.2.2.1.trans hl.1.symm) C.2.2.2.1 (C.2.2.2.2.1 _ hl0) (C.2.2.2.2.1 _ hst) (C.2.2.2.2.1 _ kZ_RJ9) (C.2.2.2.2.1 _ hcd) hf hlo (Nat.le_refl _) (Nat.le_refl _) hdg (k hok ls H locs hl hP hS)
def mmin (x y : Int32) : Int32 := if y < x then y else x
theorem J_mmin (C : Cx p s m args meth c cc nL own D tys N ad ret) {q index : Nat} {x y : Int32} (hl0 : Cond.methodLink own index Lib.Math.min.name ∈ WA) (hst : Cond.static Lib.Math.min.name ∈ WA) (hcd : Cond.code Lib.Math.min.name Lib.Math.min.code 2 (some .int) ∈ WA) (hf : 1 ≤ R.frames) (hlo : (rest.map fun v => v.category).sum + 13 ≤ R.locals) (hdg : decode cc pc = .ok (.invokestatic index, 3)) (hq : pc + 3 = q) (k : Jd p l e R s m args below meth c D N ad cel ok nL Q q lv (.int (mmin x y) :: rest) σ) : Jd p l e R s m args below meth c D N ad cel ok nL Q pc lv (.int y :: .int x :: rest) σ := by
  subst hq; intro hok ls H locs hl hP hS
  exact va_mmin C.1 C.2.1 (C.2.2.1.trans hl.1.symm) C.2.2.2.1 (C.2.2.2.2.1 _ hl0) (C.2.2.2.2.1 _ hst) (C.2.2.2.2.1 _ kZ_RJ9) (C.2.2.2.2.1 _ hcd) hf hlo (Nat.le_refl _) (Nat.le_refl _) hdg (k hok ls H locs hl hP hS)
def mabs (x : Int32) : Int32 := if 0 ≤ x then x else 0 - x
theorem J_mabs (C : Cx p s m args meth c cc nL own D tys N ad ret) {q index : Nat} {x : Int32} (hl0 : Cond.methodLink own index Lib.Math.abs.name ∈ WA) (hst : Cond.static Lib.Math.abs.name ∈ WA) (hcd : Cond.code Lib.Math.abs.name Lib.Math.abs.code 1 (some .int) ∈ WA) (hf : 1 ≤ R.frames) (hlo : (rest.map fun v => v.category).sum + 13 ≤ R.locals) (hdg : decode cc pc = .ok (.invokestatic index, 3)) (hq : pc + 3 = q) (k : Jd p l e R s m args below meth c D N ad cel ok nL Q q lv (.int (mabs x) :: rest) σ) : Jd p l e R s m args below meth c D N ad cel ok nL Q pc lv (.int x :: rest) σ := by
  subst hq; intro hok ls H locs hl hP hS
  exact va_mabs C.1 C.2.1 (C.2.2.1.trans hl.1.symm) C.2.2.2.1 (C.2.2.2.2.1 _ hl0) (C.2.2.2.2.1 _ hst) (C.2.2.2.2.1 _ kZ_RJ9) (C.2.2.2.2.1 _ hcd) hf hlo (Nat.le_refl _) (Nat.le_refl _) hdg (k hok ls H locs hl hP hS)
theorem J_get (C : Cx p s m args meth c cc nL own D tys N ad ret) {Cn : String} {T : u_T} {Nf ci index q g : Nat} {fs : List Value} (hin : ∀ w ∈ u_ws Cn T Nf, w ∈ WA) (hg : g < N) (hc : cel σ g = .inr (ci, fs)) (hcl : vwCl[ci]? = some (Cn, T, Nf)) (j : Nat) (hj : j < Nf) (hw : Cond.fieldLink own index (T j).1 (T j).2.1 (T j).2.2.1 ∈ WA) {v : Value} (hv : fs[j]? = some v) (hdg : decode cc pc = .ok (.getfield index, 3)) (hq : pc + 3 = q) (k : ok σ → Jd p l e R s m args below meth c D N ad cel ok nL Q q lv (v :: rest) σ) : Jd p l e R s m args below meth c D N ad cel ok nL Q pc lv (.ref (ad g) :: rest) σ := by
  subst hq; intro hok ls H locs hl hP hS
  exact va_get (D := D) C.1 C.2.1 C.2.2.2.2.1 hin C.2.2.2.1 C.2.2.2.2.2.1 hP g (wd_get hg hc) hcl j hj (C.2.2.2.2.1 _ hw) (fun _ h9 => h9) hv hdg (k hok hok ls H locs hl hP hS)
theorem J_put (C : Cx p s m args meth c cc nL own D tys N ad ret) {Cn : String} {T : u_T} {Nf ci index q g : Nat} {fs fs' : List Value} {σ' : Sg} (hin : ∀ w ∈ u_ws Cn T Nf, w ∈ WA) (ty0 : Nat → FieldType) (hty : ∀ k, k < Nf → parseFieldDescriptor (T k).2.2.1 = some (ty0 k)) (hnm : ∀ a, a < Nf → ∀ b, b < Nf → a ≠ b → (T a).2.1 ≠ (T b).2.1) (hg : g < N) (hc : cel σ g = .inr (ci, fs)) (hcl : vwCl[ci]? = some (Cn, T, Nf)) (j : Nat) (hj : j < Nf) (hw : Cond.fieldLink own index (T j).1 (T j).2.1 (T j).2.2.1 ∈ WA) (hfin : (T j).2.2.2 = false) {ty : FieldType} {v : Value} (hd : parseFieldDescriptor (T j).2.2.1 = some ty) (hn : narrow ty v = v) (hfit : fits ty v = true) (hlf : j < fs.length) (hs : fs.set j v = fs') (hc' : cel σ' g = .inr (ci, fs')) (hne : ∀ x, x ≠ g → cel σ' x = cel σ x) (hok' : ok σ → ok σ') (hdg : decode cc pc = .ok (.putfield index, 3)) (hq : pc + 3 = q) (k : Jd p l e R s m args below meth c D N ad cel ok nL Q q lv rest σ') : Jd p l e R s m args below meth c D N ad cel ok nL Q pc lv (v :: .ref (ad g) :: rest) σ := by
  subst hq; subst hs; intro hok ls H locs hl hP hS
  refine va_put (D := D) C.1 C.2.1 C.2.2.2.2.1 hin ty0 hty hnm C.2.2.2.1 C.2.2.2.2.2.1 hP (wd_D C.2.2.2.2.2.2.1) hS g (wd_get hg hc) hcl j hj (C.2.2.2.2.1 _ hw) (fun _ h9 => h9) hfin hd hn hfit hlf hdg (fun H1 locs1 hP1 hD1 hS1 => ?_)
  rw [wd_set hc' hne] at hP1
  exact k (hok' hok) ls H1 locs1 hl hP1 hS1
theorem J_iald (C : Cx p s m args meth c cc nL own D tys N ad ret) {q g t0 n : Nat} {cA : ClassId} {f : Nat → Int32} {i : Int32} {O : Type} {X : Option O} {out : O} (hg : g < N) (hc : cel σ g = .inl (cA, n, .inl f)) (ht : tys[t0]? = some (cA, .int)) (h : ck (inB i n) X = some out) (hdg : decode cc pc = .ok (.iaload, 1)) (hq : pc + 1 = q) (k : X = some out → Jd p l e R s m args below meth c D N ad cel ok nL Q q lv (.int (f i.toNatClampNeg) :: rest) σ) : Jd p l e R s m args below meth c D N ad cel ok nL Q pc lv (.int i :: .ref (ad g) :: rest) σ := by
  subst hq; intro hok ls H locs hl hP hS
  exact va_iald (D := D) C.1 C.2.1 C.2.2.2.2.2.1 hP g t0 (wd_get hg hc) ht (inB_in (ck_of h).1) hdg (k (ck_of h).2 hok ls H locs hl hP hS)
theorem J_iast (C : Cx p s m args meth c cc nL own D tys N ad ret) {q g t0 n : Nat} {cA : ClassId} {f : Nat → Int32} {i x : Int32} {σ' : Sg} {O : Type} {X : Option O} {out : O} (hg : g < N) (hc : cel σ g = .inl (cA, n, .inl f)) (ht : tys[t0]? = some (cA, .int)) (h : ck (inB i n) X = some out) (hc' : cel σ' g = .inl (cA, n, .inl (upd f i.toNatClampNeg x))) (hne : ∀ z, z ≠ g → cel σ' z = cel σ z) (hok' : ok σ → ok σ') (hdg : decode cc pc = .ok (.iastore, 1)) (hq : pc + 1 = q) (k : X = some out → Jd p l e R s m args below meth c D N ad cel ok nL Q q lv rest σ') : Jd p l e R s m args below meth c D N ad cel ok nL Q pc lv (.int x :: .int i :: .ref (ad g) :: rest) σ := by
  subst hq; intro hok ls H locs hl hP hS
  refine va_iast (D := D) C.1 C.2.1 C.2.2.2.2.2.1 hP (wd_D C.2.2.2.2.2.2.1) hS g t0 (wd_get hg hc) ht (inB_in (ck_of h).1) hdg (fun H1 locs1 hP1 hD1 hS1 => ?_)
  rw [wd_set hc' hne] at hP1
  exact k (ck_of h).2 (hok' hok) ls H1 locs1 hl hP1 hS1
theorem J_alen (C : Cx p s m args meth c cc nL own D tys N ad ret) {q g t0 : Nat} {cA : ClassId} {x : vp_A} {ty : FieldType} (hg : g < N) (hc : cel σ g = .inl (cA, x)) (ht : tys[t0]? = some (cA, ty)) (hdg : decode cc pc = .ok (.arraylength, 1)) (hq : pc + 1 = q) (k : Jd p l e R s m args below meth c D N ad cel ok nL Q q lv (.int (nI x.1) :: rest) σ) : Jd p l e R s m args below meth c D N ad cel ok nL Q pc lv (.ref (ad g) :: rest) σ := by
  subst hq; intro hok ls H locs hl hP hS
  exact va_alen (D := D) C.1 C.2.1 C.2.2.2.2.2.1 hP g t0 (wd_get hg hc) ht rfl hdg (k hok ls H locs hl hP hS)
theorem J_aald (C : Cx p s m args meth c cc nL own D tys N ad ret) {q g t0 n : Nat} {cA : ClassId} {Cn : String} {f : Nat → Nat} {i : Int32} {O : Type} {X : Option O} {out : O} (hg : g < N) (hc : cel σ g = .inl (cA, n, .inr (.inr (.inr (.inr (fun j => some (ad (f j)))))))) (ht : tys[t0]? = some (cA, .object Cn)) (h : ck (inB i n) X = some out) (hdg : decode cc pc = .ok (.aaload, 1)) (hq : pc + 1 = q) (k : inB i n = true → X = some out → Jd p l e R s m args below meth c D N ad cel ok nL Q q lv (.ref (ad (f i.toNatClampNeg)) :: rest) σ) : Jd p l e R s m args below meth c D N ad cel ok nL Q pc lv (.int i :: .ref (ad g) :: rest) σ := by
  subst hq; intro hok ls H locs hl hP hS
  exact va_aldq (D := D) C.1 C.2.1 C.2.2.2.2.2.1 hP g t0 (wd_get hg hc) ht (inB_in (ck_of h).1) hdg (k (ck_of h).1 (ck_of h).2 hok ls H locs hl hP hS)
theorem J_acopy (C : Cx p s m args meth c cc nL own D tys N ad ret) {q g1 g2 t0 t1 n1 n2 index : Nat} {c1 c2 : ClassId} {f1 f2 : Nat → Int32} {sp dp n : Int32} {σ' : Sg} {O : Type} {X : Option O} {out : O} (hl0 : Cond.methodLink own index arraycopyName ∈ WA) (hnat : Cond.native arraycopyName ∈ WA) (hstt : Cond.static arraycopyName ∈ WA) (hini : Cond.initialized "java/lang/System" ∈ WA) (hg1 : g1 < N) (hg2 : g2 < N) (hc1 : cel σ g1 = .inl (c1, n1, .inl f1)) (hc2 : cel σ g2 = .inl (c2, n2, .inl f2)) (ht0 : tys[t0]? = some (c1, .int)) (ht1 : tys[t1]? = some (c2, .int)) (h : ck (!(decide (sp < 0)) && !(decide (dp < 0)) && !(decide (n < 0)) && decide (sp.toNatClampNeg + n.toNatClampNeg ≤ n1) && decide (dp.toNatClampNeg + n.toNatClampNeg ≤ n2)) X = some out) (hc' : cel σ' g2 = .inl (c2, n2, .inl (va_cpy f1 f2 sp.toNatClampNeg dp.toNatClampNeg n.toNatClampNeg))) (hne : ∀ z, z ≠ g2 → cel σ' z = cel σ z) (hok' : ok σ → ok σ') (hf : 1 ≤ R.frames) (hlo : (rest.map fun v => v.category).sum + (nativeFrameWords "java/lang/System" "arraycopy" 5 + 11) ≤ R.locals) (hdg : decode cc pc = .ok (.invokestatic index, 3)) (hq : pc + 3 = q) (k : X = some out → Jd p l e R s m args below meth c D N ad cel ok nL Q q lv rest σ') : Jd p l e R s m args below meth c D N ad cel ok nL Q pc lv (.int n :: .int dp :: .ref (ad g2) :: .int sp :: .ref (ad g1) :: rest) σ := by
  subst hq; intro hok ls H locs hl hP hS
  have hb := (ck_of h).1
  simp only [Bool.and_eq_true, Bool.not_eq_true', decide_eq_false_iff_not, decide_eq_true_eq] at hb
  obtain ⟨⟨⟨⟨b1, b2⟩, b3⟩, b4⟩, b5⟩ := hb
  refine va_copyi (D := D) (ty := .int) C.1 C.2.1 (C.2.2.1.trans hl.1.symm) C.2.2.2.1 (C.2.2.2.2.1 _ hl0) (C.2.2.2.2.1 _ hnat) (C.2.2.2.2.1 _ hstt) (C.2.2.2.2.1 _ hini) C.2.2.2.2.2.1 hP (wd_D C.2.2.2.2.2.2.1) hS g1 g2 t0 t1 (wd_get hg1 hc1) (wd_get hg2 hc2) ht0 ht1 rfl b1 b2 b3 b4 b5 (fun _ _ => rfl) hf hlo hdg (fun H1 locs1 hP1 hD1 hS1 => ?_)
  rw [wd_set hc' hne] at hP1
  exact k (ck_of h).2 (hok' hok) ls H1 locs1 hl hP1 hS1
theorem J_iret (C : Cx p s m args meth c cc nL own D tys N ad (some .int)) {r : Int32} (hdg : decode cc pc = .ok (.ireturn, 1)) : Jd p l e R s m args below meth c D N ad cel ok nL (MQ below (QI D tys N ad cel ok r σ) args s R.cells R.slots (inA N ad)) pc lv [.int r] σ := by
  intro hok ls H locs hl hP hS
  exact W.iret C.1 C.2.1 C.2.2.2.2.2.2.2.1 (fun t ht hW => ⟨⟨r, (), rfl, rfl, ⟨by rw [ht]; exact hP, hok⟩⟩, hS.F ht⟩) hS.2.2 hdg C.2.2.2.2.2.2.2.2.1
theorem J_zret (C : Cx p s m args meth c cc nL own D tys N ad (some .boolean)) {b : Bool} (hdg : decode cc pc = .ok (.ireturn, 1)) : Jd p l e R s m args below meth c D N ad cel ok nL (MQ below (QI D tys N ad cel ok (b2i b) σ) args s R.cells R.slots (inA N ad)) pc lv [.int (b2i b)] σ := by
  intro hok ls H locs hl hP hS
  exact W.zret C.1 C.2.1 C.2.2.2.2.2.2.2.1 (by cases b <;> rfl) (fun t ht hW => ⟨⟨b2i b, (), rfl, rfl, ⟨by rw [ht]; exact hP, hok⟩⟩, hS.F ht⟩) hS.2.2 hdg C.2.2.2.2.2.2.2.2.1
theorem J_lret (C : Cx p s m args meth c cc nL own D tys N ad (some .long)) {r : Int64} (hdg : decode cc pc = .ok (.lreturn, 1)) : Jd p l e R s m args below meth c D N ad cel ok nL (MQ below (QL D tys N ad cel ok r σ) args s R.cells R.slots (inA N ad)) pc lv [.long r] σ := by
  intro hok ls H locs hl hP hS
  exact W.lret C.1 C.2.1 C.2.2.2.2.2.2.2.1 (fun t ht hW => ⟨⟨r, (), rfl, rfl, ⟨by rw [ht]; exact hP, hok⟩⟩, hS.F ht⟩) hS.2.2 hdg C.2.2.2.2.2.2.2.2.1
theorem J_vret (C : Cx p s m args meth c cc nL own D tys N ad (none)) (hdg : decode cc pc = .ok (.return_, 1)) : Jd p l e R s m args below meth c D N ad cel ok nL (MQ below (QV D tys N ad cel ok σ) args s R.cells R.slots (inA N ad)) pc lv [] σ := by
  intro hok ls H locs hl hP hS
  exact W.vret C.1 C.2.1 C.2.2.2.2.2.2.2.1 (fun t ht hW => ⟨⟨(), rfl, trivial, ⟨by rw [ht]; exact hP, hok⟩⟩, hS.F ht⟩) hS.2.2 hdg C.2.2.2.2.2.2.2.2.1
theorem J_aret {rt : String} (C : Cx p s m args meth c cc nL own D tys N ad (some (.object rt))) {r : Option Nat} {v : Value} (hv : v = va_rf (r.map ad)) (hdg : decode cc pc = .ok (.areturn, 1)) : Jd p l e R s m args below meth c D N ad cel ok nL (MQ below (QR D tys N ad cel ok r σ) args s R.cells R.slots (inA N ad)) pc lv [v] σ := by
  intro hok ls H locs hl hP hS
  subst hv
  exact W.aret C.1 C.2.1 C.2.2.2.2.2.2.2.1 (Or.inl ⟨rt, rfl⟩) (va_rf_or _) (fun t ht hW => ⟨⟨r.map ad, (), rfl, rfl, ⟨by rw [ht]; exact hP, hok⟩⟩, hS.F ht⟩) hS.2.2 hdg C.2.2.2.2.2.2.2.2.1
theorem J_callIV (C : Cx p s m args meth c cc nL own D tys N ad ret) {y : MethodName} {cc' : ByteArray} {maxL fr lo n index q : Nat} {ty : FieldType} {av : List Value} {r : Int32} {σ' : Sg} {As : List Value} (hM : MI l D tys N ad cel ok y cc' maxL ty fr lo av σ r σ') (hy : okV y cc' maxL (some ty) n) (hl0 : Cond.methodLink own index y ∈ WA) {Cn : String} {T : u_T} {Nf ci g : Nat} {fs : List Value} (hg : g < N) (hc : cel σ g = .inr (ci, fs)) (hcl : vwCl[ci]? = some (Cn, T, Nf)) (hyc : y.cls = Cn) (hav : av = .ref (ad g) :: As) (hn : As.length = n) {st : List Value} (hst : st = As.reverse ++ (.ref (ad g) :: rest)) (hR : fr + 1 ≤ R.frames ∧ 8 + (maxL + 11) + lo ≤ R.locals) (hW8 : (rest.map fun v => v.category).sum ≤ 8) (hdg : decode cc pc = .ok (.invokevirtual index, 3)) (hq : pc + 3 = q) (k : Jd p l e R s m args below meth c D N ad cel ok nL Q q lv (.int r :: rest) σ') : Jd p l e R s m args below meth c D N ad cel ok nL Q pc lv st σ := by
  subst hq; subst hav; subst hst
  intro hok ls H locs hl hP hS
  obtain ⟨hx, hb, hml, hown, hts, hK, hap, -, -, hNW⟩ := C
  refine va_calli (va_runV (As := As) (rest := rest) ⟨hx, hb, hml, hown, hts⟩ hM ⟨callB_of n hts (gWB hy.1) rfl rfl rfl (hts _ hy.2.2.2.1) (hts _ hl0) hy.2.2.2.2 hR, hts _ hy.2.1, hts _ hy.2.2.1⟩ ⟨fun a U g0 mk z => ⟨z.1, WP_call z.2⟩, hyc ▸ va_recv hK hP (q0 := g) hcl (wd_get hg hc), fun U hU hW => ⟨rfl, by rw [hU]; exact hP, ⟨va_K.moved hW.alike hK, NW_warm hW hNW⟩, hok⟩⟩ rfl hn hl.1 rfl (lv_room hW8) hdg ⟨Nat.le_refl _, Nat.le_refl _⟩) hS (fun _ _ h9 => h9) (fun _ h9 => h9) (fun r1 u t H1 locs1 ht hvm hw hB hz hk1 hS => ?_)
  obtain ⟨hP1, hok1⟩ := hB
  rw [ht] at hP1
  subst hw; exact k hok1 ls H1 locs1 hl hP1 hS
theorem J_callIS (C : Cx p s m args meth c cc nL own D tys N ad ret) {y : MethodName} {cc' : ByteArray} {maxL fr lo n index q : Nat} {ty : FieldType} {av : List Value} {r : Int32} {σ' : Sg} {As : List Value} (hM : MI l D tys N ad cel ok y cc' maxL ty fr lo av σ r σ') (hy : okS y cc' maxL (some ty) n) (hl0 : Cond.methodLink own index y ∈ WA) (hav : av = As) (hn : As.length = n) {st : List Value} (hst : st = As.reverse ++ (rest)) (hR : fr + 1 ≤ R.frames ∧ 8 + (maxL + 11) + lo ≤ R.locals) (hW8 : (rest.map fun v => v.category).sum ≤ 8) (hdg : decode cc pc = .ok (.invokestatic index, 3)) (hq : pc + 3 = q) (k : Jd p l e R s m args below meth c D N ad cel ok nL Q q lv (.int r :: rest) σ') : Jd p l e R s m args below meth c D N ad cel ok nL Q pc lv st σ := by
  subst hq; subst hav; subst hst
  intro hok ls H locs hl hP hS
  obtain ⟨hx, hb, hml, hown, hts, hK, hap, -, -, hNW⟩ := C
  refine va_calli (va_runS (As := av) (rest := rest) ⟨hx, hb, hml, hown, hts⟩ hM ⟨callB_of n hts (gWB hy.1) rfl rfl rfl (hts _ hy.2.2.1) (hts _ hl0) hy.2.2.2 hR, hts _ hy.2.1⟩ ⟨fun a U g0 mk z => ⟨z.1, WP_call z.2⟩, fun U hU hW => ⟨rfl, by rw [hU]; exact hP, ⟨va_K.moved hW.alike hK, NW_warm hW hNW⟩, hok⟩⟩ rfl hn hl.1 rfl (lv_room hW8) hdg ⟨Nat.le_refl _, Nat.le_refl _⟩) hS (fun _ _ h9 => h9) (fun _ h9 => h9) (fun r1 u t H1 locs1 ht hvm hw hB hz hk1 hS => ?_)
  obtain ⟨hP1, hok1⟩ := hB
  rw [ht] at hP1
  subst hw; exact k hok1 ls H1 locs1 hl hP1 hS
theorem J_callISN (C : Cx p s m args meth c cc nL own D tys N ad ret) {y : MethodName} {host : String} {cc' : ByteArray} {maxL fr lo n index q : Nat} {ty : FieldType} {av : List Value} {r : Int32} {σ' : Sg} {As : List Value} (hM : MI l D tys N ad cel ok y cc' maxL ty fr lo av σ r σ') (hy : okS y cc' maxL (some ty) n) (hl0 : va_Nw (.methodLinkNest own index y host) s) (hav : av = As) (hn : As.length = n) {st : List Value} (hst : st = As.reverse ++ rest) (hR : fr + 1 ≤ R.frames ∧ 8 + (maxL + 11) + lo ≤ R.locals) (hW8 : (rest.map fun v => v.category).sum ≤ 8) (hdg : decode cc pc = .ok (.invokestatic index, 3)) (hq : pc + 3 = q) (k : Jd p l e R s m args below meth c D N ad cel ok nL Q q lv (.int r :: rest) σ') : Jd p l e R s m args below meth c D N ad cel ok nL Q pc lv st σ := by
  subst hq; subst hav; subst hst
  intro hok ls H locs hl hP hS
  obtain ⟨hx, hb, hml, hown, hts, hK, hap, -, -, hNW⟩ := C
  refine va_calli (va_runSN (As := av) (rest := rest) ⟨hx, hb, hml, hown, hts⟩ hM ⟨va_cnB n hts (gWB hy.1) rfl rfl rfl hl0 (hts _ hy.2.2.1) hy.2.2.2 hR, hts _ hy.2.1, trivial⟩ ⟨fun a U g0 mk z => ⟨z.1, WP_call z.2⟩, fun U hU hW => ⟨rfl, by rw [hU]; exact hP, ⟨va_K.moved hW.alike hK, NW_warm hW hNW⟩, hok⟩⟩ rfl hn hl.1 rfl (lv_room hW8) hdg ⟨Nat.le_refl _, Nat.le_refl _⟩) hS (fun _ _ h9 => h9) (fun _ h9 => h9) (fun r1 u t H1 locs1 ht hvm hw hB hz hk1 hS => ?_)
  obtain ⟨hP1, hok1⟩ := hB
  rw [ht] at hP1
  subst hw; exact k hok1 ls H1 locs1 hl hP1 hS
theorem J_callLV (C : Cx p s m args meth c cc nL own D tys N ad ret) {y : MethodName} {cc' : ByteArray} {maxL fr lo n index q : Nat} {av : List Value} {r : Int64} {σ' : Sg} {As : List Value} (hM : ML l D tys N ad cel ok y cc' maxL fr lo av σ r σ') (hy : okV y cc' maxL (some .long) n) (hl0 : Cond.methodLink own index y ∈ WA) {Cn : String} {T : u_T} {Nf ci g : Nat} {fs : List Value} (hg : g < N) (hc : cel σ g = .inr (ci, fs)) (hcl : vwCl[ci]? = some (Cn, T, Nf)) (hyc : y.cls = Cn) (hav : av = .ref (ad g) :: As) (hn : As.length = n) {st : List Value} (hst : st = As.reverse ++ (.ref (ad g) :: rest)) (hR : fr + 1 ≤ R.frames ∧ 8 + (maxL + 11) + lo ≤ R.locals) (hW8 : (rest.map fun v => v.category).sum ≤ 8) (hdg : decode cc pc = .ok (.invokevirtual index, 3)) (hq : pc + 3 = q) (k : Jd p l e R s m args below meth c D N ad cel ok nL Q q lv (.long r :: rest) σ') : Jd p l e R s m args below meth c D N ad cel ok nL Q pc lv st σ := by
  subst hq; subst hav; subst hst
  intro hok ls H locs hl hP hS
  obtain ⟨hx, hb, hml, hown, hts, hK, hap, -, -, hNW⟩ := C
  refine va_calll (va_runV (As := As) (rest := rest) ⟨hx, hb, hml, hown, hts⟩ hM ⟨callB_of n hts (gWB hy.1) rfl rfl rfl (hts _ hy.2.2.2.1) (hts _ hl0) hy.2.2.2.2 hR, hts _ hy.2.1, hts _ hy.2.2.1⟩ ⟨fun a U g0 mk z => ⟨z.1, WP_call z.2⟩, hyc ▸ va_recv hK hP (q0 := g) hcl (wd_get hg hc), fun U hU hW => ⟨rfl, by rw [hU]; exact hP, ⟨va_K.moved hW.alike hK, NW_warm hW hNW⟩, hok⟩⟩ rfl hn hl.1 rfl (lv_room hW8) hdg ⟨Nat.le_refl _, Nat.le_refl _⟩) hS (fun _ _ h9 => h9) (fun _ h9 => h9) (fun r1 u t H1 locs1 ht hvm hw hB hz hk1 hS => ?_)
  obtain ⟨hP1, hok1⟩ := hB
  rw [ht] at hP1
  subst hw; exact k hok1 ls H1 locs1 hl hP1 hS
theorem J_callLS (C : Cx p s m args meth c cc nL own D tys N ad ret) {y : MethodName} {cc' : ByteArray} {maxL fr lo n index q : Nat} {av : List Value} {r : Int64} {σ' : Sg} {As : List Value} (hM : ML l D tys N ad cel ok y cc' maxL fr lo av σ r σ') (hy : okS y cc' maxL (some .long) n) (hl0 : Cond.methodLink own index y ∈ WA) (hav : av = As) (hn : As.length = n) {st : List Value} (hst : st = As.reverse ++ (rest)) (hR : fr + 1 ≤ R.frames ∧ 8 + (maxL + 11) + lo ≤ R.locals) (hW8 : (rest.map fun v => v.category).sum ≤ 8) (hdg : decode cc pc = .ok (.invokestatic index, 3)) (hq : pc + 3 = q) (k : Jd p l e R s m args below meth c D N ad cel ok nL Q q lv (.long r :: rest) σ') : Jd p l e R s m args below meth c D N ad cel ok nL Q pc lv st σ := by
  subst hq; subst hav; subst hst
  intro hok ls H locs hl hP hS
  obtain ⟨hx, hb, hml, hown, hts, hK, hap, -, -, hNW⟩ := C
  refine va_calll (va_runS (As := av) (rest := rest) ⟨hx, hb, hml, hown, hts⟩ hM ⟨callB_of n hts (gWB hy.1) rfl rfl rfl (hts _ hy.2.2.1) (hts _ hl0) hy.2.2.2 hR, hts _ hy.2.1⟩ ⟨fun a U g0 mk z => ⟨z.1, WP_call z.2⟩, fun U hU hW => ⟨rfl, by rw [hU]; exact hP, ⟨va_K.moved hW.alike hK, NW_warm hW hNW⟩, hok⟩⟩ rfl hn hl.1 rfl (lv_room hW8) hdg ⟨Nat.le_refl _, Nat.le_refl _⟩) hS (fun _ _ h9 => h9) (fun _ h9 => h9) (fun r1 u t H1 locs1 ht hvm hw hB hz hk1 hS => ?_)
  obtain ⟨hP1, hok1⟩ := hB
  rw [ht] at hP1
  subst hw; exact k hok1 ls H1 locs1 hl hP1 hS
theorem J_callXV (C : Cx p s m args meth c cc nL own D tys N ad ret) {y : MethodName} {cc' : ByteArray} {maxL fr lo n index q : Nat} {av : List Value} {σ' : Sg} {As : List Value} (hM : MV l D tys N ad cel ok y cc' maxL fr lo av σ σ') (hy : okV y cc' maxL none n) (hl0 : Cond.methodLink own index y ∈ WA) {Cn : String} {T : u_T} {Nf ci g : Nat} {fs : List Value} (hg : g < N) (hc : cel σ g = .inr (ci, fs)) (hcl : vwCl[ci]? = some (Cn, T, Nf)) (hyc : y.cls = Cn) (hav : av = .ref (ad g) :: As) (hn : As.length = n) {st : List Value} (hst : st = As.reverse ++ (.ref (ad g) :: rest)) (hR : fr + 1 ≤ R.frames ∧ 8 + (maxL + 11) + lo ≤ R.locals) (hW8 : (rest.map fun v => v.category).sum ≤ 8) (hdg : decode cc pc = .ok (.invokevirtual index, 3)) (hq : pc + 3 = q) (k : Jd p l e R s m args below meth c D N ad cel ok nL Q q lv (rest) σ') : Jd p l e R s m args below meth c D N ad cel ok nL Q pc lv st σ := by
  subst hq; subst hav; subst hst
  intro hok ls H locs hl hP hS
  obtain ⟨hx, hb, hml, hown, hts, hK, hap, -, -, hNW⟩ := C
  refine va_callv (va_runV (As := As) (rest := rest) ⟨hx, hb, hml, hown, hts⟩ hM ⟨callB_of n hts (gWB hy.1) rfl rfl rfl (hts _ hy.2.2.2.1) (hts _ hl0) hy.2.2.2.2 hR, hts _ hy.2.1, hts _ hy.2.2.1⟩ ⟨fun a U g0 mk z => ⟨z.1, WP_call z.2⟩, hyc ▸ va_recv hK hP (q0 := g) hcl (wd_get hg hc), fun U hU hW => ⟨rfl, by rw [hU]; exact hP, ⟨va_K.moved hW.alike hK, NW_warm hW hNW⟩, hok⟩⟩ rfl hn hl.1 rfl (lv_room hW8) hdg ⟨Nat.le_refl _, Nat.le_refl _⟩) hS (fun _ _ h9 => h9) (fun _ h9 => h9) (fun u t H1 locs1 ht hvm hw hB hz hk1 hS => ?_)
  obtain ⟨hP1, hok1⟩ := hB
  rw [ht] at hP1
  exact k hok1 ls H1 locs1 hl hP1 hS
theorem J_callXS (C : Cx p s m args meth c cc nL own D tys N ad ret) {y : MethodName} {cc' : ByteArray} {maxL fr lo n index q : Nat} {av : List Value} {σ' : Sg} {As : List Value} (hM : MV l D tys N ad cel ok y cc' maxL fr lo av σ σ') (hy : okS y cc' maxL none n) (hl0 : Cond.methodLink own index y ∈ WA) (hav : av = As) (hn : As.length = n) {st : List Value} (hst : st = As.reverse ++ (rest)) (hR : fr + 1 ≤ R.frames ∧ 8 + (maxL + 11) + lo ≤ R.locals) (hW8 : (rest.map fun v => v.category).sum ≤ 8) (hdg : decode cc pc = .ok (.invokestatic index, 3)) (hq : pc + 3 = q) (k : Jd p l e R s m args below meth c D N ad cel ok nL Q q lv (rest) σ') : Jd p l e R s m args below meth c D N ad cel ok nL Q pc lv st σ := by
  subst hq; subst hav; subst hst
  intro hok ls H locs hl hP hS
  obtain ⟨hx, hb, hml, hown, hts, hK, hap, -, -, hNW⟩ := C
  refine va_callv (va_runS (As := av) (rest := rest) ⟨hx, hb, hml, hown, hts⟩ hM ⟨callB_of n hts (gWB hy.1) rfl rfl rfl (hts _ hy.2.2.1) (hts _ hl0) hy.2.2.2 hR, hts _ hy.2.1⟩ ⟨fun a U g0 mk z => ⟨z.1, WP_call z.2⟩, fun U hU hW => ⟨rfl, by rw [hU]; exact hP, ⟨va_K.moved hW.alike hK, NW_warm hW hNW⟩, hok⟩⟩ rfl hn hl.1 rfl (lv_room hW8) hdg ⟨Nat.le_refl _, Nat.le_refl _⟩) hS (fun _ _ h9 => h9) (fun _ h9 => h9) (fun u t H1 locs1 ht hvm hw hB hz hk1 hS => ?_)
  obtain ⟨hP1, hok1⟩ := hB
  rw [ht] at hP1
  exact k hok1 ls H1 locs1 hl hP1 hS
theorem J_callRV (C : Cx p s m args meth c cc nL own D tys N ad ret) {y : MethodName} {cc' : ByteArray} {maxL fr lo n index q : Nat} {ty : FieldType} {av : List Value} {r : Option Nat} {σ' : Sg} {As : List Value} (hM : MR l D tys N ad cel ok y cc' maxL ty fr lo av σ r σ') (hy : okV y cc' maxL (some ty) n) (hl0 : Cond.methodLink own index y ∈ WA) {Cn : String} {T : u_T} {Nf ci g : Nat} {fs : List Value} (hg : g < N) (hc : cel σ g = .inr (ci, fs)) (hcl : vwCl[ci]? = some (Cn, T, Nf)) (hyc : y.cls = Cn) (hav : av = .ref (ad g) :: As) (hn : As.length = n) {st : List Value} (hst : st = As.reverse ++ (.ref (ad g) :: rest)) (hR : fr + 1 ≤ R.frames ∧ 8 + (maxL + 11) + lo ≤ R.locals) (hW8 : (rest.map fun v => v.category).sum ≤ 8) (hdg : decode cc pc = .ok (.invokevirtual index, 3)) (hq : pc + 3 = q) (k : Jd p l e R s m args below meth c D N ad cel ok nL Q q lv (va_rf (r.map ad) :: rest) σ') : Jd p l e R s m args below meth c D N ad cel ok nL Q pc lv st σ := by
  subst hq; subst hav; subst hst
  intro hok ls H locs hl hP hS
  obtain ⟨hx, hb, hml, hown, hts, hK, hap, -, -, hNW⟩ := C
  refine va_callq (va_runV (As := As) (rest := rest) ⟨hx, hb, hml, hown, hts⟩ hM ⟨callB_of n hts (gWB hy.1) rfl rfl rfl (hts _ hy.2.2.2.1) (hts _ hl0) hy.2.2.2.2 hR, hts _ hy.2.1, hts _ hy.2.2.1⟩ ⟨fun a U g0 mk z => ⟨z.1, WP_call z.2⟩, hyc ▸ va_recv hK hP (q0 := g) hcl (wd_get hg hc), fun U hU hW => ⟨rfl, by rw [hU]; exact hP, ⟨va_K.moved hW.alike hK, NW_warm hW hNW⟩, hok⟩⟩ rfl hn hl.1 rfl (lv_room hW8) hdg ⟨Nat.le_refl _, Nat.le_refl _⟩) hS (fun _ _ h9 => h9) (fun _ h9 => h9) (fun r1 u t H1 locs1 ht hvm hw hB hz hk1 hS => ?_)
  obtain ⟨hP1, hok1⟩ := hB
  rw [ht] at hP1
  subst hw; exact k hok1 ls H1 locs1 hl hP1 hS
theorem J_callRS (C : Cx p s m args meth c cc nL own D tys N ad ret) {y : MethodName} {cc' : ByteArray} {maxL fr lo n index q : Nat} {ty : FieldType} {av : List Value} {r : Option Nat} {σ' : Sg} {As : List Value} (hM : MR l D tys N ad cel ok y cc' maxL ty fr lo av σ r σ') (hy : okS y cc' maxL (some ty) n) (hl0 : Cond.methodLink own index y ∈ WA) (hav : av = As) (hn : As.length = n) {st : List Value} (hst : st = As.reverse ++ (rest)) (hR : fr + 1 ≤ R.frames ∧ 8 + (maxL + 11) + lo ≤ R.locals) (hW8 : (rest.map fun v => v.category).sum ≤ 8) (hdg : decode cc pc = .ok (.invokestatic index, 3)) (hq : pc + 3 = q) (k : Jd p l e R s m args below meth c D N ad cel ok nL Q q lv (va_rf (r.map ad) :: rest) σ') : Jd p l e R s m args below meth c D N ad cel ok nL Q pc lv st σ := by
  subst hq; subst hav; subst hst
  intro hok ls H locs hl hP hS
  obtain ⟨hx, hb, hml, hown, hts, hK, hap, -, -, hNW⟩ := C
  refine va_callq (va_runS (As := av) (rest := rest) ⟨hx, hb, hml, hown, hts⟩ hM ⟨callB_of n hts (gWB hy.1) rfl rfl rfl (hts _ hy.2.2.1) (hts _ hl0) hy.2.2.2 hR, hts _ hy.2.1⟩ ⟨fun a U g0 mk z => ⟨z.1, WP_call z.2⟩, fun U hU hW => ⟨rfl, by rw [hU]; exact hP, ⟨va_K.moved hW.alike hK, NW_warm hW hNW⟩, hok⟩⟩ rfl hn hl.1 rfl (lv_room hW8) hdg ⟨Nat.le_refl _, Nat.le_refl _⟩) hS (fun _ _ h9 => h9) (fun _ h9 => h9) (fun r1 u t H1 locs1 ht hvm hw hB hz hk1 hS => ?_)
  obtain ⟨hP1, hok1⟩ := hB
  rw [ht] at hP1
  subst hw; exact k hok1 ls H1 locs1 hl hP1 hS
theorem J_st {st st' : List Value} (hst : st = st') (k : Jd p l e R s m args below meth c D N ad cel ok nL Q pc lv st' σ) : Jd p l e R s m args below meth c D N ad cel ok nL Q pc lv st σ := hst ▸ k
end JJ
theorem entI {l : Launch} {D : va_G} {tys : List (ClassId × FieldType)} {N : Nat} {ad : Nat → Nat} {cel : Sg → Nat → va_E} {ok : Sg → Prop} {y : MethodName} {cc : ByteArray} {maxL : Nat} {ty : FieldType} {fr lo : Nat} {av : List Value} {σ σ' : Sg} {r : Int32} (own : String) (hap : apN N ad) (hy : plainName y.cls = true) (hcl : y.cls = own) (hlen : (lg_sl av).length ≤ maxL) (K : ∀ (p : Program) (e : Env) (s : State) (m : MethodId) (args : Array Value) (below : List Frame) (meth : Method) (c : Code), Cx p s m args meth c cc maxL own D tys N ad (some ty) → Jd p l e (rmF fr lo) s m args below meth c D N ad cel ok maxL (MQ below (QI D tys N ad cel ok r σ') args s 0 0 (inA N ad)) 0 (lv_args 0 av) [] σ) : MI l D tys N ad cel ok y cc maxL ty fr lo av σ r σ' := by
  refine Met.ofW (cc := cc) (maxL := maxL) (ret := (some ty)) hy rfl ?_
  intro p e s m args below meth c s₁ B hml hv
  obtain ⟨rfl, hP, ⟨hK, hNW⟩, hok⟩ := hv
  have hts := atoms_spec B.pre
  subst hcl
  rw [lg_entry_eq]
  exact K p e s m _ below meth c ⟨B.exec, B.bytes, hml, findClass_of_methodNamed B.named, fun w hw => hts w (List.mem_cons_of_mem _ hw), hK, hap, B.returns, B.notSynchronized, hNW⟩ hok _ _ _ (lv_entry av hlen) hP va_S.rf
theorem entL {l : Launch} {D : va_G} {tys : List (ClassId × FieldType)} {N : Nat} {ad : Nat → Nat} {cel : Sg → Nat → va_E} {ok : Sg → Prop} {y : MethodName} {cc : ByteArray} {maxL : Nat} {fr lo : Nat} {av : List Value} {σ σ' : Sg} {r : Int64} (own : String) (hap : apN N ad) (hy : plainName y.cls = true) (hcl : y.cls = own) (hlen : (lg_sl av).length ≤ maxL) (K : ∀ (p : Program) (e : Env) (s : State) (m : MethodId) (args : Array Value) (below : List Frame) (meth : Method) (c : Code), Cx p s m args meth c cc maxL own D tys N ad (some .long) → Jd p l e (rmF fr lo) s m args below meth c D N ad cel ok maxL (MQ below (QL D tys N ad cel ok r σ') args s 0 0 (inA N ad)) 0 (lv_args 0 av) [] σ) : ML l D tys N ad cel ok y cc maxL fr lo av σ r σ' := by
  refine Met.ofW (cc := cc) (maxL := maxL) (ret := (some .long)) hy rfl ?_
  intro p e s m args below meth c s₁ B hml hv
  obtain ⟨rfl, hP, ⟨hK, hNW⟩, hok⟩ := hv
  have hts := atoms_spec B.pre
  subst hcl
  rw [lg_entry_eq]
  exact K p e s m _ below meth c ⟨B.exec, B.bytes, hml, findClass_of_methodNamed B.named, fun w hw => hts w (List.mem_cons_of_mem _ hw), hK, hap, B.returns, B.notSynchronized, hNW⟩ hok _ _ _ (lv_entry av hlen) hP va_S.rf
theorem entV {l : Launch} {D : va_G} {tys : List (ClassId × FieldType)} {N : Nat} {ad : Nat → Nat} {cel : Sg → Nat → va_E} {ok : Sg → Prop} {y : MethodName} {cc : ByteArray} {maxL : Nat} {fr lo : Nat} {av : List Value} {σ σ' : Sg}  (own : String) (hap : apN N ad) (hy : plainName y.cls = true) (hcl : y.cls = own) (hlen : (lg_sl av).length ≤ maxL) (K : ∀ (p : Program) (e : Env) (s : State) (m : MethodId) (args : Array Value) (below : List Frame) (meth : Method) (c : Code), Cx p s m args meth c cc maxL own D tys N ad none → Jd p l e (rmF fr lo) s m args below meth c D N ad cel ok maxL (MQ below (QV D tys N ad cel ok σ') args s 0 0 (inA N ad)) 0 (lv_args 0 av) [] σ) : MV l D tys N ad cel ok y cc maxL fr lo av σ σ' := by
  refine Met.ofW (cc := cc) (maxL := maxL) (ret := none) hy rfl ?_
  intro p e s m args below meth c s₁ B hml hv
  obtain ⟨rfl, hP, ⟨hK, hNW⟩, hok⟩ := hv
  have hts := atoms_spec B.pre
  subst hcl
  rw [lg_entry_eq]
  exact K p e s m _ below meth c ⟨B.exec, B.bytes, hml, findClass_of_methodNamed B.named, fun w hw => hts w (List.mem_cons_of_mem _ hw), hK, hap, B.returns, B.notSynchronized, hNW⟩ hok _ _ _ (lv_entry av hlen) hP va_S.rf
theorem entR {l : Launch} {D : va_G} {tys : List (ClassId × FieldType)} {N : Nat} {ad : Nat → Nat} {cel : Sg → Nat → va_E} {ok : Sg → Prop} {y : MethodName} {cc : ByteArray} {maxL : Nat} {ty : FieldType} {fr lo : Nat} {av : List Value} {σ σ' : Sg} {r : Option Nat} (own : String) (hap : apN N ad) (hy : plainName y.cls = true) (hcl : y.cls = own) (hlen : (lg_sl av).length ≤ maxL) (K : ∀ (p : Program) (e : Env) (s : State) (m : MethodId) (args : Array Value) (below : List Frame) (meth : Method) (c : Code), Cx p s m args meth c cc maxL own D tys N ad (some ty) → Jd p l e (rmF fr lo) s m args below meth c D N ad cel ok maxL (MQ below (QR D tys N ad cel ok r σ') args s 0 0 (inA N ad)) 0 (lv_args 0 av) [] σ) : MR l D tys N ad cel ok y cc maxL ty fr lo av σ r σ' := by
  refine Met.ofW (cc := cc) (maxL := maxL) (ret := (some ty)) hy rfl ?_
  intro p e s m args below meth c s₁ B hml hv
  obtain ⟨rfl, hP, ⟨hK, hNW⟩, hok⟩ := hv
  have hts := atoms_spec B.pre
  subst hcl
  rw [lg_entry_eq]
  exact K p e s m _ below meth c ⟨B.exec, B.bytes, hml, findClass_of_methodNamed B.named, fun w hw => hts w (List.mem_cons_of_mem _ hw), hK, hap, B.returns, B.notSynchronized, hNW⟩ hok _ _ _ (lv_entry av hlen) hP va_S.rf
