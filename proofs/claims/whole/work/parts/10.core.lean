/-! THE PURE STATE: cells by number (the order in which they were made), their sorts and lengths, the numbers and the pointers in them.
A run of a method over it is 'Ev': a judgement over the machine, with a rule an instruction. -/
abbrev qV : Type := Nat × Int
abbrev qS : Type := List (Nat × Int)
abbrev qM : Type := Int → Int → Int
abbrev qG : Type := qS × qM × qM
abbrev qX : Type := Launch × Nat × (Int → Int)
abbrev qI (v : Int) : Prop := -2147483648 ≤ v ∧ v ≤ 2147483647
abbrev qL (v : Int) : Prop := -9223372036854775808 ≤ v ∧ v ≤ 9223372036854775807
def qup (h : qM) (a i v : Int) : qM := fun b j => if b = a ∧ j = i then v else h b j
def qfl (h : qM) (a v : Int) : qM := fun b j => if b = a then v else h b j
def qsh (sh : qS) (a : Int) : Option (Nat × Int) := match a with
  | .ofNat k => sh[k]?
  | .negSucc _ => none
def qcl : List vw_C := [(RX0, TX0, 7), (RX1, TX1, 13), (RX2, TX2, 10), (RX3, TX3, 14), (RX4, TX4, 15), (RX5, TX5, 14), (RX6, TX6, 6), (RX7, TX7, 12), (RX8, TX8, 4), (RX9, TX9, 6), (RX10, TX10, 17), (RX11, TX11, 102)]
def qT (n : Nat) : u_T := match qcl[n]? with
  | some q => q.2.1
  | none => TX0
def qdt (d : String) : Nat := if d = "I" then 0 else if d = "J" then 1 else if d = "Z" then 3 else 9
def qrf (ρ : Int → Nat) (x : Int) : Option Nat := if x = -1 then none else some (ρ x)
def qcv (ρ : Int → Nat) (v : qV) : Value := match v.1 with
  | 0 => .int (Int32.ofInt v.2)
  | 1 => .long (Int64.ofInt v.2)
  | _ => va_rf (qrf ρ v.2)
def qok (n : Nat) (v : qV) : Prop := match v.1 with
  | 0 => qI v.2
  | 1 => qL v.2
  | _ => v.2 < n
def qfv (ρ : Int → Nat) (t : Nat) (x p : Int) : Value := match t with
  | 1 => .long (Int64.ofInt x)
  | 9 => va_rf (qrf ρ p)
  | _ => .int (Int32.ofInt x)
def qen (kA : Nat → ClassId) (ρ : Int → Nat) (p h : Int → Int) (c : Nat × Int) : va_E := match c.1 with
  | 0 => .inl (kA 0, c.2.toNat, .inl (fun i => Int32.ofInt (h i)))
  | 1 => .inl (kA 1, c.2.toNat, .inr (.inl (fun i => Int64.ofInt (h i))))
  | 2 => .inl (kA 2, c.2.toNat, .inl (fun i => Int32.ofInt (h i)))
  | 3 => .inl (kA 3, c.2.toNat, .inl (fun i => Int32.ofInt (h i)))
  | 4 => .inl (kA 4, c.2.toNat, .inr (.inr (.inr (.inr (fun i => qrf ρ (p i))))))
  | n + 5 => .inr (n, (List.range c.2.toNat).map (fun j => qfv ρ (qdt (qT n j).2.2.1) (h j) (p j)))
def qws (kA : Nat → ClassId) (ρ : Int → Nat) (g : qG) : va_W := g.1.mapIdx (fun k c => (ρ k, qen kA ρ (g.2.1 k) (g.2.2 k) c))
def qtg (kd : Nat) (i : Int) : Nat := match kd with
  | 0 => 0
  | 1 => 1
  | 2 => 2
  | 3 => 3
  | 4 => 9
  | n + 5 => qdt (qT n i.toNat).2.2.1
def qin (t : Nat) (v : Int) : Prop := match t with
  | 0 => qI v
  | 1 => qL v
  | 2 => -128 ≤ v ∧ v ≤ 127
  | 3 => 0 ≤ v ∧ v ≤ 1
  | _ => True
def qWT (g : qG) : Prop := ∀ (k : Nat) (c : Nat × Int), g.1[k]? = some c → (0 ≤ c.2 ∧ c.2 ≤ 100000) ∧ (∀ i : Int, qin (qtg c.1 i) (g.2.2 k i)) ∧ ∀ i : Int, g.2.1 k i < g.1.length
def qtys (kA : Nat → ClassId) : List (ClassId × FieldType) := [(kA 0, .int), (kA 1, .long), (kA 2, .byte), (kA 3, .boolean), (kA 4, .object RX8)]
def qstE (i : Int) : Int := [0, 1, 1, 1, 0, -1, -1, -1].getD i.toNat 0
def qstN (i : Int) : Int := [1, 1, 0, -1, -1, -1, 0, 1].getD i.toNat 0
def qstW (i : Int) : Int := [239, 66667, 427595, 263572, 217461239, 677454, 24384684, 508078, 3554917, 20194516, 1279278].getD i.toNat 0
/-- what is only read: the script (-2), and the rows of constants -/
def qro (X : qX) (a : Int) : Option (Nat × Int × (Int → Int)) := if a = -2 then some (0, X.2.1, X.2.2) else if a = -3 then some (0, 8, qstE) else if a = -4 then some (0, 8, qstN) else if a = -5 then some (1, 11, qstW) else none
def qrt (t : Nat) : FieldType := match t with
  | 0 => .int
  | _ => .long
def qrv (t : Nat) (v : Int) : Value := match t with
  | 0 => .int (Int32.ofInt v)
  | _ => .long (Int64.ofInt v)
def qss : List (String × String × String × Int) := [(RX2, "EAST_STEP", "[I", -3), (RX2, "NORTH_STEP", "[I", -4), (RX4, "ORDER_WORDS", "[J", -5)]
def qRo (X : qX) (B0 : Nat) (ρ : Int → Nat) (s : State) : Prop :=
  (∀ (a : Int) (t : Nat) (N : Int) (f : Int → Int), qro X a = some (t, N, f) → va_T (qrt t) (ρ a) N.toNat (fun j => qrv t (f j)) (fun q => B0 ≤ q) s s.heap ∧ (∀ j : Int, qin t (f j)) ∧ t ≤ 1 ∧ 0 ≤ N ∧ N ≤ 100000) ∧
  ∀ q ∈ qss, va_Z q.1 q.2.1 q.2.2.1 (.ref (ρ q.2.2.2)) (fun q => B0 ≤ q) s s.heap
def qNs (s : State) : Prop := (∀ (a : String) (i : Nat) (x : MethodName) (h : String), Cond.methodLinkNest a i x h ∈ lw_tbl → va_Nw (.methodLinkNest a i x h) s) ∧ va_AO RX8 s
def qWd (X : qX) (B0 : Nat) (D : va_G) (kA : Nat → ClassId) (ρ : Int → Nat) (s : State) (H : Heap) (locs : List Loc) (g : qG) : Prop :=
  va_K D qcl (qtys kA) s ∧ va_P D qcl (qws kA ρ g) H ∧ va_D (fun q => B0 ≤ q) (qws kA ρ g) ∧ va_S (fun q => B0 ≤ q) s.heap H locs ∧ B0 ≤ s.heap.size ∧ qRo X B0 ρ s ∧ qNs s ∧ qWT g
/-- the words that every method has -/
def qw : List Cond := lw_tbl.filter goodWord
def qCx (y : qMT) (p : Program) (s : State) (m : MethodId) (args : Array Value) (meth : Method) (c : Code) : Prop :=
  p.tables.exec = Jvm.exec ∧ c.code = y.2.1 ∧ meth.sig.returnType = y.2.2.2 ∧ c.maxLocals = y.2.2.1 ∧ s.vm.findClass y.1.cls = some m.cls ∧ (∀ w ∈ qw, w.before args s = true) ∧ meth.locks = false ∧ meth.name = y.1.name
def qlc (ρ : Int → Nat) : Nat → List qV → List (Nat × Value)
  | _, [] => []
  | i, v :: t => if v.1 = 8 then qlc ρ (i + 1) t else (i, qcv ρ v) :: qlc ρ (i + 1) t
def qQ (B0 : Nat) (D : va_G) (kA : Nat → ClassId) (ρ : Int → Nat) (n : Nat) (Q : Option qV → qG → Prop) : Array Value → State → Outcome → State → Prop := fun _ st o t =>
  ∃ (r : Option qV) (g' : qG) (ρ' : Int → Nat), Q r g' ∧ o = .returned (r.map (qcv ρ')) ∧ (∀ k : Int, k < n → ρ' k = ρ k) ∧ n ≤ g'.1.length ∧ va_P D qcl (qws kA ρ' g') t.heap ∧ va_D (fun q => B0 ≤ q) (qws kA ρ' g') ∧ qWT g' ∧ (∀ v ∈ r, qok g'.1.length v) ∧ va_F (fun q => B0 ≤ q) st t
/-- FROM HERE (method y at pc, locals L, stack S, cells g) the method comes to its end, with Q of the answer and the cells; it has d frames and rc cells of rs slots at most -/
def Ev (X : qX) (d rc rs : Nat) (y : qMT) (pc : Nat) (L S : List qV) (g : qG) (Q : Option qV → qG → Prop) : Prop :=
  ∀ (p : Program) (e : Env) (R : Room) (s : State) (m : MethodId) (args : Array Value) (below : List Frame) (meth : Method) (c : Code) (B0 : Nat) (D : va_G) (kA : Nat → ClassId) (ρ : Int → Nat) (H : Heap) (locs : List Loc) (cells slots : Nat) (ls : Array Slot),
    qCx y p s m args meth c → d ≤ R.frames ∧ 64 * d ≤ R.locals → cells + rc ≤ R.cells ∧ slots + rs ≤ R.slots → qWd X B0 D kA ρ s H locs g →
    (∀ v ∈ L, qok g.1.length v) → (∀ v ∈ S, qok g.1.length v) → lv_has ls y.2.2.1 (qlc ρ 0 L) →
    W p X.1 e R s m args below meth c H locs cells slots (MQ below (qQ B0 D kA ρ g.1.length Q) args s (cells + rc) (slots + rs) (fun q => B0 ≤ q)) (F0 m pc ls (S.map (qcv ρ)))
