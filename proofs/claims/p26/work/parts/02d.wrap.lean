/-! METHODS WITH A TABLE OF THEIR OWN (the law's wrappers). -/
def zCxW (p : Program) (s : State) (m : MethodId) (c : Code) (meth : Method) (args : Array Value) (cc : ByteArray) (nL : Nat) (Ts : List Cond) (own : String) (ret : Option FieldType) (D : va_G) (cy : Nat → ClassId) (ad : Nat → Nat) (L : List Nat) (K : Nat → Nat) (hh : List (Nat × Nat × Nat × Nat)) : Prop :=
  zCx p s m c meth args cc nL Ts own ret D cy ad L K ∧ c.exceptionTable.toList = tableOf hh
theorem z_wentry {l : Launch} {y : MethodName} {ws ws' : List Cond} {rm : Room} {cc : ByteArray} {nL : Nat} {ret : Option FieldType} {own : String} {hh : List (Nat × Nat × Nat × Nat)} {D : va_G} {cy : Nat → ClassId} {ad : Nat → Nat} {L : List Nat} {K len : Nat → Nat} {av : List Value} {M : ZM} {Qf : Nat → Array Value → State → Outcome → State → Prop} {mc ms sz : Nat}
    (hy : plainName y.cls = true) (hw : ws = Cond.codeWith y cc nL ret hh :: ws') (ho : y.cls = own) (hL : zSh ad L K) (hn : (lg_sl av).length ≤ nL)
    (body : ∀ (p : Program) (e : Env) (s : State) (m : MethodId) (args : Array Value) (below : List Frame) (meth : Method) (c : Code), zCxW p s m c meth args cc nL ws own ret D cy ad L K hh → ∀ (H : Heap) (locs : List Loc) (ls : Array Slot), zWd D cy ad L K len M H → va_S (zA ad L s.heap.size) s.heap H locs → lv_has ls nL (lv_args 0 av) → W p l e (headSpec ws rm).room s m args below meth c H locs 0 0 (MQ below (Qf s.heap.size) args s mc ms (zA ad L s.heap.size)) (F0 m 0 ls [])) : Met l y ws rm (zPre D cy ad L K len sz av M) (Qf sz) mc ms (zA ad L sz) := by
  refine va_MetW (cc := cc) (maxL := nL) (ret := ret) (hh := hh) hy hw ?_
  intro p e s m args below meth c s₁ B hml hv
  have ht := vx_table (x := y) B (atoms_spec (ws := ws) B.pre _ (by rw [hw]; exact List.mem_cons_self))
  obtain ⟨rfl, hsz, hW, hK, hE⟩ := hv
  subst hsz
  rw [lg_entry_eq]
  exact body p e s m _ below meth c ⟨⟨B.exec, B.bytes, B.returns, hml, by rw [← ho]; exact findClass_of_methodNamed B.named, atoms_spec (ws := ws) B.pre, B.notSynchronized, hK, hL, hE⟩, ht⟩ s.heap [] _ hW va_S.rf (lv_entry av hn)
