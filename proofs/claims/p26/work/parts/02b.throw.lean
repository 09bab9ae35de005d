/-! METHODS THAT MAY THROW: their outcome is Sum.inl k (the exception zexn k) or Sum.inr r; the memory behind it is told in both cases. -/
def zexn : Nat → String
  | 1 => "java/lang/IndexOutOfBoundsException"
  | 2 => "java/lang/IllegalArgumentException"
  | _ => "java/lang/IllegalStateException"
/-- the other case of an outcome -/
def zx {ρ β : Type} (q : Nat ⊕ ρ) (f : Nat → β) (g : ρ → β) : β := match q with
  | .inl k => f k
  | .inr r => g r
def zvI : Int32 → Option Value := fun r => some (.int r)
def zvJ : Int64 → Option Value := fun r => some (.long r)
def zvR (ad : Nat → Nat) : Nat → Option Value := fun r => some (.ref (ad r))
def zvD : UInt64 → Option Value := fun r => some (.double r)
def zvV : Unit → Option Value := fun _ => none
def zY (D : va_G) (cy : Nat → ClassId) (ad : Nat → Nat) (L : List Nat) (K len : Nat → Nat) {ρ : Type} (vo : ρ → Option Value) (o : Nat ⊕ ρ) (M : ZM) (sz : Nat) : Array Value → State → Outcome → State → Prop := fun _ st oc t =>
  ∃ r, o = .inr r ∧ oc = .returned (vo r) ∧ zWd D cy ad L K len M t.heap ∧ va_F (zA ad L sz) st t
def zX (D : va_G) (cy : Nat → ClassId) (ad : Nat → Nat) (L : List Nat) (K len : Nat → Nat) {ρ : Type} (o : Nat ⊕ ρ) (M : ZM) (sz : Nat) : String → State → State → Prop := fun E st t =>
  ∃ k, o = .inl k ∧ E = zexn k ∧ zWd D cy ad L K len M t.heap ∧ va_F (zA ad L sz) st t
theorem zY_wd {D : va_G} {cy : Nat → ClassId} {ad : Nat → Nat} {L : List Nat} {K len : Nat → Nat} {M : ZM} {H H' : Heap} (hW : zWd D cy ad L K len M H) (h : ∀ q : Nat, q < H.size → H'[q]? = H[q]?) : zWd D cy ad L K len M H' :=
  va_P.kept hW (fun k q hk => h q.1 (hW k q hk).lt)
section ZT
variable {p : Program} {l : Launch} {e : Env} {R : Room} {s : State} {m : MethodId} {args : Array Value} {below : List Frame} {meth : Method} {c : Code} {H : Heap} {locs : List Loc} {cells slots : Nat} {Q : State → Prop}
variable {cc : ByteArray} {pc : Nat} {ls : Array Slot} {rest : List Value} {D : va_G} {cy : Nat → ClassId} {ad : Nat → Nat} {L : List Nat} {K len : Nat → Nat} {a : Nat} {M M' : ZM}
theorem z_xcall (hS : va_S (zA ad L s.heap.size) s.heap H locs) {mc ms : Nat} {st0 : List Value} {ρ : Type} {vo : ρ → Option Value} {o : Nat ⊕ ρ} {av : Array Value} (hr : vx_Run p l e R s m args below meth c H locs cells slots mc ms (F0 m pc ls st0) rest (zY D cy ad L K len vo o M' H.size av) (zX D cy ad L K len o M' H.size) (zA ad L H.size))
    (kx : ∀ k, o = .inl k → ∀ (H : Heap) (locs : List Loc) (q : Addr) (ce : Cell), zWd D cy ad L K len M' H → va_S (zA ad L s.heap.size) s.heap H locs → H[q]? = some ce → ce.vm = .none → s.vm.findClass (zexn k) = some ce.cls → vx_W p l e R s m args below meth c H locs (cells + mc) (slots + ms) Q (F0 m pc ls rest) q)
    (kk : ∀ r, o = .inr r → ∀ (H : Heap) (locs : List Loc), zWd D cy ad L K len M' H → va_S (zA ad L s.heap.size) s.heap H locs → W p l e R s m args below meth c H locs (cells + mc) (slots + ms) Q (F0 m (pc + 3) ls ((vo r).toList ++ rest))) : W p l e R s m args below meth c H locs cells slots Q (F0 m pc ls st0) := by
  intro T hT X
  have hs9 : ∀ (t T' : State) (st₀ : State) (L9 : List Loc), st₀.heap = H → T'.heap = t.heap → va_F (zA ad L H.size) st₀ t → (∀ q ∈ L9, zA ad L H.size q.base) → va_S (zA ad L s.heap.size) s.heap T'.heap (locs ++ L9) := by
    intro t T' st₀ L9 h0 e1 hF hL
    obtain ⟨hz, hk⟩ := hF
    rw [h0] at hz hk
    refine ⟨Nat.le_trans hS.1 (by rw [e1]; exact hz), fun q h1 h2 => ?_, fun q hq => ?_⟩
    · rw [e1, hk q (Nat.lt_of_lt_of_le h1 hS.1) (fun z => h2 (zA_mono hS.1 q z))]
      exact hS.2.1 q h1 h2
    · rcases List.mem_append.mp hq with h | h
      · exact hS.2.2 q h
      · exact zA_mono hS.1 _ (hL q h)
  rcases hr T hT X with ⟨v, st₀, t, T', L9, h0, X', hL, e1, e2, ⟨r, ho, hv, hw, hF⟩, st⟩ | ⟨q, st₀, t, T', L9, E, ce, h0, X', hL, e1, e2, ⟨k, ho, rfl, hw, hF⟩, hce, hcv, hcl, st⟩
  · cases hv
    obtain ⟨t2, a1, b1⟩ := kk r ho T'.heap (locs ++ L9) (by rw [e1]; exact hw) (hs9 t T' st₀ L9 h0 e1 hF hL) T' rfl X'
    exact ⟨t2, st t2 a1, b1⟩
  · obtain ⟨t2, a1, b1⟩ := kx k ho T'.heap (locs ++ L9) q ce (by rw [e1]; exact hw) (hs9 t T' st₀ L9 h0 e1 hF hL) (by rw [e1]; exact hce) hcv hcl T' rfl X'
    exact ⟨t2, st.trans a1, b1⟩
/-- it goes on to the caller -/
theorem z_xout {ρ : Type} {vo : ρ → Option Value} {o : Nat ⊕ ρ} {k mc ms : Nat} {q : Addr} {ce : Cell} (hex : ∀ x ∈ c.exceptionTable.toList, False) (hlocks : meth.locks = false) (ho : o = .inl k) (hM : M = M') (hW : zWd D cy ad L K len M H) (hS : va_S (zA ad L s.heap.size) s.heap H locs) (hcell : H[q]? = some ce) (hv : ce.vm = .none) (hcl : s.vm.findClass (zexn k) = some ce.cls) (hc : cells ≤ mc) (hs : slots ≤ ms) :
    vx_W p l e R s m args below meth c H locs cells slots (vx_MQ below (zY D cy ad L K len vo o M' s.heap.size) (zX D cy ad L K len o M' s.heap.size) args s mc ms (zA ad L s.heap.size)) (F0 m pc ls rest) q := by
  subst hM
  exact vx_out (fun x hx => (hex x hx).elim) hlocks hcell hv hcl (fun t ht _ => ⟨k, ho, rfl, (congrArg (zWd D cy ad L K len M) ht).mpr hW, hS.F ht⟩) hS.2.2 hc hs
theorem z_throw (hx : p.tables.exec = Jvm.exec) (hb : c.code = cc) (hl : l.stackTraces = false) {own : String} {text : String} {names : List String} {ik is ic mc ms k : Nat} {ρ : Type} {vo : ρ → Option Value} {o : Nat ⊕ ρ}
    (hown : s.vm.findClass own = some m.cls) (hcls : Bundle.fit (zexn k) = true) (hnames : ∀ n ∈ names, Bundle.fit n = true)
    (hk : (Cond.classLink own ik (zexn k)).before args s = true) (hini : (Cond.initialized (zexn k)).before args s = true) (hstr : ∃ sa, vk_R own is text sa s) (hat : ∀ w ∈ vx_atS own ic (zexn k) names, w.before args s = true)
    (hgood : ∀ w ∈ Cond.classLink own ik (zexn k) :: Cond.initialized (zexn k) :: vx_atS own ic (zexn k) names, vx_ot w = true)
    (hE : zEnv (zA ad L s.heap.size) s s.heap) (hW : zWd D cy ad L K len M H) (hS : va_S (zA ad L s.heap.size) s.heap H locs) (hsize : ls.size = c.maxLocals)
    (d0 : decode cc pc = .ok (.new ik, 3)) (d3 : decode cc (pc + 3) = .ok (.dup, 1)) (d4 : decode cc (pc + 4) = .ok (.ldc is, 2)) (d6 : decode cc (pc + 6) = .ok (.invokespecial ic, 3)) (d9 : decode cc (pc + 9) = .ok (.athrow, 1))
    (hex : ∀ x ∈ c.exceptionTable.toList, False) (ho : o = .inl k) (hM : M = M')
    (hRframes : names.length + 3 < R.frames) (hRlocals : (rest.map fun v => v.category).sum + (13 * (names.length + 1) + 43) ≤ R.locals) (hRcells : cells + 1 ≤ R.cells) (hRslots : slots + 6 ≤ R.slots) (hlocks : meth.locks = false)
    (hc : cells + 1 ≤ mc) (hs : slots + 6 ≤ ms) :
    W p l e R s m args below meth c H locs cells slots (vx_MQ below (zY D cy ad L K len vo o M' s.heap.size) (zX D cy ad L K len o M' s.heap.size) args s mc ms (zA ad L s.heap.size)) (F0 m pc ls rest) := by
  subst hM
  obtain ⟨sa, hstr⟩ := hstr
  exact vx_throwS hx hb hl hown hcls hnames hk hini hstr hat hgood hE.2.1 hE.2.2.1 hS hsize d0 d3 d4 d6 d9 (fun x hx => (hex x hx).elim) hRframes hRlocals hRcells hRslots hlocks
    (fun t _ hz hkq => ⟨k, ho, rfl, zY_wd hW hkq, ⟨Nat.le_trans hS.1 hz, fun q h1 h2 => by rw [hkq q (Nat.lt_of_lt_of_le h1 hS.1)]; exact hS.2.1 q h1 h2⟩⟩) hS.2.2 hc hs
theorem z_xiret {mc ms : Nat} (hx : p.tables.exec = Jvm.exec) (hb : c.code = cc) (hr : meth.sig.returnType = some .int) (hlocks : meth.locks = false) (hW : zWd D cy ad L K len M H) (hS : va_S (zA ad L s.heap.size) s.heap H locs) {v : Int32} {o : Nat ⊕ Int32} (ho : .inr v = o) (hM : M = M') (hdg : decode cc pc = .ok (.ireturn, 1)) (hc : cells ≤ mc) (hs : slots ≤ ms) : W p l e R s m args below meth c H locs cells slots (vx_MQ below (zY D cy ad L K len zvI o M' s.heap.size) (zX D cy ad L K len o M' s.heap.size) args s mc ms (zA ad L s.heap.size)) (F0 m pc ls [.int v]) := by
  subst ho; subst hM
  exact vx_ret (W.widen hc hs (W.iret hx hb hr (fun t ht _ => ⟨v, rfl, rfl, (congrArg (zWd D cy ad L K len M) ht).mpr hW, hS.F ht⟩) hS.2.2 hdg hlocks))
theorem z_xlret {mc ms : Nat} (hx : p.tables.exec = Jvm.exec) (hb : c.code = cc) (hr : meth.sig.returnType = some .long) (hlocks : meth.locks = false) (hW : zWd D cy ad L K len M H) (hS : va_S (zA ad L s.heap.size) s.heap H locs) {v : Int64} {o : Nat ⊕ Int64} (ho : .inr v = o) (hM : M = M') (hdg : decode cc pc = .ok (.lreturn, 1)) (hc : cells ≤ mc) (hs : slots ≤ ms) : W p l e R s m args below meth c H locs cells slots (vx_MQ below (zY D cy ad L K len zvJ o M' s.heap.size) (zX D cy ad L K len o M' s.heap.size) args s mc ms (zA ad L s.heap.size)) (F0 m pc ls [.long v]) := by
  subst ho; subst hM
  exact vx_ret (W.widen hc hs (W.lret hx hb hr (fun t ht _ => ⟨v, rfl, rfl, (congrArg (zWd D cy ad L K len M) ht).mpr hW, hS.F ht⟩) hS.2.2 hdg hlocks))
theorem z_xdret {mc ms : Nat} (hx : p.tables.exec = Jvm.exec) (hb : c.code = cc) (hr : meth.sig.returnType = some .double) (hlocks : meth.locks = false) (hW : zWd D cy ad L K len M H) (hS : va_S (zA ad L s.heap.size) s.heap H locs) {v : UInt64} {o : Nat ⊕ UInt64} (ho : .inr v = o) (hM : M = M') (hdg : decode cc pc = .ok (.dreturn, 1)) (hc : cells ≤ mc) (hs : slots ≤ ms) : W p l e R s m args below meth c H locs cells slots (vx_MQ below (zY D cy ad L K len zvD o M' s.heap.size) (zX D cy ad L K len o M' s.heap.size) args s mc ms (zA ad L s.heap.size)) (F0 m pc ls [.double v]) := by
  subst ho; subst hM
  exact vx_ret (W.widen hc hs (W.dret hx hb hr (fun t ht _ => ⟨v, rfl, rfl, (congrArg (zWd D cy ad L K len M) ht).mpr hW, hS.F ht⟩) hS.2.2 hdg hlocks))
theorem z_xaret {mc ms : Nat} (hx : p.tables.exec = Jvm.exec) (hb : c.code = cc) {C : String} (hr : meth.sig.returnType = some (.object C)) (hlocks : meth.locks = false) (hW : zWd D cy ad L K len M H) (hS : va_S (zA ad L s.heap.size) s.heap H locs) {v : Nat} {o : Nat ⊕ Nat} (ho : .inr v = o) (hM : M = M') (hdg : decode cc pc = .ok (.areturn, 1)) (hc : cells ≤ mc) (hs : slots ≤ ms) : W p l e R s m args below meth c H locs cells slots (vx_MQ below (zY D cy ad L K len (zvR ad) o M' s.heap.size) (zX D cy ad L K len o M' s.heap.size) args s mc ms (zA ad L s.heap.size)) (F0 m pc ls [.ref (ad v)]) := by
  subst ho; subst hM
  exact vx_ret (W.widen hc hs (W.aret hx hb hr (Or.inl ⟨_, rfl⟩) (Or.inr ⟨ad v, rfl⟩) (fun t ht _ => ⟨v, rfl, rfl, (congrArg (zWd D cy ad L K len M) ht).mpr hW, hS.F ht⟩) hS.2.2 hdg hlocks))
theorem z_xvret {mc ms : Nat} (hx : p.tables.exec = Jvm.exec) (hb : c.code = cc) (hr : meth.sig.returnType = none) (hlocks : meth.locks = false) (hW : zWd D cy ad L K len M H) (hS : va_S (zA ad L s.heap.size) s.heap H locs) {o : Nat ⊕ Unit} (ho : .inr () = o) (hM : M = M') (hdg : decode cc pc = .ok (.return_, 1)) (hc : cells ≤ mc) (hs : slots ≤ ms) : W p l e R s m args below meth c H locs cells slots (vx_MQ below (zY D cy ad L K len zvV o M' s.heap.size) (zX D cy ad L K len o M' s.heap.size) args s mc ms (zA ad L s.heap.size)) (F0 m pc ls []) := by
  subst ho; subst hM
  exact vx_ret (W.widen hc hs (W.vret hx hb hr (fun t ht _ => ⟨(), rfl, rfl, (congrArg (zWd D cy ad L K len M) ht).mpr hW, hS.F ht⟩) hS.2.2 hdg hlocks))
end ZT
/-- as zCx, and: no stack traces; no handlers -/
def zCxX (p : Program) (l : Launch) (s : State) (m : MethodId) (c : Code) (meth : Method) (args : Array Value) (cc : ByteArray) (nL : Nat) (Ts : List Cond) (own : String) (ret : Option FieldType) (D : va_G) (cy : Nat → ClassId) (ad : Nat → Nat) (L : List Nat) (K : Nat → Nat) : Prop :=
  zCx p s m c meth args cc nL Ts own ret D cy ad L K ∧ l.stackTraces = false ∧ ∀ x ∈ c.exceptionTable.toList, False
theorem z_xentry {l : Launch} (hl : l.stackTraces = false) {y : MethodName} {ws ws' : List Cond} {rm : Room} {cc : ByteArray} {nL : Nat} {ret : Option FieldType} {own : String} {D : va_G} {cy : Nat → ClassId} {ad : Nat → Nat} {L : List Nat} {K len : Nat → Nat} {av : List Value} {M : ZM} {Qf : Nat → Array Value → State → Outcome → State → Prop} {Xf : Nat → String → State → State → Prop} {mc ms sz : Nat}
    (hy : plainName y.cls = true) (hw : ws = Cond.code y cc nL ret :: ws') (ho : y.cls = own) (hL : zSh ad L K) (hn : (lg_sl av).length ≤ nL)
    (body : ∀ (p : Program) (e : Env) (s : State) (m : MethodId) (args : Array Value) (below : List Frame) (meth : Method) (c : Code), zCxX p l s m c meth args cc nL ws own ret D cy ad L K → ∀ (H : Heap) (locs : List Loc) (ls : Array Slot), zWd D cy ad L K len M H → va_S (zA ad L s.heap.size) s.heap H locs → lv_has ls nL (lv_args 0 av) → W p l e (headSpec ws rm).room s m args below meth c H locs 0 0 (vx_MQ below (Qf s.heap.size) (Xf s.heap.size) args s mc ms (zA ad L s.heap.size)) (F0 m 0 ls [])) : vx_Met l y ws rm (zPre D cy ad L K len sz av M) (Qf sz) (Xf sz) mc ms (zA ad L sz) := by
  refine vx_ofW (cc := cc) (maxL := nL) (ret := ret) hy hw ?_
  intro p e s m args below meth c s₁ B hml hex hv
  obtain ⟨rfl, hsz, hW, hK, hE⟩ := hv
  subst hsz
  rw [lg_entry_eq]
  exact body p e s m _ below meth c ⟨⟨B.exec, B.bytes, B.returns, hml, by rw [← ho]; exact findClass_of_methodNamed B.named, atoms_spec (ws := ws) B.pre, B.notSynchronized, hK, hL, hE⟩, hl, hex⟩ s.heap [] _ hW va_S.rf (lv_entry av hn)
theorem zx_l {ρ β : Type} {k : Nat} {f : Nat → β} {g : ρ → β} {r : β} (h : zx (.inl k) f g = r) : f k = r := h
theorem zx_r {ρ β : Type} {q : ρ} {f : Nat → β} {g : ρ → β} {r : β} (h : zx (.inr q) f g = r) : g q = r := h
/-- null, or an object -/
def zop {β : Type} (x : Option Nat) (A : β) (B : Nat → β) : β := match x with
  | none => A
  | some b => B b
theorem zop_c {β : Type} {x : Option Nat} {A : β} {B : Nat → β} {r : β} (h : zop x A B = r) : (x = none ∧ A = r) ∨ ∃ b, x = some b ∧ B b = r := by
  cases x with
  | none => exact Or.inl ⟨rfl, h⟩
  | some b => exact Or.inr ⟨b, rfl, h⟩
def znames : List String := ["java/lang/RuntimeException", "java/lang/Exception"]
theorem znames_fit : ∀ n ∈ znames, Bundle.fit n = true := by decide +kernel
theorem zfit1 : Bundle.fit (zexn 1) = true := by decide +kernel
theorem zfit2 : Bundle.fit (zexn 2) = true := by decide +kernel
theorem zfit3 : Bundle.fit (zexn 3) = true := by decide +kernel
section ZV
variable {p : Program} {l : Launch} {e : Env} {R : Room} {s : State} {m : MethodId} {args : Array Value} {below : List Frame} {meth : Method} {c : Code} {H : Heap} {locs : List Loc} {cells slots : Nat} {Q : State → Prop}
variable {cc : ByteArray} {pc : Nat} {ls : Array Slot} {rest : List Value} {D : va_G} {cy : Nat → ClassId} {ad : Nat → Nat} {L : List Nat} {K len : Nat → Nat} {a : Nat} {M M' : ZM}
theorem z_xcalli (hS : va_S (zA ad L s.heap.size) s.heap H locs) {mc ms : Nat} {st0 : List Value} {o : Nat ⊕ Int32} {av : Array Value} (hr : vx_Run p l e R s m args below meth c H locs cells slots mc ms (F0 m pc ls st0) rest (zY D cy ad L K len zvI o M' H.size av) (zX D cy ad L K len o M' H.size) (zA ad L H.size))
    (kx : ∀ k, o = .inl k → ∀ (H : Heap) (locs : List Loc) (q : Addr) (ce : Cell), zWd D cy ad L K len M' H → va_S (zA ad L s.heap.size) s.heap H locs → H[q]? = some ce → ce.vm = .none → s.vm.findClass (zexn k) = some ce.cls → vx_W p l e R s m args below meth c H locs (cells + mc) (slots + ms) Q (F0 m pc ls rest) q)
    (kk : ∀ r, o = .inr r → ∀ (H : Heap) (locs : List Loc), zWd D cy ad L K len M' H → va_S (zA ad L s.heap.size) s.heap H locs → W p l e R s m args below meth c H locs (cells + mc) (slots + ms) Q (F0 m (pc + 3) ls (.int r :: rest))) : W p l e R s m args below meth c H locs cells slots Q (F0 m pc ls st0) :=
  z_xcall hS hr kx (fun r hr H locs hW hS => kk r hr H locs hW hS)
theorem z_xcalll (hS : va_S (zA ad L s.heap.size) s.heap H locs) {mc ms : Nat} {st0 : List Value} {o : Nat ⊕ Int64} {av : Array Value} (hr : vx_Run p l e R s m args below meth c H locs cells slots mc ms (F0 m pc ls st0) rest (zY D cy ad L K len zvJ o M' H.size av) (zX D cy ad L K len o M' H.size) (zA ad L H.size))
    (kx : ∀ k, o = .inl k → ∀ (H : Heap) (locs : List Loc) (q : Addr) (ce : Cell), zWd D cy ad L K len M' H → va_S (zA ad L s.heap.size) s.heap H locs → H[q]? = some ce → ce.vm = .none → s.vm.findClass (zexn k) = some ce.cls → vx_W p l e R s m args below meth c H locs (cells + mc) (slots + ms) Q (F0 m pc ls rest) q)
    (kk : ∀ r, o = .inr r → ∀ (H : Heap) (locs : List Loc), zWd D cy ad L K len M' H → va_S (zA ad L s.heap.size) s.heap H locs → W p l e R s m args below meth c H locs (cells + mc) (slots + ms) Q (F0 m (pc + 3) ls (.long r :: rest))) : W p l e R s m args below meth c H locs cells slots Q (F0 m pc ls st0) :=
  z_xcall hS hr kx (fun r hr H locs hW hS => kk r hr H locs hW hS)
theorem z_xcallr (hS : va_S (zA ad L s.heap.size) s.heap H locs) {mc ms : Nat} {st0 : List Value} {o : Nat ⊕ Nat} {av : Array Value} (hr : vx_Run p l e R s m args below meth c H locs cells slots mc ms (F0 m pc ls st0) rest (zY D cy ad L K len (zvR ad) o M' H.size av) (zX D cy ad L K len o M' H.size) (zA ad L H.size))
    (kx : ∀ k, o = .inl k → ∀ (H : Heap) (locs : List Loc) (q : Addr) (ce : Cell), zWd D cy ad L K len M' H → va_S (zA ad L s.heap.size) s.heap H locs → H[q]? = some ce → ce.vm = .none → s.vm.findClass (zexn k) = some ce.cls → vx_W p l e R s m args below meth c H locs (cells + mc) (slots + ms) Q (F0 m pc ls rest) q)
    (kk : ∀ r, o = .inr r → ∀ (H : Heap) (locs : List Loc), zWd D cy ad L K len M' H → va_S (zA ad L s.heap.size) s.heap H locs → W p l e R s m args below meth c H locs (cells + mc) (slots + ms) Q (F0 m (pc + 3) ls (.ref (ad r) :: rest))) : W p l e R s m args below meth c H locs cells slots Q (F0 m pc ls st0) :=
  z_xcall hS hr kx (fun r hr H locs hW hS => kk r hr H locs hW hS)
theorem z_xcalld (hS : va_S (zA ad L s.heap.size) s.heap H locs) {mc ms : Nat} {st0 : List Value} {o : Nat ⊕ UInt64} {av : Array Value} (hr : vx_Run p l e R s m args below meth c H locs cells slots mc ms (F0 m pc ls st0) rest (zY D cy ad L K len zvD o M' H.size av) (zX D cy ad L K len o M' H.size) (zA ad L H.size))
    (kx : ∀ k, o = .inl k → ∀ (H : Heap) (locs : List Loc) (q : Addr) (ce : Cell), zWd D cy ad L K len M' H → va_S (zA ad L s.heap.size) s.heap H locs → H[q]? = some ce → ce.vm = .none → s.vm.findClass (zexn k) = some ce.cls → vx_W p l e R s m args below meth c H locs (cells + mc) (slots + ms) Q (F0 m pc ls rest) q)
    (kk : ∀ r, o = .inr r → ∀ (H : Heap) (locs : List Loc), zWd D cy ad L K len M' H → va_S (zA ad L s.heap.size) s.heap H locs → W p l e R s m args below meth c H locs (cells + mc) (slots + ms) Q (F0 m (pc + 3) ls (.double r :: rest))) : W p l e R s m args below meth c H locs cells slots Q (F0 m pc ls st0) :=
  z_xcall hS hr kx (fun r hr H locs hW hS => kk r hr H locs hW hS)
theorem z_xcallv (hS : va_S (zA ad L s.heap.size) s.heap H locs) {mc ms : Nat} {st0 : List Value} {o : Nat ⊕ Unit} {av : Array Value} (hr : vx_Run p l e R s m args below meth c H locs cells slots mc ms (F0 m pc ls st0) rest (zY D cy ad L K len zvV o M' H.size av) (zX D cy ad L K len o M' H.size) (zA ad L H.size))
    (kx : ∀ k, o = .inl k → ∀ (H : Heap) (locs : List Loc) (q : Addr) (ce : Cell), zWd D cy ad L K len M' H → va_S (zA ad L s.heap.size) s.heap H locs → H[q]? = some ce → ce.vm = .none → s.vm.findClass (zexn k) = some ce.cls → vx_W p l e R s m args below meth c H locs (cells + mc) (slots + ms) Q (F0 m pc ls rest) q)
    (kk : ∀ r, o = .inr r → ∀ (H : Heap) (locs : List Loc), zWd D cy ad L K len M' H → va_S (zA ad L s.heap.size) s.heap H locs → W p l e R s m args below meth c H locs (cells + mc) (slots + ms) Q (F0 m (pc + 3) ls rest)) : W p l e R s m args below meth c H locs cells slots Q (F0 m pc ls st0) :=
  z_xcall hS hr kx (fun r hr H locs hW hS => kk r hr H locs hW hS)
end ZV
