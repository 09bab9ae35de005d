/-! THE LAW'S WORLD: the object at x0 and all that it has made, from lo on, told by a state of yT. -/
def yA (lo : Nat) : Nat → Prop := fun q => lo ≤ q
def yWd (D : va_G) (cy : Nat → ClassId) (x0 lo : Nat) (T : yT) (H : Heap) : Prop :=
  ∃ (ad : Nat → Nat) (L : List Nat) (M : ZM) (sw : Bool) (nx : Nat), ad 0 = x0 ∧ (∀ a, a ∈ L ↔ a < 112 + 11 * yk T.1) ∧ zSh ad L (zKs (yk T.1)) ∧ (∀ a ∈ L, lo ≤ ad a) ∧ zWd D cy ad L (zKs (yk T.1)) (zln (yk T.1)) M H ∧ yRl T sw nx M
def yPre (D : va_G) (cy : Nat → ClassId) (x0 lo : Nat) (av : List Value) (T : yT) : Array Value → State → Prop := va_Pc av (fun U => lo ≤ U.heap.size ∧ yWd D cy x0 lo T U.heap ∧ va_K D vwCl (ztys cy) U ∧ zEnv (yA lo) U U.heap)
theorem yPre_blind {D : va_G} {cy : Nat → ClassId} {x0 lo : Nat} {av : List Value} {T : yT} : FrameBlind (yPre D cy x0 lo av T) := fun a U g mk q => ⟨q.1, q.2.1, q.2.2.1, va_K.moved (u := U) (U := U.calling g mk a) (Vm.Alike.refl U.vm) q.2.2.2.1, q.2.2.2.2.same rfl⟩
def yY (D : va_G) (cy : Nat → ClassId) (x0 lo : Nat) {ρ : Type} (vo : ρ → Option Value) (o : Nat ⊕ ρ) (T : yT) : Array Value → State → Outcome → State → Prop := fun _ st oc t => ∃ r, o = .inr r ∧ oc = .returned (vo r) ∧ yWd D cy x0 lo T t.heap ∧ va_F (yA lo) st t
def yX (D : va_G) (cy : Nat → ClassId) (x0 lo : Nat) {ρ : Type} (o : Nat ⊕ ρ) (T : yT) : String → State → State → Prop := fun E st t => ∃ k, o = .inl k ∧ E = zexn k ∧ yWd D cy x0 lo T t.heap ∧ va_F (yA lo) st t
def yQi (D : va_G) (cy : Nat → ClassId) (x0 lo : Nat) (r : Int32) (T : yT) : Array Value → State → Outcome → State → Prop := va_Qi (fun (x : Int32) (_ : Unit) => x = r) (fun _ t => yWd D cy x0 lo T t.heap) (yA lo)
def yQl (D : va_G) (cy : Nat → ClassId) (x0 lo : Nat) (r : Int64) (T : yT) : Array Value → State → Outcome → State → Prop := va_Ql (fun (x : Int64) (_ : Unit) => x = r) (fun _ t => yWd D cy x0 lo T t.heap) (yA lo)
theorem y_room {s : State} {pl : Platform} {r r' : Room} (h : r'.frames ≤ r.frames ∧ r'.cells ≤ r.cells ∧ r'.slots ≤ r.slots ∧ r'.locals ≤ r.locals) (g : s.hasRoom pl r = true) : s.hasRoom pl r' = true := by
  simp only [State.hasRoom, Bool.and_eq_true, decide_eq_true_eq] at g ⊢
  obtain ⟨⟨⟨⟨g1, g2, g3, g4, g5, g6⟩, g7⟩, g8⟩, g9⟩ := g
  exact ⟨⟨⟨⟨by omega, by omega, by omega, by omega, by omega, g6⟩, by omega⟩, by omega⟩, g9⟩
/-- a contract from others, one for each start -/
theorem y_mf {l : Launch} {y : MethodName} {ws : List Cond} {rm rm' : Room} {P : Array Value → State → Prop} {Q : Array Value → State → Outcome → State → Prop} (hr : rm'.frames ≤ rm.frames ∧ rm'.cells ≤ rm.cells ∧ rm'.slots ≤ rm.slots ∧ rm'.locals ≤ rm.locals)
    (h : ∀ args s, P args s → ∃ (P' : Array Value → State → Prop) (Q' : Array Value → State → Outcome → State → Prop), MetFree l y (headSpec ws rm') P' (fun _ _ _ _ _ => True) Q' ∧ P' args s ∧ ∀ o t, Q' args s o t → Q args s o t) : MetFree l y (headSpec ws rm) P (fun _ _ _ _ _ => True) Q := by
  intro p e ha hc hk s m args below hf happ hP _
  obtain ⟨P', Q', hM, hP', hQ⟩ := h args s hP
  have happ' : (headSpec ws rm').appliesLoose y e.platform s = true := by
    rw [Spec.appliesLoose_iff hf] at happ ⊢
    obtain ⟨a, b, c, d, e1, f, g, i⟩ := happ
    exact ⟨a, b, c, d, e1, f, y_room hr g, i⟩
  obtain ⟨n, o, h1, h2, h3, h4⟩ := hM p e ha hc hk s m args below hf happ' hP' trivial
  exact ⟨n, o, h1, h2, h3, hQ _ _ h4⟩
theorem y_zA {ad : Nat → Nat} {L : List Nat} {lo sz : Nat} (h : ∀ a ∈ L, lo ≤ ad a) (hz : lo ≤ sz) : ∀ q, zA ad L sz q → yA lo q := fun q z => z.elim (fun ⟨a, ha, e⟩ => by rw [e]; exact h a ha) (fun z => Nat.le_trans hz z)
theorem y_F {A B : Nat → Prop} {st t : State} (hA : ∀ q, A q → B q) (h : va_F A st t) : va_F B st t := ⟨h.1, fun q h1 h2 => h.2 q h1 (fun z => h2 (hA q z))⟩
theorem y_fr {st t : State} {o : Outcome} {L : List Loc} {k n k' n' : Nat} (h1 : k ≤ k') (h2 : n ≤ n') (h : FrameEnd st o t L k n) : FrameEnd st o t L k' n' := ⟨h.1, h.2.1, h.2.2.mono h1 h2⟩
section YC
variable {l : Launch} {y : MethodName} {ws : List Cond} {rm : Room} {D : va_G} {cy : Nat → ClassId} {x0 lo : Nat} {T T' : yT} {As : List Value} {mc ms : Nat}
/-- a call of the class, in words of the state -/
theorem y_cl {ρ : Type} {vo : ρ → Option Value} {o : Nat ⊕ ρ} (h : ∀ (ad : Nat → Nat) (L : List Nat) (M : ZM) (sw : Bool) (nx : Nat), zSh ad L (zKs (yk T.1)) → yRl T sw nx M → ∃ M' sw' nx', yRl T' sw' nx' M' ∧ yk T'.1 = yk T.1 ∧ ∀ sz, vx_Met l y ws rm (zPre D cy ad L (zKs (yk T.1)) (zln (yk T.1)) sz (.ref (ad 0) :: As) M) (zY D cy ad L (zKs (yk T.1)) (zln (yk T.1)) vo o M' sz) (zX D cy ad L (zKs (yk T.1)) (zln (yk T.1)) o M' sz) mc ms (zA ad L sz)) : vx_Met l y ws rm (yPre D cy x0 lo (.ref x0 :: As) T) (yY D cy x0 lo vo o T') (yX D cy x0 lo o T') mc ms (yA lo) := by
  refine y_mf (rm' := rm) ⟨Nat.le_refl _, Nat.le_refl _, Nat.le_refl _, Nat.le_refl _⟩ (fun args s hP => ?_)
  obtain ⟨ea, hlo, ⟨ad, L, M, sw, nx, h0, hm, hL, hl2, hW, hR⟩, hK, hE⟩ := hP
  obtain ⟨M', sw', nx', hR', hk, hM⟩ := h ad L M sw nx hL hR
  have hA := y_zA hl2 hlo
  have wd : ∀ t : State, zWd D cy ad L (zKs (yk T.1)) (zln (yk T.1)) M' t.heap → yWd D cy x0 lo T' t.heap := fun t hw => ⟨ad, L, M', sw', nx', h0, by rw [hk]; exact hm, by rw [hk]; exact hL, hl2, by rw [hk]; exact hw, hR'⟩
  refine ⟨_, _, hM s.heap.size, ⟨by rw [h0]; exact ea, rfl, hW, hK, zEnv_narrow hE hA⟩, fun oc t hq => ?_⟩
  rcases hq with ⟨⟨r, e1, e2, e3, e4⟩, L9, hF, hL9⟩ | ⟨q, e0, E, ce, L9, ⟨k, e1, e2, e3, e4⟩, f1, f2, f3, f4, f5, f6⟩
  · exact Or.inl ⟨⟨r, e1, e2, wd t e3, y_F hA e4⟩, L9, hF, fun q hq => hA _ (hL9 q hq)⟩
  · exact Or.inr ⟨q, e0, E, ce, L9, ⟨k, e1, e2, wd t e3, y_F hA e4⟩, f1, f2, f3, f4, f5, fun q hq => hA _ (f6 q hq)⟩
/-- .. that doesn't throw -/
theorem y_cli {r : Int32} (h : ∀ (ad : Nat → Nat) (L : List Nat) (M : ZM) (sw : Bool) (nx : Nat), zSh ad L (zKs (yk T.1)) → yRl T sw nx M → ∀ sz, Met l y ws rm (zPre D cy ad L (zKs (yk T.1)) (zln (yk T.1)) sz (.ref (ad 0) :: As) M) (zQi D cy ad L (zKs (yk T.1)) (zln (yk T.1)) r M sz) mc ms (zA ad L sz)) : vx_Met l y ws rm (yPre D cy x0 lo (.ref x0 :: As) T) (yY D cy x0 lo zvI (.inr r) T) (yX D cy x0 lo (.inr r : Nat ⊕ Int32) T) mc ms (yA lo) := by
  refine y_mf (rm' := rm) ⟨Nat.le_refl _, Nat.le_refl _, Nat.le_refl _, Nat.le_refl _⟩ (fun args s hP => ?_)
  obtain ⟨ea, hlo, ⟨ad, L, M, sw, nx, h0, hm, hL, hl2, hW, hR⟩, hK, hE⟩ := hP
  have hA := y_zA hl2 hlo
  refine ⟨_, _, h ad L M sw nx hL hR s.heap.size, ⟨by rw [h0]; exact ea, rfl, hW, hK, zEnv_narrow hE hA⟩, fun oc t hq => ?_⟩
  obtain ⟨⟨⟨x, u, e1, e2, e3⟩, e4⟩, L9, hF, hL9⟩ := hq
  subst e2
  exact Or.inl ⟨⟨x, rfl, e1, ⟨ad, L, M, sw, nx, h0, hm, hL, hl2, e3, hR⟩, y_F hA e4⟩, L9, hF, fun q hq => hA _ (hL9 q hq)⟩
end YC
/-- go on if p holds -/
noncomputable def yg {α : Type} (p : Prop) (x : Option α) : Option α := @ite _ p (Classical.propDecidable p) x none
theorem yg_t {α : Type} {p : Prop} {x : Option α} (h : p) : yg p x = x := if_pos h
theorem yg_some {α : Type} {p : Prop} {x : Option α} {r : α} (h : yg p x = some r) : p ∧ x = some r := by
  unfold yg at h
  by_cases q : p
  · rw [if_pos q] at h; exact ⟨q, h⟩
  · rw [if_neg q] at h; cases h
theorem yb01 {b : Int32} (h : zbo b = true) : (bif b == 1 then 1 else 0 : Int32) = b := by
  simp only [zbo, Bool.or_eq_true, beq_iff_eq] at h
  rcases h with rfl | rfl <;> rfl
theorem yb01' {b : Int32} (h : zbo b = true) : b = 0 ∨ b = 1 := by
  simp only [zbo, Bool.or_eq_true, beq_iff_eq] at h
  exact h
/-! The calls, as the law makes them. -/
noncomputable def y_X6_sentences (T : yT) : Option ((Nat ⊕ Int32) × yT) := yg (yOk 512 T) (some (e_sentences T.1, T))
noncomputable def y_X6_steps (T : yT) : Option ((Nat ⊕ Int32) × yT) := yg (yOk 512 T) (some (e_steps T.1, T))
noncomputable def y_X6_words (T : yT) (p : Int32) : Option ((Nat ⊕ Int32) × yT) := yg (yOk 512 T) (some (e_words T.1 p, T))
noncomputable def y_X6_kind (T : yT) (p q : Int32) : Option ((Nat ⊕ Int32) × yT) := yg (yOk 512 T) (some (e_kind T.1 p q, T))
noncomputable def y_X6_weight (T : yT) (p : Int32) : Option ((Nat ⊕ Int32) × yT) := yg (yOk 512 T) (some (e_weight T.1 p, T))
noncomputable def y_X6_feature (T : yT) (p q r b : Int32) : Option ((Nat ⊕ Int32) × yT) := yg (yOk 512 T) (zg (zbo b) (some (e_feature T.1 p q r b, T)))
noncomputable def y_X6_score (T : yT) (p q r : Int32) : Option ((Nat ⊕ Int32) × yT) := yg (yOk 512 T) (some (e_score T.1 p q r, T))
noncomputable def y_X6_average (T : yT) (p : Int32) : Option ((Nat ⊕ UInt64) × yT) := yg (yOk 512 T) (some (e_average T.1 p, T))
noncomputable def y_X6_trees (T : yT) (p b : Int32) : Option ((Nat ⊕ Int32) × yT) := yg (yOk 512 T) (zg (zbo b) (some (e_trees T.1 p (b == 1), T)))
noncomputable def y_X6_best (T : yT) (p b : Int32) : Option ((Nat ⊕ Int32) × yT) := yg (yOk 512 T) (zg (zbo b) (some (e_best T.1 p (b == 1), T)))
noncomputable def y_X6_bestByTrying (T : yT) (p b : Int32) : Option ((Nat ⊕ Int32) × yT) := yg (yOk 512 T) (zg (zbo b) (some (e_best T.1 p (b == 1), T)))
noncomputable def y_X6_head (T : yT) (p b q : Int32) : Option ((Nat ⊕ Int32) × yT) := yg (yOk 512 T) (zg (zbo b) (some (e_head T.1 p (b == 1) q, T)))
noncomputable def y_X6_crossings (T : yT) (p : Int32) : Option ((Nat ⊕ Int32) × yT) := yg (yOk 512 T) (some (e_crossings T.1 p, T))
noncomputable def y_X6_ranked (T : yT) (p b q : Int32) : Option ((Nat ⊕ Int32) × yT) := yg (yOk 512 T) (zg (zbo b) (some (e_ranked T.1 p (b == 1) q, T)))
noncomputable def y_X6_rankedHead (T : yT) (p b q r : Int32) : Option ((Nat ⊕ Int32) × yT) := yg (yOk 512 T) (zg (zbo b) (some (e_rankedHead T.1 p (b == 1) q r, T)))
noncomputable def y_X6_matched (T : yT) (p : Int32) : Option ((Nat ⊕ Int32) × yT) := yg (yOk 512 T) (some (e_matched T.1 p, T))
noncomputable def y_X6_addSentence (T : yT) : Option ((Nat ⊕ Int32) × yT) := yg (yOk 512 T) (some (e_addSentence T))
noncomputable def y_X6_addWord (T : yT) (p q : Int32) : Option ((Nat ⊕ Int32) × yT) := yg (yOk 512 T) (some (e_addWord T p q))
noncomputable def y_X6_setWeight (T : yT) (p q : Int32) : Option ((Nat ⊕ Int32) × yT) := yg (yOk 512 T) (some (e_setWeight T p q))
noncomputable def y_X6_mark (T : yT) (p q r m : Int32) : Option ((Nat ⊕ Int32) × yT) := yg (yOk 512 T) (some (e_mark T p q r m))
noncomputable def y_X6_correct (T : yT) (p q r : Int32) : Option ((Nat ⊕ Int32) × yT) := yg (yOk 512 T) (some (e_correct T p q r))
noncomputable def y_X6_mend (T : yT) (p : Int32) : Option ((Nat ⊕ Int32) × yT) := yg (yOk 512 T) (some (e_mend T p))
noncomputable def y_X6_rollBack (T : yT) : Option ((Nat ⊕ Int32) × yT) := yg (yOk 512 T) (some (e_rollBack T))
/-! Rows of the law's methods. -/
section YR
variable {p : Program} {l : Launch} {e : Env} {R : Room} {s : State} {m : MethodId} {args : Array Value} {below : List Frame} {meth : Method} {c : Code} {H : Heap} {locs : List Loc} {cells slots : Nat} {Q : State → Prop}
variable {cc : ByteArray} {pc : Nat} {ls : Array Slot} {rest : List Value} {D : va_G} {cy : Nat → ClassId} {x0 lo : Nat} {T T' : yT}
def yCx (p : Program) (l : Launch) (s : State) (m : MethodId) (c : Code) (meth : Method) (args : Array Value) (cc : ByteArray) (nL : Nat) (Ts : List Cond) (own : String) (ret : Option FieldType) (D : va_G) (cy : Nat → ClassId) (lo : Nat) : Prop :=
  p.tables.exec = Jvm.exec ∧ c.code = cc ∧ meth.sig.returnType = ret ∧ c.maxLocals = nL ∧ s.vm.findClass own = some m.cls ∧ (∀ w ∈ Ts, w.before args s = true) ∧ meth.locks = false ∧ va_K D vwCl (ztys cy) s ∧ zEnv (yA lo) s s.heap ∧ lo ≤ s.heap.size ∧ l.stackTraces = false
theorem y_preS (hK : va_K D vwCl (ztys cy) s) (hE : zEnv (yA lo) s s.heap) (hlo : lo ≤ s.heap.size) (hW : yWd D cy x0 lo T H) (hS : va_S (yA lo) s.heap H locs) (As : List Value) : PreS s H (yPre D cy x0 lo As T) As :=
  ⟨yPre_blind, fun U hU hw => ⟨rfl, by rw [hU]; exact Nat.le_trans hlo hS.1, by rw [hU]; exact hW, va_K.moved hw.alike hK, by rw [hU]; exact hE.next hw hS (fun _ h => h)⟩⟩
theorem y_preV (hK : va_K D vwCl (ztys cy) s) (hE : zEnv (yA lo) s s.heap) (hlo : lo ≤ s.heap.size) (hW : yWd D cy x0 lo T H) (hS : va_S (yA lo) s.heap H locs) (As : List Value) : PreV s H RX6 x0 (yPre D cy x0 lo (.ref x0 :: As) T) As := by
  obtain ⟨ad, L, M, sw, nx, h0, hm, hL, hl2, hw, hR⟩ := id hW
  obtain ⟨q0, -, he⟩ := zpl_get (ad := ad) (E := zent cy ad (zKs (yk T.1)) (zln (yk T.1)) M) (hL.2.1 0 (by rw [zKs_0]; decide))
  rw [zent_obj (ci := 6) (zKs_0 _) (by decide), h0] at he
  exact ⟨yPre_blind, va_recv (q := (RX6, TX6, 7)) (ci := 6) hK (show va_P D vwCl (zpl ad L (zent cy ad (zKs (yk T.1)) (zln (yk T.1)) M)) H from hw) rfl he, fun U hU hw => ⟨rfl, by rw [hU]; exact Nat.le_trans hlo hS.1, by rw [hU]; exact hW, va_K.moved hw.alike hK, by rw [hU]; exact hE.next hw hS (fun _ h => h)⟩⟩
theorem y_calli (hS : va_S (yA lo) s.heap H locs) {mc ms : Nat} {st0 : List Value} {r : Int32} {av : Array Value} (hr : va_Run p l e R s m args below meth c H locs cells slots mc ms (F0 m pc ls st0) rest (yQi D cy x0 lo r T' av) (yA lo))
    (kk : ∀ (H : Heap) (locs : List Loc), yWd D cy x0 lo T' H → va_S (yA lo) s.heap H locs → W p l e R s m args below meth c H locs (cells + mc) (slots + ms) Q (F0 m (pc + 3) ls (.int r :: rest))) : W p l e R s m args below meth c H locs cells slots Q (F0 m pc ls st0) :=
  va_calli hr hS (fun q _ h => h) (fun q h => h) (fun x _ t H1 locs1 ht _ hp hb _ _ hS1 => by subst hp; subst ht; exact kk _ _ hb hS1)
theorem y_calll (hS : va_S (yA lo) s.heap H locs) {mc ms : Nat} {st0 : List Value} {r : Int64} {av : Array Value} (hr : va_Run p l e R s m args below meth c H locs cells slots mc ms (F0 m pc ls st0) rest (yQl D cy x0 lo r T' av) (yA lo))
    (kk : ∀ (H : Heap) (locs : List Loc), yWd D cy x0 lo T' H → va_S (yA lo) s.heap H locs → W p l e R s m args below meth c H locs (cells + mc) (slots + ms) Q (F0 m (pc + 3) ls (.long r :: rest))) : W p l e R s m args below meth c H locs cells slots Q (F0 m pc ls st0) :=
  va_calll hr hS (fun q _ h => h) (fun q h => h) (fun x _ t H1 locs1 ht _ hp hb _ _ hS1 => by subst hp; subst ht; exact kk _ _ hb hS1)
theorem y_xcall (hS : va_S (yA lo) s.heap H locs) {mc ms : Nat} {st0 : List Value} {ρ : Type} {vo : ρ → Option Value} {o : Nat ⊕ ρ} {av : Array Value} (hr : vx_Run p l e R s m args below meth c H locs cells slots mc ms (F0 m pc ls st0) rest (yY D cy x0 lo vo o T' av) (yX D cy x0 lo o T') (yA lo))
    (kx : ∀ k, o = .inl k → ∀ (H : Heap) (locs : List Loc) (q : Addr) (ce : Cell), yWd D cy x0 lo T' H → va_S (yA lo) s.heap H locs → H[q]? = some ce → ce.vm = .none → s.vm.findClass (zexn k) = some ce.cls → vx_W p l e R s m args below meth c H locs (cells + mc) (slots + ms) Q (F0 m pc ls rest) q)
    (kk : ∀ r, o = .inr r → ∀ (H : Heap) (locs : List Loc), yWd D cy x0 lo T' H → va_S (yA lo) s.heap H locs → W p l e R s m args below meth c H locs (cells + mc) (slots + ms) Q (F0 m (pc + 3) ls ((vo r).toList ++ rest))) : W p l e R s m args below meth c H locs cells slots Q (F0 m pc ls st0) := by
  intro T9 hT X
  have hs9 : ∀ (t T' : State) (st₀ : State) (L9 : List Loc), st₀.heap = H → T'.heap = t.heap → va_F (yA lo) st₀ t → (∀ q ∈ L9, yA lo q.base) → va_S (yA lo) s.heap T'.heap (locs ++ L9) := by
    intro t T' st₀ L9 h0 e1 hF hL
    obtain ⟨hz, hk⟩ := hF
    rw [h0] at hz hk
    refine ⟨Nat.le_trans hS.1 (by rw [e1]; exact hz), fun q h1 h2 => ?_, fun q hq => ?_⟩
    · rw [e1, hk q (Nat.lt_of_lt_of_le h1 hS.1) h2]
      exact hS.2.1 q h1 h2
    · rcases List.mem_append.mp hq with h | h
      · exact hS.2.2 q h
      · exact hL q h
  rcases hr T9 hT X with ⟨v, st₀, t, T', L9, h0, X', hL, e1, e2, ⟨r, ho, hv, hw, hF⟩, st⟩ | ⟨q, st₀, t, T', L9, E, ce, h0, X', hL, e1, e2, ⟨k, ho, rfl, hw, hF⟩, hce, hcv, hcl, st⟩
  · cases hv
    obtain ⟨t2, a1, b1⟩ := kk r ho T'.heap (locs ++ L9) (by rw [e1]; exact hw) (hs9 t T' st₀ L9 h0 e1 hF hL) T' rfl X'
    exact ⟨t2, st t2 a1, b1⟩
  · obtain ⟨t2, a1, b1⟩ := kx k ho T'.heap (locs ++ L9) q ce (by rw [e1]; exact hw) (hs9 t T' st₀ L9 h0 e1 hF hL) (by rw [e1]; exact hce) hcv hcl T' rfl X'
    exact ⟨t2, st.trans a1, b1⟩
theorem y_xcalli (hS : va_S (yA lo) s.heap H locs) {mc ms : Nat} {st0 : List Value} {o : Nat ⊕ Int32} {av : Array Value} (hr : vx_Run p l e R s m args below meth c H locs cells slots mc ms (F0 m pc ls st0) rest (yY D cy x0 lo zvI o T' av) (yX D cy x0 lo o T') (yA lo))
    (kx : ∀ k, o = .inl k → ∀ (H : Heap) (locs : List Loc) (q : Addr) (ce : Cell), yWd D cy x0 lo T' H → va_S (yA lo) s.heap H locs → H[q]? = some ce → ce.vm = .none → s.vm.findClass (zexn k) = some ce.cls → vx_W p l e R s m args below meth c H locs (cells + mc) (slots + ms) Q (F0 m pc ls rest) q)
    (kk : ∀ r, o = .inr r → ∀ (H : Heap) (locs : List Loc), yWd D cy x0 lo T' H → va_S (yA lo) s.heap H locs → W p l e R s m args below meth c H locs (cells + mc) (slots + ms) Q (F0 m (pc + 3) ls (.int r :: rest))) : W p l e R s m args below meth c H locs cells slots Q (F0 m pc ls st0) :=
  y_xcall hS hr kx (fun r hr H locs hW hS => kk r hr H locs hW hS)
theorem y_xcalld (hS : va_S (yA lo) s.heap H locs) {mc ms : Nat} {st0 : List Value} {o : Nat ⊕ UInt64} {av : Array Value} (hr : vx_Run p l e R s m args below meth c H locs cells slots mc ms (F0 m pc ls st0) rest (yY D cy x0 lo zvD o T' av) (yX D cy x0 lo o T') (yA lo))
    (kx : ∀ k, o = .inl k → ∀ (H : Heap) (locs : List Loc) (q : Addr) (ce : Cell), yWd D cy x0 lo T' H → va_S (yA lo) s.heap H locs → H[q]? = some ce → ce.vm = .none → s.vm.findClass (zexn k) = some ce.cls → vx_W p l e R s m args below meth c H locs (cells + mc) (slots + ms) Q (F0 m pc ls rest) q)
    (kk : ∀ r, o = .inr r → ∀ (H : Heap) (locs : List Loc), yWd D cy x0 lo T' H → va_S (yA lo) s.heap H locs → W p l e R s m args below meth c H locs (cells + mc) (slots + ms) Q (F0 m (pc + 3) ls (.double r :: rest))) : W p l e R s m args below meth c H locs cells slots Q (F0 m pc ls st0) :=
  y_xcall hS hr kx (fun r hr H locs hW hS => kk r hr H locs hW hS)
/-- ends -/
theorem y_iret {mc ms : Nat} (hx : p.tables.exec = Jvm.exec) (hb : c.code = cc) (hr : meth.sig.returnType = some .int) (hlocks : meth.locks = false) (hW : yWd D cy x0 lo T H) (hS : va_S (yA lo) s.heap H locs) {v r : Int32} (hv : v = r) (hM : T = T') (hdg : decode cc pc = .ok (.ireturn, 1)) (hc : cells ≤ mc) (hs : slots ≤ ms) : W p l e R s m args below meth c H locs cells slots (MQ below (yQi D cy x0 lo r T') args s mc ms (yA lo)) (F0 m pc ls [.int v]) := by
  subst hv; subst hM
  exact W.widen hc hs (W.iret hx hb hr (fun t ht _ => ⟨⟨v, (), rfl, rfl, (congrArg (yWd D cy x0 lo T) ht).mpr hW⟩, hS.F ht⟩) hS.2.2 hdg hlocks)
theorem y_zret {mc ms : Nat} (hx : p.tables.exec = Jvm.exec) (hb : c.code = cc) (hr : meth.sig.returnType = some .boolean) (hlocks : meth.locks = false) (hW : yWd D cy x0 lo T H) (hS : va_S (yA lo) s.heap H locs) {v r : Int32} (hn : zbo v = true) (hv : v = r) (hM : T = T') (hdg : decode cc pc = .ok (.ireturn, 1)) (hc : cells ≤ mc) (hs : slots ≤ ms) : W p l e R s m args below meth c H locs cells slots (MQ below (yQi D cy x0 lo r T') args s mc ms (yA lo)) (F0 m pc ls [.int v]) := by
  subst hv; subst hM
  exact W.widen hc hs (W.zret hx hb hr (zbo_nar hn) (fun t ht _ => ⟨⟨v, (), rfl, rfl, (congrArg (yWd D cy x0 lo T) ht).mpr hW⟩, hS.F ht⟩) hS.2.2 hdg hlocks)
theorem y_lret {mc ms : Nat} (hx : p.tables.exec = Jvm.exec) (hb : c.code = cc) (hr : meth.sig.returnType = some .long) (hlocks : meth.locks = false) (hW : yWd D cy x0 lo T H) (hS : va_S (yA lo) s.heap H locs) {v r : Int64} (hv : v = r) (hM : T = T') (hdg : decode cc pc = .ok (.lreturn, 1)) (hc : cells ≤ mc) (hs : slots ≤ ms) : W p l e R s m args below meth c H locs cells slots (MQ below (yQl D cy x0 lo r T') args s mc ms (yA lo)) (F0 m pc ls [.long v]) := by
  subst hv; subst hM
  exact W.widen hc hs (W.lret hx hb hr (fun t ht _ => ⟨⟨v, (), rfl, rfl, (congrArg (yWd D cy x0 lo T) ht).mpr hW⟩, hS.F ht⟩) hS.2.2 hdg hlocks)
theorem y_xiret {mc ms : Nat} (hx : p.tables.exec = Jvm.exec) (hb : c.code = cc) (hr : meth.sig.returnType = some .int) (hlocks : meth.locks = false) (hW : yWd D cy x0 lo T H) (hS : va_S (yA lo) s.heap H locs) {v : Int32} {o : Nat ⊕ Int32} (ho : .inr v = o) (hM : T = T') (hdg : decode cc pc = .ok (.ireturn, 1)) (hc : cells ≤ mc) (hs : slots ≤ ms) : W p l e R s m args below meth c H locs cells slots (vx_MQ below (yY D cy x0 lo zvI o T') (yX D cy x0 lo o T') args s mc ms (yA lo)) (F0 m pc ls [.int v]) := by
  subst ho; subst hM
  exact vx_ret (W.widen hc hs (W.iret hx hb hr (fun t ht _ => ⟨v, rfl, rfl, (congrArg (yWd D cy x0 lo T) ht).mpr hW, hS.F ht⟩) hS.2.2 hdg hlocks))
theorem y_xout {ρ : Type} {vo : ρ → Option Value} {o : Nat ⊕ ρ} {k mc ms : Nat} {q : Addr} {ce : Cell} (hex : ∀ x ∈ c.exceptionTable.toList, False) (hlocks : meth.locks = false) (ho : o = .inl k) (hM : T = T') (hW : yWd D cy x0 lo T H) (hS : va_S (yA lo) s.heap H locs) (hcell : H[q]? = some ce) (hv : ce.vm = .none) (hcl : s.vm.findClass (zexn k) = some ce.cls) (hc : cells ≤ mc) (hs : slots ≤ ms) :
    vx_W p l e R s m args below meth c H locs cells slots (vx_MQ below (yY D cy x0 lo vo o T') (yX D cy x0 lo o T') args s mc ms (yA lo)) (F0 m pc ls rest) q := by
  subst hM
  exact vx_out (fun x hx => (hex x hx).elim) hlocks hcell hv hcl (fun t ht _ => ⟨k, ho, rfl, (congrArg (yWd D cy x0 lo T) ht).mpr hW, hS.F ht⟩) hS.2.2 hc hs
end YR
theorem y_entry {l : Launch} (hlt : l.stackTraces = false) {y : MethodName} {ws ws' : List Cond} {rm : Room} {cc : ByteArray} {nL : Nat} {ret : Option FieldType} {own : String} {D : va_G} {cy : Nat → ClassId} {x0 lo : Nat} {av : List Value} {T : yT} {Qf : Array Value → State → Outcome → State → Prop} {mc ms : Nat}
    (hy : plainName y.cls = true) (hw : ws = Cond.code y cc nL ret :: ws') (ho : y.cls = own) (hn : (lg_sl av).length ≤ nL)
    (body : ∀ (p : Program) (e : Env) (s : State) (m : MethodId) (args : Array Value) (below : List Frame) (meth : Method) (c : Code), yCx p l s m c meth args cc nL ws own ret D cy lo → ∀ (H : Heap) (locs : List Loc) (ls : Array Slot), yWd D cy x0 lo T H → va_S (yA lo) s.heap H locs → lv_has ls nL (lv_args 0 av) → W p l e (headSpec ws rm).room s m args below meth c H locs 0 0 (MQ below Qf args s mc ms (yA lo)) (F0 m 0 ls [])) : Met l y ws rm (yPre D cy x0 lo av T) Qf mc ms (yA lo) := by
  refine Met.ofW (cc := cc) (maxL := nL) (ret := ret) hy hw ?_
  intro p e s m args below meth c s₁ B hml hv
  obtain ⟨rfl, hlo, hW, hK, hE⟩ := hv
  rw [lg_entry_eq]
  exact body p e s m _ below meth c ⟨B.exec, B.bytes, B.returns, hml, by rw [← ho]; exact findClass_of_methodNamed B.named, atoms_spec (ws := ws) B.pre, B.notSynchronized, hK, hE, hlo, hlt⟩ s.heap [] _ hW va_S.rf (lv_entry av hn)
theorem y_xentry {l : Launch} (hlt : l.stackTraces = false) {y : MethodName} {ws ws' : List Cond} {rm : Room} {cc : ByteArray} {nL : Nat} {ret : Option FieldType} {own : String} {D : va_G} {cy : Nat → ClassId} {x0 lo : Nat} {av : List Value} {T : yT} {Qf : Array Value → State → Outcome → State → Prop} {Xf : String → State → State → Prop} {mc ms : Nat}
    (hy : plainName y.cls = true) (hw : ws = Cond.code y cc nL ret :: ws') (ho : y.cls = own) (hn : (lg_sl av).length ≤ nL)
    (body : ∀ (p : Program) (e : Env) (s : State) (m : MethodId) (args : Array Value) (below : List Frame) (meth : Method) (c : Code), yCx p l s m c meth args cc nL ws own ret D cy lo → (∀ x ∈ c.exceptionTable.toList, False) → ∀ (H : Heap) (locs : List Loc) (ls : Array Slot), yWd D cy x0 lo T H → va_S (yA lo) s.heap H locs → lv_has ls nL (lv_args 0 av) → W p l e (headSpec ws rm).room s m args below meth c H locs 0 0 (vx_MQ below Qf Xf args s mc ms (yA lo)) (F0 m 0 ls [])) : vx_Met l y ws rm (yPre D cy x0 lo av T) Qf Xf mc ms (yA lo) := by
  refine vx_ofW (cc := cc) (maxL := nL) (ret := ret) hy hw ?_
  intro p e s m args below meth c s₁ B hml hex hv
  obtain ⟨rfl, hlo, hW, hK, hE⟩ := hv
  rw [lg_entry_eq]
  exact body p e s m _ below meth c ⟨B.exec, B.bytes, B.returns, hml, by rw [← ho]; exact findClass_of_methodNamed B.named, atoms_spec (ws := ws) B.pre, B.notSynchronized, hK, hE, hlo, hlt⟩ hex s.heap [] _ hW va_S.rf (lv_entry av hn)
theorem y_wentry {l : Launch} (hlt : l.stackTraces = false) {y : MethodName} {ws ws' : List Cond} {rm : Room} {cc : ByteArray} {nL : Nat} {ret : Option FieldType} {own : String} {hh : List (Nat × Nat × Nat × Nat)} {D : va_G} {cy : Nat → ClassId} {x0 lo : Nat} {av : List Value} {T : yT} {Qf : Array Value → State → Outcome → State → Prop} {mc ms : Nat}
    (hy : plainName y.cls = true) (hw : ws = Cond.codeWith y cc nL ret hh :: ws') (ho : y.cls = own) (hn : (lg_sl av).length ≤ nL)
    (body : ∀ (p : Program) (e : Env) (s : State) (m : MethodId) (args : Array Value) (below : List Frame) (meth : Method) (c : Code), yCx p l s m c meth args cc nL ws own ret D cy lo → c.exceptionTable.toList = tableOf hh → ∀ (H : Heap) (locs : List Loc) (ls : Array Slot), yWd D cy x0 lo T H → va_S (yA lo) s.heap H locs → lv_has ls nL (lv_args 0 av) → W p l e (headSpec ws rm).room s m args below meth c H locs 0 0 (MQ below Qf args s mc ms (yA lo)) (F0 m 0 ls [])) : Met l y ws rm (yPre D cy x0 lo av T) Qf mc ms (yA lo) := by
  refine va_MetW (cc := cc) (maxL := nL) (ret := ret) (hh := hh) hy hw ?_
  intro p e s m args below meth c s₁ B hml hv
  have ht := vx_table (x := y) B (atoms_spec (ws := ws) B.pre _ (by rw [hw]; exact List.mem_cons_self))
  obtain ⟨rfl, hlo, hW, hK, hE⟩ := hv
  rw [lg_entry_eq]
  exact body p e s m _ below meth c ⟨B.exec, B.bytes, B.returns, hml, by rw [← ho]; exact findClass_of_methodNamed B.named, atoms_spec (ws := ws) B.pre, B.notSynchronized, hK, hE, hlo, hlt⟩ ht s.heap [] _ hW va_S.rf (lv_entry av hn)
