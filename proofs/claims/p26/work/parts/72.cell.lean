/-! cell: what the law draws out of its script; and small words. -/
def yus (x y : Int32) : Int32 := (x.toUInt32 >>> (y.toUInt32 &&& Int32.toUInt32 31)).toInt32
def yn64 (x : UInt64) : Bool := decide (x &&& 0x7fffffffffffffff ≤ 0x7ff0000000000000)
theorem yn64_of {x : UInt64} (h : yn64 x = true) : vf_n64 x := by
  unfold yn64 at h
  unfold vf_n64
  exact of_decide_eq_true h
def y_cellv (v k : Int32) : Int32 := (v ^^^ yus v 14) * 2081332533 + 61 * k
def y_cell (Lx : Nat) (xs : Nat → Int32) (k : Int32) : Option Int32 := if k < 0 then none else some (y_cellv (if Int32.ofNat Lx ≤ k then 25033 * (k + 21) else xs k.toNatClampNeg) k)
/-- as yPre, and the script lies at zb -/
def yPreC (D : va_G) (cy : Nat → ClassId) (x0 lo zb Lx : Nat) (xs : Nat → Int32) (av : List Value) (T : yT) : Array Value → State → Prop := va_Pc av (fun U => lo ≤ U.heap.size ∧ yWd D cy x0 lo T U.heap ∧ va_K D vwCl (ztys cy) U ∧ zEnv (yA lo) U U.heap ∧ va_X zb Lx xs U U.heap ∧ zb < lo ∧ Lx ≤ 260)
theorem yPreC_blind {D : va_G} {cy : Nat → ClassId} {x0 lo zb Lx : Nat} {xs : Nat → Int32} {av : List Value} {T : yT} : FrameBlind (yPreC D cy x0 lo zb Lx xs av T) := fun a U g mk q => ⟨q.1, q.2.1, q.2.2.1, va_K.moved (u := U) (U := U.calling g mk a) (Vm.Alike.refl U.vm) q.2.2.2.1, q.2.2.2.2.1.same rfl, va_X.moved (u := U) (U := U.calling g mk a) (Vm.Alike.refl U.vm) q.2.2.2.2.2.1, q.2.2.2.2.2.2⟩
theorem y_X {zb Lx : Nat} {xs : Nat → Int32} {s : State} {H : Heap} {locs : List Loc} {A : Nat → Prop} (h : va_X zb Lx xs s s.heap) (hbl : zb < s.heap.size) (hA : ¬ A zb) (hS : va_S A s.heap H locs) : va_X zb Lx xs s H := by
  obtain ⟨scr, h1, h2⟩ := h
  exact ⟨scr, (hS.2.1 zb hbl hA).trans h1, h2⟩
section YL
variable {p : Program} {l : Launch} {e : Env} {R : Room} {s : State} {m : MethodId} {args : Array Value} {below : List Frame} {meth : Method} {c : Code} {H : Heap} {locs : List Loc} {cells slots : Nat} {Q : State → Prop}
variable {D : va_G} {cy : Nat → ClassId} {x0 lo zb Lx : Nat} {xs : Nat → Int32} {T : yT}
theorem y_preC (hK : va_K D vwCl (ztys cy) s) (hE : zEnv (yA lo) s s.heap) (hlo : lo ≤ s.heap.size) (hX : va_X zb Lx xs s s.heap) (hbl : zb < lo) (hLx : Lx ≤ 260) (hW : yWd D cy x0 lo T H) (hS : va_S (yA lo) s.heap H locs) (i : Int32) : PreS s H (yPreC D cy x0 lo zb Lx xs [.ref zb, .int i] T) [.ref zb, .int i] :=
  ⟨yPreC_blind, fun U hU hw => ⟨rfl, by rw [hU]; exact Nat.le_trans hlo hS.1, by rw [hU]; exact hW, va_K.moved hw.alike hK, by rw [hU]; exact hE.next hw hS (fun _ h => h), by rw [hU]; exact va_X.moved hw.alike (y_X hX (Nat.lt_of_lt_of_le hbl hlo) (Nat.not_le.mpr hbl) hS), hbl, hLx⟩⟩
end YL
set_option maxRecDepth 100000 in
set_option maxHeartbeats 4000000 in
theorem m_L_cell (l : Launch) (hlt : l.stackTraces = false) {D : va_G} {cy : Nat → ClassId} {x0 lo zb Lx : Nat} {xs : Nat → Int32} {T : yT} {i r : Int32} (h : y_cell Lx xs i = some r) : Met l yL_cell wsL_cell ({ frames := 0, cells := 0, slots := 0, locals := 0 } : Room) (yPreC D cy x0 lo zb Lx xs [.ref zb, .int i] T) (yQi D cy x0 lo r T) 0 0 (yA lo) := by
  refine Met.ofW (cc := cL_cell) (maxL := 3) (ret := some .int) (by decide) rfl ?_
  intro p e s m args below meth c s₁ B hml hv
  obtain ⟨rfl, hlo, hW, hK, hE, hX, hbl, hLx⟩ := hv
  have hx := B.exec
  have hb := B.bytes
  have hr := B.returns
  have hown : s.vm.findClass RL = some m.cls := findClass_of_methodNamed B.named
  have hts := atoms_spec (ws := wsL_cell) B.pre
  have hlocks := B.notSynchronized
  have hS : va_S (yA lo) s.heap s.heap [] := va_S.rf
  have hbA : ¬ yA lo zb := Nat.not_le.mpr hbl
  have hbs : zb < s.heap.size := Nat.lt_of_lt_of_le hbl hlo
  have hl := lv_entry ([.ref zb, .int i]) (n := 3) (Nat.le_of_ble_eq_true rfl)
  rw [lg_entry_eq]
  generalize (lg_sl ([.ref zb, .int i]) ++ List.replicate (3 - (lg_sl ([.ref zb, .int i])).length) Slot.unset).toArray = ls at hl ⊢
  have hl : lv_has ls 3 [(0, .ref zb), (1, .int i)] := hl
  unfold y_cell at h
  by_cases hi : i < 0
  · rw [if_pos hi] at h; cases h
  rw [if_neg hi] at h
  have k20 : ∀ (v : Int32), y_cellv v i = r → ∀ ls : Array Slot, lv_has ls 3 [(0, .ref zb), (1, .int i)] → W p l e (headSpec wsL_cell ({ frames := 0, cells := 0, slots := 0, locals := 0 } : Room)).room s m #[Value.ref zb, Value.int i] below meth c s.heap [] 0 0 (MQ below (yQi D cy x0 lo r T) #[Value.ref zb, Value.int i] s 0 0 (yA lo)) (F0 m 20 ls [.int v]) := by
    intro v hv ls hl
    refine lv_istore_n (lv' := [(2, .int v), (0, .ref zb), (1, .int i)]) hx hb dL_cell_20 rfl hl (by decide) rfl (fun ls hl => ?_)
    refine lv_iload_n hx hb dL_cell_21 rfl (lv_at hl 0 rfl) ?_
    refine lv_iload_n hx hb dL_cell_22 rfl (lv_at hl 0 rfl) ?_
    refine lv_bipush (v := 14) hx hb dL_cell_23 (by decide) ?_
    refine lv_iushr (v := yus v 14) hx hb dL_cell_25 rfl ?_
    refine lv_ixor hx hb dL_cell_26 ?_
    refine lv_ldc hx hb hown (hts (.constant RL 7 (2081332533)) (by decide +kernel)) dL_cell_27 ?_
    refine lv_imul hx hb dL_cell_29 ?_
    refine lv_bipush (v := 61) hx hb dL_cell_30 (by decide) ?_
    refine lv_iload_n hx hb dL_cell_32 rfl (lv_at hl 2 rfl) ?_
    refine lv_imul hx hb dL_cell_33 ?_
    refine lv_iadd hx hb dL_cell_34 ?_
    exact y_iret hx hb hr hlocks hW hS hv rfl dL_cell_35 (Nat.le_refl _) (Nat.le_refl _)
  refine lv_iload_n hx hb dL_cell_0 rfl (lv_at hl 1 rfl) ?_
  refine lv_aload_n hx hb dL_cell_1 rfl (lv_at hl 0 rfl) ?_
  refine va_slen hx hb hX hbs hbA hS dL_cell_2 ?_
  refine lv_icmp_ge (tgt := 12) hx hb dL_cell_3 (by decide) (fun c1 => ?_) (fun c1 => ?_)
  · rw [if_pos c1] at h
    refine lv_sipush (v := 25033) hx hb dL_cell_12 (by decide) ?_
    refine lv_iload_n hx hb dL_cell_15 rfl (lv_at hl 1 rfl) ?_
    refine lv_bipush (v := 21) hx hb dL_cell_16 (by decide) ?_
    refine lv_iadd hx hb dL_cell_18 ?_
    refine lv_imul hx hb dL_cell_19 ?_
    exact k20 _ (Option.some.inj h) ls hl
  · rw [if_neg c1] at h
    obtain ⟨j, hj, rfl⟩ := nI_of hi
    have hjL : j < Lx := by
      rcases Nat.lt_or_ge j Lx with q | q
      · exact q
      · exact absurd (show Int32.ofNat Lx ≤ nI j from nI_le q hj) c1
    refine lv_aload_n hx hb dL_cell_6 rfl (lv_at hl 0 rfl) ?_
    refine lv_iload_n hx hb dL_cell_7 rfl (lv_at hl 1 rfl) ?_
    refine va_sld hx hb hX hbs hbA hS (vp_in_nI hjL (by omega)) dL_cell_8 ?_
    refine lv_goto (tgt := 20) hx hb dL_cell_9 (by decide) ?_
    exact k20 _ (Option.some.inj h) ls hl
