/-! THE CLASS, in words of the state (by program: wip/p26/gen/geny.py). -/
theorem n_X6_sentences (l : Launch) (hlt : l.stackTraces = false) (N : Nat) (hN : 10000000 ≤ N) {D : va_G} {cy : Nat → ClassId} {x0 lo : Nat} {T T2 : yT} {o : Nat ⊕ Int32} (h : y_X6_sentences T = some (o, T2)) : vx_Met l yX6_sentences wsX6_sentences ({ frames := 0, cells := 0, slots := 0, locals := 0 } : Room) (yPre D cy x0 lo [.ref x0] T) (yY D cy x0 lo zvI o T2) (yX D cy x0 lo o T2) 0 0 (yA lo) := by
  obtain ⟨g, h⟩ := yg_some h
  obtain ⟨rfl, rfl⟩ := Prod.mk.inj (Option.some.inj h)
  exact y_cli (fun ad L M sw nx hL hR sz => m_X6_sentences l hL N (r_sentences hR) sz)
theorem n_X6_steps (l : Launch) (hlt : l.stackTraces = false) (N : Nat) (hN : 10000000 ≤ N) {D : va_G} {cy : Nat → ClassId} {x0 lo : Nat} {T T2 : yT} {o : Nat ⊕ Int32} (h : y_X6_steps T = some (o, T2)) : vx_Met l yX6_steps wsX6_steps ({ frames := 1, cells := 0, slots := 0, locals := 20 } : Room) (yPre D cy x0 lo [.ref x0] T) (yY D cy x0 lo zvI o T2) (yX D cy x0 lo o T2) 0 0 (yA lo) := by
  obtain ⟨g, h⟩ := yg_some h
  obtain ⟨rfl, rfl⟩ := Prod.mk.inj (Option.some.inj h)
  exact y_cli (fun ad L M sw nx hL hR sz => m_X6_steps l hL N (r_steps hR) sz)
theorem n_X6_words (l : Launch) (hlt : l.stackTraces = false) (N : Nat) (hN : 10000000 ≤ N) {D : va_G} {cy : Nat → ClassId} {x0 lo : Nat} {T T2 : yT} {o : Nat ⊕ Int32} {a1 : Int32} (h : y_X6_words T a1 = some (o, T2)) : vx_Met l yX6_words wsX6_words ({ frames := 7, cells := 1, slots := 6, locals := 112 } : Room) (yPre D cy x0 lo [.ref x0, .int a1] T) (yY D cy x0 lo zvI o T2) (yX D cy x0 lo o T2) 1 6 (yA lo) := by
  obtain ⟨g, h⟩ := yg_some h
  obtain ⟨rfl, rfl⟩ := Prod.mk.inj (Option.some.inj h)
  exact y_cl (fun ad L M sw nx hL hR => ⟨M, sw, nx, hR, rfl, fun sz => m_X6_words l hlt hL N (r_words hR g a1) sz⟩)
theorem n_X6_kind (l : Launch) (hlt : l.stackTraces = false) (N : Nat) (hN : 10000000 ≤ N) {D : va_G} {cy : Nat → ClassId} {x0 lo : Nat} {T T2 : yT} {o : Nat ⊕ Int32} {a1 : Int32} {a2 : Int32} (h : y_X6_kind T a1 a2 = some (o, T2)) : vx_Met l yX6_kind wsX6_kind ({ frames := 7, cells := 2, slots := 12, locals := 112 } : Room) (yPre D cy x0 lo [.ref x0, .int a1, .int a2] T) (yY D cy x0 lo zvI o T2) (yX D cy x0 lo o T2) 2 12 (yA lo) := by
  obtain ⟨g, h⟩ := yg_some h
  obtain ⟨rfl, rfl⟩ := Prod.mk.inj (Option.some.inj h)
  exact y_cl (fun ad L M sw nx hL hR => ⟨M, sw, nx, hR, rfl, fun sz => m_X6_kind l hlt hL N (r_kind hR g a1 a2) sz⟩)
theorem n_X6_weight (l : Launch) (hlt : l.stackTraces = false) (N : Nat) (hN : 10000000 ≤ N) {D : va_G} {cy : Nat → ClassId} {x0 lo : Nat} {T T2 : yT} {o : Nat ⊕ Int32} {a1 : Int32} (h : y_X6_weight T a1 = some (o, T2)) : vx_Met l yX6_weight wsX6_weight ({ frames := 7, cells := 1, slots := 6, locals := 110 } : Room) (yPre D cy x0 lo [.ref x0, .int a1] T) (yY D cy x0 lo zvI o T2) (yX D cy x0 lo o T2) 1 6 (yA lo) := by
  obtain ⟨g, h⟩ := yg_some h
  obtain ⟨rfl, rfl⟩ := Prod.mk.inj (Option.some.inj h)
  exact y_cl (fun ad L M sw nx hL hR => ⟨M, sw, nx, hR, rfl, fun sz => m_X6_weight l hlt hL N (r_weight hR a1) sz⟩)
theorem n_X6_feature (l : Launch) (hlt : l.stackTraces = false) (N : Nat) (hN : 10000000 ≤ N) {D : va_G} {cy : Nat → ClassId} {x0 lo : Nat} {T T2 : yT} {o : Nat ⊕ Int32} {a1 : Int32} {a2 : Int32} {a3 : Int32} {a4 : Int32} (h : y_X6_feature T a1 a2 a3 a4 = some (o, T2)) : vx_Met l yX6_feature wsX6_feature ({ frames := 8, cells := 3, slots := 18, locals := 133 } : Room) (yPre D cy x0 lo [.ref x0, .int a1, .int a2, .int a3, .int a4] T) (yY D cy x0 lo zvI o T2) (yX D cy x0 lo o T2) 3 18 (yA lo) := by
  obtain ⟨g, h⟩ := yg_some h
  obtain ⟨hb, h⟩ := zg_some h
  obtain ⟨rfl, rfl⟩ := Prod.mk.inj (Option.some.inj h)
  exact y_cl (fun ad L M sw nx hL hR => ⟨M, sw, nx, hR, rfl, fun sz => m_X6_feature l hlt hL N (r_feature hR g a1 a2 a3 (yb01' hb)) sz⟩)
theorem n_X6_score (l : Launch) (hlt : l.stackTraces = false) (N : Nat) (hN : 10000000 ≤ N) {D : va_G} {cy : Nat → ClassId} {x0 lo : Nat} {T T2 : yT} {o : Nat ⊕ Int32} {a1 : Int32} {a2 : Int32} {a3 : Int32} (h : y_X6_score T a1 a2 a3 = some (o, T2)) : vx_Met l yX6_score wsX6_score ({ frames := 8, cells := 3, slots := 18, locals := 133 } : Room) (yPre D cy x0 lo [.ref x0, .int a1, .int a2, .int a3] T) (yY D cy x0 lo zvI o T2) (yX D cy x0 lo o T2) 3 18 (yA lo) := by
  obtain ⟨g, h⟩ := yg_some h
  obtain ⟨rfl, rfl⟩ := Prod.mk.inj (Option.some.inj h)
  exact y_cl (fun ad L M sw nx hL hR => ⟨M, sw, nx, hR, rfl, fun sz => m_X6_score l hlt hL N (r_score hR g a1 a2 a3) sz⟩)
theorem n_X6_average (l : Launch) (hlt : l.stackTraces = false) (N : Nat) (hN : 10000000 ≤ N) {D : va_G} {cy : Nat → ClassId} {x0 lo : Nat} {T T2 : yT} {o : Nat ⊕ UInt64} {a1 : Int32} (h : y_X6_average T a1 = some (o, T2)) : vx_Met l yX6_average wsX6_average ({ frames := 7, cells := 1, slots := 6, locals := 110 } : Room) (yPre D cy x0 lo [.ref x0, .int a1] T) (yY D cy x0 lo zvD o T2) (yX D cy x0 lo o T2) 1 6 (yA lo) := by
  obtain ⟨g, h⟩ := yg_some h
  obtain ⟨rfl, rfl⟩ := Prod.mk.inj (Option.some.inj h)
  exact y_cl (fun ad L M sw nx hL hR => ⟨M, sw, nx, hR, rfl, fun sz => m_X6_average l hlt hL N (r_average hR a1) sz⟩)
theorem n_X6_trees (l : Launch) (hlt : l.stackTraces = false) (N : Nat) (hN : 10000000 ≤ N) {D : va_G} {cy : Nat → ClassId} {x0 lo : Nat} {T T2 : yT} {o : Nat ⊕ Int32} {a1 : Int32} {a2 : Int32} (h : y_X6_trees T a1 a2 = some (o, T2)) : vx_Met l yX6_trees wsX6_trees ({ frames := 14, cells := 1, slots := 6, locals := 370 } : Room) (yPre D cy x0 lo [.ref x0, .int a1, .int a2] T) (yY D cy x0 lo zvI o T2) (yX D cy x0 lo o T2) 1 6 (yA lo) := by
  obtain ⟨g, h⟩ := yg_some h
  obtain ⟨hb, h⟩ := zg_some h
  obtain ⟨rfl, rfl⟩ := Prod.mk.inj (Option.some.inj h)
  refine y_cl (fun ad L M sw nx hL hR => ?_)
  obtain ⟨M2, sw2, e, hR2⟩ := r_trees hN hR g a1 (a2 == 1)
  rw [yb01 hb] at e
  exact ⟨M2, sw2, nx, hR2, rfl, fun sz => m_X6_trees l hlt hL N e sz⟩
theorem n_X6_best (l : Launch) (hlt : l.stackTraces = false) (N : Nat) (hN : 10000000 ≤ N) {D : va_G} {cy : Nat → ClassId} {x0 lo : Nat} {T T2 : yT} {o : Nat ⊕ Int32} {a1 : Int32} {a2 : Int32} (h : y_X6_best T a1 a2 = some (o, T2)) : vx_Met l yX6_best wsX6_best ({ frames := 8, cells := 2, slots := 12, locals := 135 } : Room) (yPre D cy x0 lo [.ref x0, .int a1, .int a2] T) (yY D cy x0 lo zvI o T2) (yX D cy x0 lo o T2) 2 12 (yA lo) := by
  obtain ⟨g, h⟩ := yg_some h
  obtain ⟨hb, h⟩ := zg_some h
  obtain ⟨rfl, rfl⟩ := Prod.mk.inj (Option.some.inj h)
  refine y_cl (fun ad L M sw nx hL hR => ?_)
  obtain ⟨M2, sw2, e, hR2⟩ := r_best hN hR g a1 (a2 == 1)
  rw [yb01 hb] at e
  exact ⟨M2, sw2, nx, hR2, rfl, fun sz => m_X6_best l hlt hL N e sz⟩
theorem n_X6_bestByTrying (l : Launch) (hlt : l.stackTraces = false) (N : Nat) (hN : 10000000 ≤ N) {D : va_G} {cy : Nat → ClassId} {x0 lo : Nat} {T T2 : yT} {o : Nat ⊕ Int32} {a1 : Int32} {a2 : Int32} (h : y_X6_bestByTrying T a1 a2 = some (o, T2)) : vx_Met l yX6_bestByTrying wsX6_bestByTrying ({ frames := 14, cells := 2, slots := 12, locals := 370 } : Room) (yPre D cy x0 lo [.ref x0, .int a1, .int a2] T) (yY D cy x0 lo zvI o T2) (yX D cy x0 lo o T2) 2 12 (yA lo) := by
  obtain ⟨g, h⟩ := yg_some h
  obtain ⟨hb, h⟩ := zg_some h
  obtain ⟨rfl, rfl⟩ := Prod.mk.inj (Option.some.inj h)
  refine y_cl (fun ad L M sw nx hL hR => ?_)
  obtain ⟨M2, sw2, e, hR2⟩ := r_bestByTrying hN hR g a1 (a2 == 1)
  rw [yb01 hb] at e
  exact ⟨M2, sw2, nx, hR2, rfl, fun sz => m_X6_bestByTrying l hlt hL N e sz⟩
theorem n_X6_head (l : Launch) (hlt : l.stackTraces = false) (N : Nat) (hN : 10000000 ≤ N) {D : va_G} {cy : Nat → ClassId} {x0 lo : Nat} {T T2 : yT} {o : Nat ⊕ Int32} {a1 : Int32} {a2 : Int32} {a3 : Int32} (h : y_X6_head T a1 a2 a3 = some (o, T2)) : vx_Met l yX6_head wsX6_head ({ frames := 8, cells := 3, slots := 18, locals := 135 } : Room) (yPre D cy x0 lo [.ref x0, .int a1, .int a2, .int a3] T) (yY D cy x0 lo zvI o T2) (yX D cy x0 lo o T2) 3 18 (yA lo) := by
  obtain ⟨g, h⟩ := yg_some h
  obtain ⟨hb, h⟩ := zg_some h
  obtain ⟨rfl, rfl⟩ := Prod.mk.inj (Option.some.inj h)
  refine y_cl (fun ad L M sw nx hL hR => ?_)
  obtain ⟨M2, sw2, e, hR2⟩ := r_head hN hR g a1 (a2 == 1) a3
  rw [yb01 hb] at e
  exact ⟨M2, sw2, nx, hR2, rfl, fun sz => m_X6_head l hlt hL N e sz⟩
theorem n_X6_crossings (l : Launch) (hlt : l.stackTraces = false) (N : Nat) (hN : 10000000 ≤ N) {D : va_G} {cy : Nat → ClassId} {x0 lo : Nat} {T T2 : yT} {o : Nat ⊕ Int32} {a1 : Int32} (h : y_X6_crossings T a1 = some (o, T2)) : vx_Met l yX6_crossings wsX6_crossings ({ frames := 8, cells := 2, slots := 12, locals := 135 } : Room) (yPre D cy x0 lo [.ref x0, .int a1] T) (yY D cy x0 lo zvI o T2) (yX D cy x0 lo o T2) 2 12 (yA lo) := by
  obtain ⟨g, h⟩ := yg_some h
  obtain ⟨rfl, rfl⟩ := Prod.mk.inj (Option.some.inj h)
  refine y_cl (fun ad L M sw nx hL hR => ?_)
  obtain ⟨M2, sw2, e, hR2⟩ := r_crossings hN hR g a1
  exact ⟨M2, sw2, nx, hR2, rfl, fun sz => m_X6_crossings l hlt hL N e sz⟩
theorem n_X6_ranked (l : Launch) (hlt : l.stackTraces = false) (N : Nat) (hN : 10000000 ≤ N) {D : va_G} {cy : Nat → ClassId} {x0 lo : Nat} {T T2 : yT} {o : Nat ⊕ Int32} {a1 : Int32} {a2 : Int32} {a3 : Int32} (h : y_X6_ranked T a1 a2 a3 = some (o, T2)) : vx_Met l yX6_ranked wsX6_ranked ({ frames := 15, cells := 2, slots := 12, locals := 394 } : Room) (yPre D cy x0 lo [.ref x0, .int a1, .int a2, .int a3] T) (yY D cy x0 lo zvI o T2) (yX D cy x0 lo o T2) 2 12 (yA lo) := by
  obtain ⟨g, h⟩ := yg_some h
  obtain ⟨hb, h⟩ := zg_some h
  obtain ⟨rfl, rfl⟩ := Prod.mk.inj (Option.some.inj h)
  refine y_cl (fun ad L M sw nx hL hR => ?_)
  obtain ⟨M2, sw2, e, hR2⟩ := r_ranked hN hR g a1 (a2 == 1) a3
  rw [yb01 hb] at e
  exact ⟨M2, sw2, nx, hR2, rfl, fun sz => m_X6_ranked l hlt hL N e sz⟩
theorem n_X6_rankedHead (l : Launch) (hlt : l.stackTraces = false) (N : Nat) (hN : 10000000 ≤ N) {D : va_G} {cy : Nat → ClassId} {x0 lo : Nat} {T T2 : yT} {o : Nat ⊕ Int32} {a1 : Int32} {a2 : Int32} {a3 : Int32} {a4 : Int32} (h : y_X6_rankedHead T a1 a2 a3 a4 = some (o, T2)) : vx_Met l yX6_rankedHead wsX6_rankedHead ({ frames := 15, cells := 3, slots := 18, locals := 394 } : Room) (yPre D cy x0 lo [.ref x0, .int a1, .int a2, .int a3, .int a4] T) (yY D cy x0 lo zvI o T2) (yX D cy x0 lo o T2) 3 18 (yA lo) := by
  obtain ⟨g, h⟩ := yg_some h
  obtain ⟨hb, h⟩ := zg_some h
  obtain ⟨rfl, rfl⟩ := Prod.mk.inj (Option.some.inj h)
  refine y_cl (fun ad L M sw nx hL hR => ?_)
  obtain ⟨M2, sw2, e, hR2⟩ := r_rankedHead hN hR g a1 (a2 == 1) a3 a4
  rw [yb01 hb] at e
  exact ⟨M2, sw2, nx, hR2, rfl, fun sz => m_X6_rankedHead l hlt hL N e sz⟩
theorem n_X6_matched (l : Launch) (hlt : l.stackTraces = false) (N : Nat) (hN : 10000000 ≤ N) {D : va_G} {cy : Nat → ClassId} {x0 lo : Nat} {T T2 : yT} {o : Nat ⊕ Int32} {a1 : Int32} (h : y_X6_matched T a1 = some (o, T2)) : vx_Met l yX6_matched wsX6_matched ({ frames := 8, cells := 2, slots := 12, locals := 135 } : Room) (yPre D cy x0 lo [.ref x0, .int a1] T) (yY D cy x0 lo zvI o T2) (yX D cy x0 lo o T2) 2 12 (yA lo) := by
  obtain ⟨g, h⟩ := yg_some h
  obtain ⟨rfl, rfl⟩ := Prod.mk.inj (Option.some.inj h)
  refine y_cl (fun ad L M sw nx hL hR => ?_)
  obtain ⟨M2, sw2, e, hR2⟩ := r_matched hN hR g a1
  exact ⟨M2, sw2, nx, hR2, rfl, fun sz => m_X6_matched l hlt hL N e sz⟩
theorem n_X6_addWord (l : Launch) (hlt : l.stackTraces = false) (N : Nat) (hN : 10000000 ≤ N) {D : va_G} {cy : Nat → ClassId} {x0 lo : Nat} {T T2 : yT} {o : Nat ⊕ Int32} {a1 : Int32} {a2 : Int32} (h : y_X6_addWord T a1 a2 = some (o, T2)) : vx_Met l yX6_addWord wsX6_addWord ({ frames := 7, cells := 2, slots := 12, locals := 112 } : Room) (yPre D cy x0 lo [.ref x0, .int a1, .int a2] T) (yY D cy x0 lo zvI o T2) (yX D cy x0 lo o T2) 2 12 (yA lo) := by
  obtain ⟨g, h⟩ := yg_some h
  obtain ⟨rfl, rfl⟩ := Prod.mk.inj (Option.some.inj h)
  refine y_cl (fun ad L M sw nx hL hR => ?_)
  obtain ⟨M2, sw2, nx2, e, hR2, hk⟩ := r_addWord (N := N) hR g a1 a2
  exact ⟨M2, sw2, nx2, hR2, hk, fun sz => m_X6_addWord l hlt hL N e sz⟩
theorem n_X6_setWeight (l : Launch) (hlt : l.stackTraces = false) (N : Nat) (hN : 10000000 ≤ N) {D : va_G} {cy : Nat → ClassId} {x0 lo : Nat} {T T2 : yT} {o : Nat ⊕ Int32} {a1 : Int32} {a2 : Int32} (h : y_X6_setWeight T a1 a2 = some (o, T2)) : vx_Met l yX6_setWeight wsX6_setWeight ({ frames := 7, cells := 2, slots := 12, locals := 110 } : Room) (yPre D cy x0 lo [.ref x0, .int a1, .int a2] T) (yY D cy x0 lo zvI o T2) (yX D cy x0 lo o T2) 2 12 (yA lo) := by
  obtain ⟨g, h⟩ := yg_some h
  obtain ⟨rfl, rfl⟩ := Prod.mk.inj (Option.some.inj h)
  refine y_cl (fun ad L M sw nx hL hR => ?_)
  obtain ⟨M2, sw2, nx2, e, hR2, hk⟩ := r_setWeight (N := N) hR g a1 a2
  exact ⟨M2, sw2, nx2, hR2, hk, fun sz => m_X6_setWeight l hlt hL N e sz⟩
theorem n_X6_mark (l : Launch) (hlt : l.stackTraces = false) (N : Nat) (hN : 10000000 ≤ N) {D : va_G} {cy : Nat → ClassId} {x0 lo : Nat} {T T2 : yT} {o : Nat ⊕ Int32} {a1 : Int32} {a2 : Int32} {a3 : Int32} {a4 : Int32} (h : y_X6_mark T a1 a2 a3 a4 = some (o, T2)) : vx_Met l yX6_mark wsX6_mark ({ frames := 8, cells := 4, slots := 24, locals := 133 } : Room) (yPre D cy x0 lo [.ref x0, .int a1, .int a2, .int a3, .int a4] T) (yY D cy x0 lo zvI o T2) (yX D cy x0 lo o T2) 4 24 (yA lo) := by
  obtain ⟨g, h⟩ := yg_some h
  obtain ⟨rfl, rfl⟩ := Prod.mk.inj (Option.some.inj h)
  refine y_cl (fun ad L M sw nx hL hR => ?_)
  obtain ⟨M2, sw2, nx2, e, hR2, hk⟩ := r_mark (N := N) hN hR g a1 a2 a3 a4
  exact ⟨M2, sw2, nx2, hR2, hk, fun sz => m_X6_mark l hlt hL N e sz⟩
theorem n_X6_correct (l : Launch) (hlt : l.stackTraces = false) (N : Nat) (hN : 10000000 ≤ N) {D : va_G} {cy : Nat → ClassId} {x0 lo : Nat} {T T2 : yT} {o : Nat ⊕ Int32} {a1 : Int32} {a2 : Int32} {a3 : Int32} (h : y_X6_correct T a1 a2 a3 = some (o, T2)) : vx_Met l yX6_correct wsX6_correct ({ frames := 8, cells := 3, slots := 18, locals := 133 } : Room) (yPre D cy x0 lo [.ref x0, .int a1, .int a2, .int a3] T) (yY D cy x0 lo zvI o T2) (yX D cy x0 lo o T2) 3 18 (yA lo) := by
  obtain ⟨g, h⟩ := yg_some h
  obtain ⟨rfl, rfl⟩ := Prod.mk.inj (Option.some.inj h)
  refine y_cl (fun ad L M sw nx hL hR => ?_)
  obtain ⟨M2, sw2, nx2, e, hR2, hk⟩ := r_correct (N := N) hR g a1 a2 a3
  exact ⟨M2, sw2, nx2, hR2, hk, fun sz => m_X6_correct l hlt hL N e sz⟩
theorem n_X6_mend (l : Launch) (hlt : l.stackTraces = false) (N : Nat) (hN : 10000000 ≤ N) {D : va_G} {cy : Nat → ClassId} {x0 lo : Nat} {T T2 : yT} {o : Nat ⊕ Int32} {a1 : Int32} (h : y_X6_mend T a1 = some (o, T2)) : vx_Met l yX6_mend wsX6_mend ({ frames := 8, cells := 3, slots := 18, locals := 135 } : Room) (yPre D cy x0 lo [.ref x0, .int a1] T) (yY D cy x0 lo zvI o T2) (yX D cy x0 lo o T2) 3 18 (yA lo) := by
  obtain ⟨g, h⟩ := yg_some h
  obtain ⟨rfl, rfl⟩ := Prod.mk.inj (Option.some.inj h)
  refine y_cl (fun ad L M sw nx hL hR => ?_)
  obtain ⟨M2, sw2, nx2, e, hR2, hk⟩ := r_mend (N := N) hN hR g a1
  exact ⟨M2, sw2, nx2, hR2, hk, fun sz => m_X6_mend l hlt hL N e sz⟩
theorem n_X6_rollBack (l : Launch) (hlt : l.stackTraces = false) (N : Nat) (hN : 10000000 ≤ N) {D : va_G} {cy : Nat → ClassId} {x0 lo : Nat} {T T2 : yT} {o : Nat ⊕ Int32} (h : y_X6_rollBack T = some (o, T2)) : vx_Met l yX6_rollBack wsX6_rollBack ({ frames := 6, cells := 1, slots := 6, locals := 90 } : Room) (yPre D cy x0 lo [.ref x0] T) (yY D cy x0 lo zvI o T2) (yX D cy x0 lo o T2) 1 6 (yA lo) := by
  obtain ⟨g, h⟩ := yg_some h
  obtain ⟨rfl, rfl⟩ := Prod.mk.inj (Option.some.inj h)
  refine y_cl (fun ad L M sw nx hL hR => ?_)
  obtain ⟨M2, sw2, nx2, e, hR2, hk⟩ := r_rollBack (N := N) hR g
  exact ⟨M2, sw2, nx2, hR2, hk, fun sz => m_X6_rollBack l hlt hL N e sz⟩
