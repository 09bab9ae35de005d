/-! THE START: the object is made, then the law goes on (78) as 87 says. -/
set_option maxRecDepth 100000 in
set_option maxHeartbeats 4000000 in
theorem p26_of (N : Nat) (hN : 10000000 ≤ N) {p : Program} {e : Env} {s : State} {m : MethodId} {below : List Frame} {meth : Method} {c : Code} (l : Launch) (hflags : l.flags = flags0) {b Lx : Nat} {xs : Nat → Int32} (hLx : Lx ≤ 260) (C0 : lw_At p s m meth c b Lx xs) : W p l e room_1 s m #[Value.ref b] below meth c s.heap [] 0 0 (lw_Z below #[Value.ref b] s) (entryFrame m ([Value.ref b] : List Value).toArray 8) := by
  obtain ⟨hx, hb, hr, hml, hown, hts, hX, hbl, hlocks, hgv⟩ := id C0
  have hlt : l.stackTraces = false := by
    unfold Launch.stackTraces
    rw [hflags]
    decide +kernel
  obtain ⟨D, cy, hK⟩ := zK_start hts
  have hts2 : ∀ w ∈ wsL_law, w.before #[Value.ref b] s = true := fun w hw => hts w (wsL_law_in w hw)
  have hE0 : zEnv (yA s.heap.size) s s.heap := zEnv_start hts hgv (fun a h1 h2 => absurd (show s.heap.size ≤ a from h2) (by omega))
  obtain ⟨M1, e1, hR⟩ := ygo N
  obtain ⟨ad, hadd⟩ : ∃ f : Nat → Nat, f = fun a => s.heap.size + a := ⟨_, rfl⟩
  have had : ∀ a, ad a = s.heap.size + a := fun a => by rw [hadd]
  have hL : zSh ad [] (fun _ => 0) := ⟨List.nodup_nil, fun a h => absurd rfl h, fun a h => absurd h List.not_mem_nil⟩
  have hW : zWd D cy ad [] (fun _ => 0) (fun _ => 0) zMz s.heap := fun k q h => by cases h
  have hS : va_S (zA ad [] s.heap.size) s.heap s.heap [] := va_S.rf
  have hinX6 : ∀ w ∈ wsX60, w ∈ wsL_law := inlX6
  have hm : ∀ a, a ∈ ([] : List Nat) ↔ a ∈ ([] : List Nat) ∨ (0 ≤ a ∧ a < 0 + 0) := zmem_0
  have hl := lv_entry ([.ref b]) (n := 8) (Nat.le_of_ble_eq_true rfl)
  rw [lg_entry_eq]
  generalize (lg_sl ([.ref b]) ++ List.replicate (8 - (lg_sl ([.ref b])).length) Slot.unset).toArray = ls at hl ⊢
  have hl : lv_has ls 8 [(0, .ref b)] := hl
  refine z_new (own := RL) (C := RX6) (T := TX6) (N := 7) (ci := 6) hx hb hts2 hinX6 tyX6 tyX6_ok hown (hts (.classLink RL 21 RX6) (by decide +kernel)) (hts (.instantiable RX6 7) (by decide +kernel)) (hts (.initialized RX6) (by decide +kernel)) hK hL hW hS 0 (had 0) rfl (by decide) (zbornX6 _ _) (by decide +kernel) (by decide +kernel) dL_law_0 (fun H z0 _ hL hW hS => ?_)
  have hm := zmem_1 hm
  generalize [] ++ [0 + 0] = L1 at hm hL hW hS ⊢
  refine W.widen (k := 1) (n := 7) (by omega) (by omega) ?_
  refine lv_dup hx hb dL_law_3 rfl ?_
  have hhi : ∀ a ∈ L1, s.heap.size ≤ ad a := fun a _ => by rw [had]; omega
  refine z_calln (lo := 0 + 1) (n := 111) hS (va_runI (As := []) (rest := [.ref (ad 0)]) ⟨hx, hb, hml, hown, hts2⟩ (m_X6_init l hL N e1 H.size (fun i hi => by rw [had]; omega)) (cwI 0 hts2 gL_law_X6_init rfl rfl rfl (hts (.initialized RX6) (by decide +kernel)) (hts (.methodLink RL 130 yX6_init) (by decide +kernel)) (hts (.instanceMethod yX6_init) (by decide +kernel)) rfl (by decide +kernel) ⟨by decide +kernel, by decide +kernel⟩) (z_preS hK (zEnv_narrow hE0 (zA_hi hhi)) hW hS [.ref (ad 0)]) rfl rfl hl.1 rfl (lv_room (Nat.le_of_ble_eq_true rfl)) dL_law_4 ⟨by decide +kernel, by decide +kernel⟩) (fun L2 H locs hm2 hL hW hS => ?_)
  have hm := zmem_c hm hm2
  refine W.widen (k := 112) (n := 20000 + 8 * 112) (by omega) (by omega) ?_
  refine lv_astore_n (lv' := [(1, .ref (ad 0)), (0, .ref b)]) hx hb dL_law_7 rfl hl (by decide) rfl (fun ls hl => ?_)
  have hmL : ∀ a, a ∈ L2 ↔ a < 112 + 11 * yk yT0.1 := fun a => by
    rw [hm a, show yk yT0.1 = 0 from rfl]
    simp only [List.not_mem_nil, false_or]
    omega
  have hhi2 : ∀ a ∈ L2, s.heap.size ≤ ad a := fun a _ => by rw [had]; omega
  obtain ⟨T', eL⟩ := k_law (N := N) (y_cell Lx xs) (fun n hn => ⟨_, by
    unfold y_cell
    rw [if_neg (nI_pos (by omega))]⟩)
  have hyW : yWd D cy (ad 0) s.heap.size yT0 H := ⟨ad, L2, M1, false, 0, rfl, hmL, hL, hhi2, hW, hR⟩
  have hyS : va_S (yA s.heap.size) s.heap H locs := ⟨hS.1, fun q h1 h2 => hS.2.1 q h1 (fun z => h2 (zA_hi hhi2 q z)), fun q hq => zA_hi hhi2 _ (hS.2.2 q hq)⟩
  exact t_L_law_8 (D := D) (cy := cy) (x0 := ad 0) (lo := s.heap.size) ⟨hx, hb, hr, hml, hown, hts2, hlocks, hK, hE0, Nat.le_refl _, hlt⟩ N hN hX hbl hLx (Nat.le_refl _) rfl rfl (c0 := 112) (by omega) eL hyW hyS (lv_sub hl [1, 0] rfl)
