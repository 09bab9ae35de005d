/-! NEW OBJECTS AND ARRAYS: each takes the next place; its address is the heap's size, which 'ad' says ahead. -/
def zclr (M : ZM) (r : Nat) : ZM := (fun b j => if b = r then 0 else M.1 b j, fun b j => if b = r then 0 else M.2.1 b j, fun b j => if b = r then none else M.2.2.1 b j, fun b j => if b = r then 0 else M.2.2.2 b j)
theorem zclr_far {M : ZM} {r : Nat} : ∀ b, b ≠ r → (∀ j, zI M b j = zI (zclr M r) b j) ∧ (∀ j, zJ M b j = zJ (zclr M r) b j) ∧ (∀ j, zR M b j = zR (zclr M r) b j) ∧ (∀ j, zD M b j = zD (zclr M r) b j) :=
  fun b hb => ⟨fun _ => (if_neg hb).symm, fun _ => (if_neg hb).symm, fun _ => (if_neg hb).symm, fun _ => (if_neg hb).symm⟩
theorem zent_kept {cy : Nat → ClassId} {ad : Nat → Nat} {K len K' len' : Nat → Nat} {M M' : ZM} {a : Nat} (hK : K' a = K a) (hl : len' a = len a) (h : (∀ j, zI M a j = zI M' a j) ∧ (∀ j, zJ M a j = zJ M' a j) ∧ (∀ j, zR M a j = zR M' a j) ∧ (∀ j, zD M a j = zD M' a j)) : zent cy ad K' len' M' a = zent cy ad K len M a := by
  have e := zent_congr (cy := cy) (ad := ad) (K := K) (len := len) h.1 h.2.1 h.2.2.1 h.2.2.2
  rw [e]
  unfold zent
  rw [hK, hl]
theorem z_grow {s : State} {D : va_G} {cy : Nat → ClassId} {ad : Nat → Nat} {L : List Nat} {K len K' len' : Nat → Nat} {M M' : ZM} {H H1 : Heap} {locs : List Loc} {rs : List Nat} (hL : zSh ad L K) (hW : zWd D cy ad L K len M H) (hS : va_S (zA ad L s.heap.size) s.heap H locs) (hn : rs.Nodup) (hi : ∀ a ∈ rs, ∀ b ∈ rs, ad a = ad b → a = b) (hge : ∀ a ∈ rs, H.size ≤ ad a) (hsz : H.size ≤ H1.size) (o1 : ∀ q : Nat, q < H.size → H1[q]? = H[q]?)
    (hold : ∀ a, a ∉ rs → K' a = K a ∧ zent cy ad K' len' M' a = zent cy ad K len M a) (hat : ∀ a ∈ rs, va_at D vwCl (ad a, zent cy ad K' len' M' a) H1) : zSh ad (L ++ rs) K' ∧ zWd D cy ad (L ++ rs) K' len' M' H1 ∧ va_S (zA ad (L ++ rs) s.heap.size) s.heap H1 locs ∧ ∀ a ∈ rs, a ∉ L := by
  have hlt : ∀ a ∈ L, ad a < H.size := fun a ha => by
    obtain ⟨k, -, hk⟩ := zpl_get (ad := ad) (E := zent cy ad K len M) ha
    exact (hW k _ hk).lt
  have hno : ∀ a ∈ rs, a ∉ L := fun a ha hb => by
    have h1 := hge a ha
    have h2 := hlt a hb
    omega
  refine ⟨⟨?_, fun a ha => ?_, fun a ha b hb e => ?_⟩, fun k q hk => ?_, ⟨Nat.le_trans hS.1 hsz, fun q h1 h2 => ?_, fun l hl => ?_⟩, hno⟩
  · exact List.nodup_append.mpr ⟨hL.1, hn, fun a ha b hb e => hno b hb (e ▸ ha)⟩
  · by_cases h : a ∈ rs
    · exact List.mem_append_right _ h
    · exact List.mem_append_left _ (hL.2.1 a (by rw [← (hold a h).1]; exact ha))
  · rcases List.mem_append.mp ha with h1 | h1 <;> rcases List.mem_append.mp hb with h2 | h2
    · exact hL.2.2 a h1 b h2 e
    · have := hlt a h1
      have := hge b h2
      omega
    · have := hlt b h2
      have := hge a h1
      omega
    · exact hi a h1 b h2 e
  · simp only [zpl, List.getElem?_map] at hk
    cases hx : (L ++ rs)[k]? with
    | none => rw [hx] at hk; cases hk
    | some a =>
      rw [hx] at hk
      cases hk
      rcases List.mem_append.mp (List.mem_of_getElem? hx) with h | h
      · have ho := hold a (fun hr => hno a hr h)
        show va_at D vwCl (ad a, zent cy ad K' len' M' a) H1
        rw [ho.2]
        obtain ⟨k2, -, hk2⟩ := zpl_get (ad := ad) (E := zent cy ad K len M) h
        exact (hW k2 _ hk2).kept (o1 _ (hlt a h))
      · exact hat a h
  · rw [o1 q (Nat.lt_of_lt_of_le h1 hS.1)]
    exact hS.2.1 q h1 (fun z => h2 (z.elim (fun ⟨a, ha, e⟩ => Or.inl ⟨a, List.mem_append_left _ ha, e⟩) Or.inr))
  · exact (hS.2.2 l hl).elim (fun ⟨a, ha, e⟩ => Or.inl ⟨a, List.mem_append_left _ ha, e⟩) Or.inr
theorem zRA_cls {s : State} {cA cB : ClassId} {t : FieldType} (h1 : s.vm.findClass ("[" ++ t.toString) = some cA) (h2 : s.vm.findClass ("[" ++ t.toString) = some cB) : cA = cB := Option.some.inj (h1.symm.trans h2)
section ZN
variable {p : Program} {l : Launch} {e : Env} {R : Room} {s : State} {m : MethodId} {args : Array Value} {below : List Frame} {meth : Method} {c : Code} {H : Heap} {locs : List Loc} {cells slots : Nat} {Q : State → Prop}
variable {cc : ByteArray} {pc : Nat} {ls : Array Slot} {rest : List Value} {D : va_G} {cy : Nat → ClassId} {ad : Nat → Nat} {L : List Nat} {K len : Nat → Nat} {M : ZM}
theorem z_new (hx : p.tables.exec = Jvm.exec) (hb : c.code = cc) {own C : String} {T : u_T} {N ci index : Nat} {Ts : List Cond} (hts : ∀ w ∈ Ts, w.before args s = true) (hin : ∀ w ∈ u_ws C T N, w ∈ Ts) (ty : Nat → FieldType) (hty : ∀ k, k < N → parseFieldDescriptor (T k).2.2.1 = some (ty k)) (hown : s.vm.findClass own = some m.cls) (hcl : (Cond.classLink own index C).before args s = true) (hinst : (Cond.instantiable C N).before args s = true) (hini : (Cond.initialized C).before args s = true)
    (hK : va_K D vwCl (ztys cy) s) (hL : zSh ad L K) (hW : zWd D cy ad L K len M H) (hS : va_S (zA ad L s.heap.size) s.heap H locs) (r : Nat) (had : ad r = H.size) (hc : vwCl[ci]? = some (C, T, N)) (h8 : ci < 8) (hfs : ∀ j, j < N → defaultValue (ty j) = vp_V (zfl ad (zclr M r) r 0 (ztl ci)) j) (hcells : cells + 1 ≤ R.cells) (hslots : slots + N ≤ R.slots) (hdg : decode cc pc = .ok (.new index, 3))
    (kk : ∀ (H1 : Heap), H1.size = H.size + 1 → r ∉ L → zSh ad (L ++ [r]) (va_up K r (ci + 1)) → zWd D cy ad (L ++ [r]) (va_up K r (ci + 1)) len (zclr M r) H1 → va_S (zA ad (L ++ [r]) s.heap.size) s.heap H1 locs →
      W p l e R s m args below meth c H1 locs (cells + 1) (slots + N) Q (F0 m (pc + 3) ls (.ref (ad r) :: rest))) : W p l e R s m args below meth c H locs cells slots Q (F0 m pc ls rest) := by
  have hKn := hK.1 ci _ hc
  refine W.newcK hx hb hown hcl hinst hini rfl hdg hcells hslots hKn.2.1 rfl fun H1 kC hkC e1 z1 o1 => ?_
  have G := z_grow (rs := [r]) (K' := va_up K r (ci + 1)) (len' := len) (M' := zclr M r) hL hW hS (List.nodup_cons.mpr ⟨List.not_mem_nil, List.nodup_nil⟩) (fun a ha b hb _ => by rw [List.mem_singleton.mp ha, List.mem_singleton.mp hb]) (fun a ha => by rw [List.mem_singleton.mp ha, had]; exact Nat.le_refl _) (by omega) o1
    (fun a ha => by
      have hne : a ≠ r := fun q => ha (List.mem_singleton.mpr q)
      exact ⟨va_up_ne _ _ hne, zent_kept (va_up_ne _ _ hne) rfl (zclr_far a hne)⟩)
    (fun a ha => by
      rw [List.mem_singleton.mp ha, zent_obj (ci := ci) (va_up_self _ _ _) h8, had]
      exact ⟨_, hc, (u_born ty hts hin hKn hkC e1 hty).to hfs⟩)
  have k2 := kk H1 z1 (G.2.2.2 r (List.mem_singleton.mpr rfl)) G.1 G.2.1 G.2.2.1
  rw [had] at k2
  exact k2
theorem z_newa (hx : p.tables.exec = Jvm.exec) (hb : c.code = cc) {atype : ArrayType} (harr : (Cond.arrayClass (newarray.typeOf atype)).before args s = true) (t : Nat) (hty : (t = 11 ∧ newarray.typeOf atype = .int) ∨ (t = 12 ∧ newarray.typeOf atype = .long))
    (hK : va_K D vwCl (ztys cy) s) (hL : zSh ad L K) (hW : zWd D cy ad L K len M H) (hS : va_S (zA ad L s.heap.size) s.heap H locs) (r : Nat) (had : ad r = H.size) {n : Int32} {N' : Nat} (hn : ¬ n < 0) (hN : n.toNatClampNeg = N') (hbytes : N' * componentBytes (newarray.typeOf atype) ≤ 536870912) (hcells : cells + 1 ≤ R.cells) (hslots : slots + N' ≤ R.slots) (hdg : decode cc pc = .ok (.newarray atype, 2))
    (kk : ∀ (H1 : Heap), H1.size = H.size + 1 → r ∉ L → zSh ad (L ++ [r]) (va_up K r t) → zWd D cy ad (L ++ [r]) (va_up K r t) (va_up len r N') (zclr M r) H1 → va_S (zA ad (L ++ [r]) s.heap.size) s.heap H1 locs →
      W p l e R s m args below meth c H1 locs (cells + 1) (slots + N') Q (F0 m (pc + 2) ls (.ref (ad r) :: rest))) : W p l e R s m args below meth c H locs cells slots Q (F0 m pc ls (.int n :: rest)) := by
  refine va_newaK hx hb harr rfl hdg rfl hn hN hbytes hcells hslots rfl fun H1 cA e1 z1 o1 hAr hNm => ?_
  have G := z_grow (rs := [r]) (K' := va_up K r t) (len' := va_up len r N') (M' := zclr M r) hL hW hS (List.nodup_cons.mpr ⟨List.not_mem_nil, List.nodup_nil⟩) (fun a ha b hb _ => by rw [List.mem_singleton.mp ha, List.mem_singleton.mp hb]) (fun a ha => by rw [List.mem_singleton.mp ha, had]; exact Nat.le_refl _) (by omega) o1
    (fun a ha => by
      have hne : a ≠ r := fun q => ha (List.mem_singleton.mpr q)
      exact ⟨va_up_ne _ _ hne, zent_kept (va_up_ne _ _ hne) (va_up_ne _ _ hne) (zclr_far a hne)⟩)
    (fun a ha => by
      rw [List.mem_singleton.mp ha, had]
      rcases hty with ⟨rfl, ht⟩ | ⟨rfl, ht⟩
      · rw [zent_I (va_up_self _ _ _), va_up_self]
        rw [ht] at e1 hNm
        have ec : cA = cy 0 := zRA_cls hNm (hK.2 0 (cy 0, .int) rfl).2
        subst ec
        show H1[H.size]? = some (vp_cell (cy 0) (N', .inl (zI (zclr M r) r)))
        rw [e1, show zI (zclr M r) r = (fun _ => 0) from funext fun j => if_pos rfl]
        rfl
      · rw [zent_J (va_up_self _ _ _), va_up_self]
        rw [ht] at e1 hNm
        have ec : cA = cy 1 := zRA_cls hNm (hK.2 1 (cy 1, .long) rfl).2
        subst ec
        show H1[H.size]? = some (vp_cell (cy 1) (N', .inr (.inl (zJ (zclr M r) r))))
        rw [e1, show zJ (zclr M r) r = (fun _ => 0) from funext fun j => if_pos rfl]
        rfl)
  have k2 := kk H1 z1 (G.2.2.2 r (List.mem_singleton.mpr rfl)) G.1 G.2.1 G.2.2.1
  rw [had] at k2
  exact k2
theorem z_anew (hx : p.tables.exec = Jvm.exec) (hb : c.code = cc) {own : String} {index : Nat} (hown : s.vm.findClass own = some m.cls) (hclink : (Cond.classLink own index "ArcLight$Sentence").before args s = true) (hover : va_AO "ArcLight$Sentence" s)
    (hK : va_K D vwCl (ztys cy) s) (hL : zSh ad L K) (hW : zWd D cy ad L K len M H) (hS : va_S (zA ad L s.heap.size) s.heap H locs) (r : Nat) (had : ad r = H.size) {n : Int32} {N' : Nat} (hn : ¬ n < 0) (hN : n.toNatClampNeg = N') (hbytes : N' * 4 ≤ 536870912) (hcells : cells + 1 ≤ R.cells) (hslots : slots + N' ≤ R.slots) (hdg : decode cc pc = .ok (.anewarray index, 3))
    (kk : ∀ (H1 : Heap), H1.size = H.size + 1 → r ∉ L → zSh ad (L ++ [r]) (va_up K r 14) → zWd D cy ad (L ++ [r]) (va_up K r 14) (va_up len r N') (zclr M r) H1 → va_S (zA ad (L ++ [r]) s.heap.size) s.heap H1 locs →
      W p l e R s m args below meth c H1 locs (cells + 1) (slots + N') Q (F0 m (pc + 3) ls (.ref (ad r) :: rest))) : W p l e R s m args below meth c H locs cells slots Q (F0 m pc ls (.int n :: rest)) := by
  subst hN
  refine W.anew hx hb hown hclink (va_AO.use hover) rfl hdg rfl hn hbytes hcells hslots fun cA kA comp f1 f2 f3 f4 => ?_
  generalize hH1 : H.push ({ cls := cA, slots := Array.replicate n.toNatClampNeg .null, vm := .none } : Cell) = H1
  have z1 : H1.size = H.size + 1 := by rw [← hH1, Array.size_push]
  have e1 : H1[H.size]? = some (arrV cA n.toNatClampNeg (fun _ => .null)) := by rw [← hH1, Array.getElem?_push_size, ← arrV_new]
  have o1 : ∀ q : Nat, q < H.size → H1[q]? = H[q]? := fun q hq => by rw [← hH1, Array.getElem?_push, if_neg (Nat.ne_of_lt hq)]
  have G := z_grow (rs := [r]) (K' := va_up K r 14) (len' := va_up len r n.toNatClampNeg) (M' := zclr M r) hL hW hS (List.nodup_cons.mpr ⟨List.not_mem_nil, List.nodup_nil⟩) (fun a ha b hb _ => by rw [List.mem_singleton.mp ha, List.mem_singleton.mp hb]) (fun a ha => by rw [List.mem_singleton.mp ha, had]; exact Nat.le_refl _) (by omega) o1
    (fun a ha => by
      have hne : a ≠ r := fun q => ha (List.mem_singleton.mpr q)
      exact ⟨va_up_ne _ _ hne, zent_kept (va_up_ne _ _ hne) (va_up_ne _ _ hne) (zclr_far a hne)⟩)
    (fun a ha => by
      rw [List.mem_singleton.mp ha, had, zent_S (va_up_self _ _ _), va_up_self]
      have hra := (hK.2 3 (cy 3, .object "ArcLight$Sentence") rfl).2
      obtain ⟨kA2, comp2, g1, g2, g3, g4⟩ := hra
      have ec : cA = cy 3 := Option.some.inj (f1.symm.trans g4)
      subst ec
      show H1[H.size]? = some (vp_cell (cy 3) (n.toNatClampNeg, .inr (.inr (.inr (.inr (fun j => (zR (zclr M r) r j).map ad))))))
      rw [e1, show (fun j => (zR (zclr M r) r j).map ad) = (fun _ => none) from funext fun j => by rw [show zR (zclr M r) r j = none from if_pos rfl]; rfl]
      rfl)
  have k2 := kk H1 z1 (G.2.2.2 r (List.mem_singleton.mpr rfl)) G.1 G.2.1 G.2.2.1
  rw [had] at k2
  exact k2
/-- the memory behind new T[n][k]: the outer row at r, the inner ones at r + 1 .. r + n -/
def zmu {α : Type} (f : Nat → α) (r n : Nat) (o i : α) : Nat → α := fun a => if a = r then o else if r < a ∧ a ≤ r + n then i else f a
def zclm (M : ZM) (r n : Nat) : ZM := (fun b j => if r ≤ b ∧ b ≤ r + n then 0 else M.1 b j, fun b j => if r ≤ b ∧ b ≤ r + n then 0 else M.2.1 b j, fun b j => if r ≤ b ∧ b ≤ r + n then (if b = r ∧ j < n then some (r + 1 + j) else none) else M.2.2.1 b j, fun b j => if r ≤ b ∧ b ≤ r + n then 0 else M.2.2.2 b j)
def zrs (r n : Nat) : List Nat := r :: (List.range n).map (fun i => r + 1 + i)
theorem zrs_mem {r n a : Nat} : a ∈ zrs r n ↔ r ≤ a ∧ a ≤ r + n := by
  simp only [zrs, List.mem_cons, List.mem_map, List.mem_range]
  constructor
  · rintro (rfl | ⟨i, hi, rfl⟩) <;> omega
  · intro h
    by_cases e : a = r
    · exact Or.inl e
    · exact Or.inr ⟨a - r - 1, by omega, by omega⟩
theorem zrs_nodup (r n : Nat) : (zrs r n).Nodup := by
  refine List.nodup_cons.mpr ⟨fun h => ?_, ?_⟩
  · obtain ⟨i, -, hi⟩ := List.mem_map.mp h
    omega
  · exact List.Pairwise.map _ (fun a b h => by omega) (List.pairwise_lt_range (n := n))
theorem z_mna (hx : p.tables.exec = Jvm.exec) (hb : c.code = cc) {own : String} {index : Nat} {ty : FieldType} (t1 t2 : Nat) (tt : (ty = .int ∧ t1 = 15 ∧ t2 = 11) ∨ (ty = .long ∧ t1 = 16 ∧ t2 = 12)) (hown : s.vm.findClass own = some m.cls) (hclink : (Cond.classLink own index ("[" ++ (FieldType.array ty).toString)).before args s = true) (hover : va_AOA ty s) (harr : (Cond.arrayClass ty).before args s = true)
    (hK : va_K D vwCl (ztys cy) s) (hL : zSh ad L K) (hW : zWd D cy ad L K len M H) (hS : va_S (zA ad L s.heap.size) s.heap H locs) {n k : Int32} {N' K' : Nat} (hn : ¬ n < 0) (hk : ¬ k < 0) (hN : n.toNatClampNeg = N') (hM : k.toNatClampNeg = K') (r : Nat) (had : ∀ i, i ≤ N' → ad (r + i) = H.size + i)
    (hb1 : N' * 4 ≤ 536870912) (hb2 : K' * componentBytes ty ≤ 536870912) (hb3 : K' ≤ 536870912) (hcells : cells + (1 + N') ≤ R.cells) (hslots : slots + (N' + N' * K') ≤ R.slots) (hdg : decode cc pc = .ok (.multianewarray index 2, 4))
    (kk : ∀ (H1 : Heap), H1.size = H.size + 1 + N' → (∀ a ∈ zrs r N', a ∉ L) → zSh ad (L ++ zrs r N') (zmu K r N' t1 t2) → zWd D cy ad (L ++ zrs r N') (zmu K r N' t1 t2) (zmu len r N' N' K') (zclm M r N') H1 → va_S (zA ad (L ++ zrs r N') s.heap.size) s.heap H1 locs →
      W p l e R s m args below meth c H1 locs (cells + 1 + N') (slots + N' + N' * K') Q (F0 m (pc + 4) ls (.ref (ad r) :: rest))) : W p l e R s m args below meth c H locs cells slots Q (F0 m pc ls (.int k :: .int n :: rest)) := by
  subst hN
  subst hM
  intro T hT Xs
  have hdf : fits ty (defaultValue ty) = true := by rcases tt with ⟨rfl, rfl, rfl⟩ | ⟨rfl, rfl, rfl⟩ <;> rfl
  have hdd : (defaultValue ty).isDefault = true := by rcases tt with ⟨rfl, rfl, rfl⟩ | ⟨rfl, rfl, rfl⟩ <;> rfl
  obtain ⟨vm₁, cA, comp, -, fA, fC, hO, -, X', step⟩ := Xs.multianewarray2F hx hown hclink (va_AOA.use hover) harr (g := F0 m pc ls (.int k :: .int n :: rest)) rfl (by rw [hb]; exact hdg) rfl hn hk hb1 hb2 hb3 hdf hdd hcells hslots
  generalize hF : Jvm.Free.Multi.fill (T.setVm vm₁) cA comp n.toNatClampNeg k.toNatClampNeg (defaultValue ty) n.toNatClampNeg = F at X' step
  have hTh : (T.setVm vm₁).heap = H := hT
  obtain ⟨f1, f2, -, -⟩ := Jvm.Free.Multi.fill_facts (T.setVm vm₁) cA comp n.toNatClampNeg k.toNatClampNeg (defaultValue ty) n.toNatClampNeg
  rw [hF, hTh] at f1 f2
  have hold : ∀ x : Nat, x < H.size → F.heap[x]? = H[x]? := fun x hx => by
    have := Jvm.Free.Multi.fill_old (T.setVm vm₁) cA comp n.toNatClampNeg k.toNatClampNeg (defaultValue ty) (a := x) (by rw [hTh]; exact hx) n.toNatClampNeg
    rw [hF, hTh] at this
    exact this
  have hrow : ∀ j : Nat, j < n.toNatClampNeg → F.heap[H.size + 1 + j]? = some (Jvm.Free.Multi.innerC comp k.toNatClampNeg (defaultValue ty)) := fun j hj => by
    have := Jvm.Free.Multi.fill_inner (T.setVm vm₁) cA comp n.toNatClampNeg k.toNatClampNeg (defaultValue ty) n.toNatClampNeg j hj
    rw [hF, hTh] at this
    exact this
  have hout : Jvm.Free.Multi.outerC cA n.toNatClampNeg H.size n.toNatClampNeg = vp_cell cA (n.toNatClampNeg, .inr (.inr (.inr (.inr (fun i => if i < n.toNatClampNeg then some (H.size + 1 + i) else none))))) := by
    rw [vp_cell_q]
    exact vr_outer cA n.toNatClampNeg H.size n.toNatClampNeg
  rw [hout] at f2
  have hNn : n.toNatClampNeg = n.toNatClampNeg := rfl
  generalize n.toNatClampNeg = N at *
  generalize k.toNatClampNeg = k9 at *
  have hal : ∀ a ∈ zrs r N, ∃ i, i ≤ N ∧ a = r + i ∧ ad a = H.size + i := fun a ha => by
    have h := zrs_mem.mp ha
    exact ⟨a - r, by omega, by omega, by rw [← had (a - r) (by omega)]; congr 1; omega⟩
  have hzR : (fun j => (zR (zclm M r N) r j).map ad) = (fun j => if j < N then some (H.size + 1 + j) else none) := funext fun j => by
    show Option.map ad (if r ≤ r ∧ r ≤ r + N then (if r = r ∧ j < N then some (r + 1 + j) else none) else M.2.2.1 r j) = _
    rw [if_pos ⟨Nat.le_refl _, by omega⟩]
    by_cases h : j < N
    · rw [if_pos ⟨rfl, h⟩, if_pos h]
      show some (ad (r + 1 + j)) = _
      rw [show r + 1 + j = r + (1 + j) by omega, had (1 + j) (by omega), show H.size + (1 + j) = H.size + 1 + j by omega]
    · rw [if_neg (fun q => h q.2), if_neg h]
      rfl
  have hrowI : ∀ a, r < a → a ≤ r + N → F.heap[ad a]? = some (Jvm.Free.Multi.innerC comp k9 (defaultValue ty)) := fun a h1 h2 => by
    have e1 : ad a = H.size + 1 + (a - r - 1) := by
      have e2 := had (a - r) (by omega)
      rw [show r + (a - r) = a by omega] at e2
      omega
    rw [e1]
    exact hrow _ (by omega)
  have G := z_grow (s := s) (rs := zrs r N) (K' := zmu K r N t1 t2) (len' := zmu len r N N k9) (M' := zclm M r N) (H1 := F.heap) hL hW hS (zrs_nodup r N)
    (fun a ha b hb e => by
      obtain ⟨i, -, ea, ea2⟩ := hal a ha
      obtain ⟨j, -, eb, eb2⟩ := hal b hb
      omega)
    (fun a ha => by
      obtain ⟨i, -, -, e2⟩ := hal a ha
      omega) (by omega) hold
    (fun a ha => by
      have h9 : ¬ (r ≤ a ∧ a ≤ r + N) := fun q => ha (zrs_mem.mpr q)
      have e1 : zmu K r N t1 t2 a = K a := by
        unfold zmu
        rw [if_neg (by omega), if_neg (by omega)]
      have e2 : zmu len r N N k9 a = len a := by
        unfold zmu
        rw [if_neg (by omega), if_neg (by omega)]
      exact ⟨e1, zent_kept e1 e2 ⟨fun _ => (if_neg h9).symm, fun _ => (if_neg h9).symm, fun _ => (if_neg h9).symm, fun _ => (if_neg h9).symm⟩⟩)
    (fun a ha => by
      have h9 := zrs_mem.mp ha
      by_cases hr9 : a = r
      · subst hr9
        have e0 : ad a = H.size := had 0 (by omega)
        rcases tt with ⟨rfl, rfl, rfl⟩ | ⟨rfl, rfl, rfl⟩
        · rw [zent_II (show zmu K a N 15 11 a = 15 by simp [zmu]), show zmu len a N N k9 a = N from if_pos rfl, hzR, e0]
          have ec : cA = cy 4 := zRA_cls fA (hK.2 4 (cy 4, .array .int) rfl).2
          subst ec
          exact f2
        · rw [zent_JJ (show zmu K a N 16 12 a = 16 by simp [zmu]), show zmu len a N N k9 a = N from if_pos rfl, hzR, e0]
          have ec : cA = cy 5 := zRA_cls fA (hK.2 5 (cy 5, .array .long) rfl).2
          subst ec
          exact f2
      · have hI := hrowI a (by omega) h9.2
        rcases tt with ⟨rfl, rfl, rfl⟩ | ⟨rfl, rfl, rfl⟩
        · rw [zent_I (show zmu K r N 15 11 a = 11 by
            unfold zmu
            rw [if_neg hr9, if_pos ⟨by omega, h9.2⟩]), show zmu len r N N k9 a = k9 by unfold zmu; rw [if_neg hr9, if_pos ⟨by omega, h9.2⟩]]
          have ec : comp = cy 0 := Option.some.inj (fC.symm.trans (hK.2 0 (cy 0, .int) rfl).2)
          subst ec
          show F.heap[ad a]? = some (vp_cell (cy 0) (k9, .inl (zI (zclm M r N) a)))
          rw [hI, show zI (zclm M r N) a = (fun _ => 0) from funext fun j => if_pos h9]
          exact congrArg some (arrV_new (cy 0) k9 (.int 0))
        · rw [zent_J (show zmu K r N 16 12 a = 12 by
            unfold zmu
            rw [if_neg hr9, if_pos ⟨by omega, h9.2⟩]), show zmu len r N N k9 a = k9 by unfold zmu; rw [if_neg hr9, if_pos ⟨by omega, h9.2⟩]]
          have ec : comp = cy 1 := Option.some.inj (fC.symm.trans (hK.2 1 (cy 1, .long) rfl).2)
          subst ec
          show F.heap[ad a]? = some (vp_cell (cy 1) (k9, .inr (.inl (zJ (zclm M r N) a))))
          rw [hI, show zJ (zclm M r N) a = (fun _ => 0) from funext fun j => if_pos h9]
          exact congrArg some (arrV_new (cy 1) k9 (.long 0)))
  obtain ⟨t, a1, b1⟩ := kk F.heap f1 G.2.2.2 G.1 G.2.1 G.2.2.1 F rfl X'
  refine ⟨t, step t ?_, b1⟩
  have e9 : T.heap.size = H.size := by rw [hT]
  have e8 : ad r = H.size := had 0 (Nat.zero_le _)
  rw [e9, ← e8]
  exact a1
end ZN
theorem zWd_lt {D : va_G} {cy : Nat → ClassId} {ad : Nat → Nat} {L : List Nat} {K len : Nat → Nat} {M : ZM} {H : Heap} (hW : zWd D cy ad L K len M H) {a : Nat} (h : a ∈ L) : ad a < H.size := by
  obtain ⟨k, -, hk⟩ := zpl_get (ad := ad) (E := zent cy ad K len M) h
  exact (hW k _ hk).lt
theorem zA_mem {ad : Nat → Nat} {L L1 : List Nat} {lo k n sz : Nat} (hm : ∀ a, a ∈ L1 ↔ a ∈ L ∨ (lo ≤ a ∧ a < lo + k)) (had : ∀ i, i < n → ad (lo + i) = sz + i) (hk : k ≤ n) : ∀ q, zA ad L1 sz q → zA ad L sz q := by
  intro q h
  rcases h with ⟨a, ha, e⟩ | h
  · rcases (hm a).mp ha with h1 | ⟨h1, h2⟩
    · exact Or.inl ⟨a, h1, e⟩
    · have h3 := had (a - lo) (by omega)
      rw [show lo + (a - lo) = a from by omega] at h3
      exact Or.inr (by omega)
  · exact Or.inr h
theorem zEnv_narrow {A B : Nat → Prop} {U : State} {H : Heap} (h : zEnv A U H) (hA : ∀ q, B q → A q) : zEnv B U H := by
  obtain ⟨h1, h2, h3, h6, h7, h8, t, h4, h5⟩ := h
  exact ⟨h1, h2.narrow hA, h3.narrow hA, h6, h7, h8, t, h4.narrow hA, h5.narrow hA⟩
theorem zmem_0 {L : List Nat} {lo : Nat} : ∀ a, a ∈ L ↔ a ∈ L ∨ (lo ≤ a ∧ a < lo + 0) := fun a => ⟨Or.inl, fun h => h.elim id (fun h => by omega)⟩
theorem zmem_1 {L L1 : List Nat} {lo k : Nat} (hm : ∀ a, a ∈ L1 ↔ a ∈ L ∨ (lo ≤ a ∧ a < lo + k)) : ∀ a, a ∈ L1 ++ [lo + k] ↔ a ∈ L ∨ (lo ≤ a ∧ a < lo + (k + 1)) := by
  intro a
  rw [List.mem_append, List.mem_singleton, hm a]
  constructor
  · rintro ((h | h) | h)
    · exact Or.inl h
    · exact Or.inr (by omega)
    · exact Or.inr (by omega)
  · rintro (h | h)
    · exact Or.inl (Or.inl h)
    · by_cases e : a = lo + k
      · exact Or.inr e
      · exact Or.inl (Or.inr (by omega))
theorem zmem_n {L L1 : List Nat} {lo k n : Nat} (hm : ∀ a, a ∈ L1 ↔ a ∈ L ∨ (lo ≤ a ∧ a < lo + k)) : ∀ a, a ∈ L1 ++ zrs (lo + k) n ↔ a ∈ L ∨ (lo ≤ a ∧ a < lo + (k + 1 + n)) := by
  intro a
  rw [List.mem_append, zrs_mem, hm a]
  constructor
  · rintro ((h | h) | h)
    · exact Or.inl h
    · exact Or.inr (by omega)
    · exact Or.inr (by omega)
  · rintro (h | h)
    · exact Or.inl (Or.inl h)
    · by_cases e : a < lo + k
      · exact Or.inl (Or.inr (by omega))
      · exact Or.inr (by omega)
theorem zmem_c {L L1 L2 : List Nat} {lo k n : Nat} (hm : ∀ a, a ∈ L1 ↔ a ∈ L ∨ (lo ≤ a ∧ a < lo + k)) (h2 : ∀ a, a ∈ L2 ↔ a ∈ L1 ∨ (lo + k ≤ a ∧ a < lo + k + n)) : ∀ a, a ∈ L2 ↔ a ∈ L ∨ (lo ≤ a ∧ a < lo + (k + n)) := by
  intro a
  rw [h2 a, hm a]
  constructor
  · rintro ((h | h) | h)
    · exact Or.inl h
    · exact Or.inr (by omega)
    · exact Or.inr (by omega)
  · rintro (h | h)
    · exact Or.inl (Or.inl h)
    · by_cases e : a < lo + k
      · exact Or.inl (Or.inr (by omega))
      · exact Or.inr (by omega)
/-- a constructor's end: n places from lo on are new -/
def zQn (D : va_G) (cy : Nat → ClassId) (ad : Nat → Nat) (L : List Nat) (lo n : Nat) (K' len' : Nat → Nat) (M' : ZM) (sz : Nat) : Array Value → State → Outcome → State → Prop := fun _ st oc t =>
  oc = .returned none ∧ (∃ L', (∀ a, a ∈ L' ↔ a ∈ L ∨ (lo ≤ a ∧ a < lo + n)) ∧ zSh ad L' K' ∧ zWd D cy ad L' K' len' M' t.heap) ∧ va_F (zA ad L sz) st t
section ZI
variable {p : Program} {l : Launch} {e : Env} {R : Room} {s : State} {m : MethodId} {args : Array Value} {below : List Frame} {meth : Method} {c : Code} {H : Heap} {locs : List Loc} {cells slots : Nat} {Q : State → Prop}
variable {cc : ByteArray} {pc : Nat} {ls : Array Slot} {rest : List Value} {D : va_G} {cy : Nat → ClassId} {ad : Nat → Nat} {L : List Nat} {K len : Nat → Nat} {a : Nat} {M : ZM}
/-- the heap has grown by just as many cells as were made -/
theorem z_size {g : JFrame} (h : s.heap.size + cells ≤ H.size) (kk : H.size = s.heap.size + cells → W p l e R s m args below meth c H locs cells slots Q g) : W p l e R s m args below meth c H locs cells slots Q g := by
  intro T hT X
  refine kk ?_ T hT X
  have h1 : T.heap.size ≤ s.heap.size + cells := X.same.2.2.1
  rw [hT] at h1
  omega
theorem z_putF (hx : p.tables.exec = Jvm.exec) (hb : c.code = cc) {own C : String} {T : u_T} {N ci index : Nat} {Ts : List Cond} (hts : ∀ w ∈ Ts, w.before args s = true) (hin : ∀ w ∈ u_ws C T N, w ∈ Ts) (ty0 : Nat → FieldType) (hty : ∀ k, k < N → parseFieldDescriptor (T k).2.2.1 = some (ty0 k)) (hnm : ∀ a, a < N → ∀ b, b < N → a ≠ b → (T a).2.1 ≠ (T b).2.1) (hown : s.vm.findClass own = some m.cls) (hK : va_K D vwCl (ztys cy) s) (hL : zSh ad L K) (hW : zWd D cy ad L K len M H) (hS : va_S (zA ad L s.heap.size) s.heap H locs) (k : Nat) (hKa : K a = ci + 1) (hc : vwCl[ci]? = some (C, T, N)) (h8 : ci < 8) (hk : k < N) (hf : (T k).1 = C) (hlink : (Cond.fieldLink own index C (T k).2.1 (T k).2.2.1).before args s = true) (hfin : (T k).2.2.2 = true) (hin2 : meth.name = "<init>") (hdecl : (T k).1 = own) {ty : FieldType} {v : Value} (hd : parseFieldDescriptor (T k).2.2.1 = some ty) (hn : narrow ty v = v) (hfit : fits ty v = true) (hl : k < (zfl ad M a 0 (ztl ci)).length) (hdg : decode cc pc = .ok (.putfield index, 3)) {M' : ZM}
    (hM : ∀ b, va_up (zent cy ad K len M) a (.inr (ci, (zfl ad M a 0 (ztl ci)).set k v)) b = zent cy ad K len M' b)
    (kk : ∀ (H : Heap) (locs : List Loc), zWd D cy ad L K len M' H → va_S (zA ad L s.heap.size) s.heap H locs → W p l e R s m args below meth c H locs cells slots Q (F0 m (pc + 3) ls rest)) : W p l e R s m args below meth c H locs cells slots Q (F0 m pc ls (v :: .ref (ad a) :: rest)) := by
  have ha : a ∈ L := hL.2.1 a (by omega)
  have hD : va_D (zA ad L s.heap.size) (zpl ad L (zent cy ad K len M)) := zpl_D hL _
  obtain ⟨q0, hq, he⟩ := zpl_get (E := zent cy ad K len M) ha
  have he2 := he
  rw [zent_obj hKa h8] at he2
  refine va_putF hx hb hts hin ty0 hty hnm hown hK (show va_P D vwCl (zpl ad L (zent cy ad K len M)) H from hW) hD hS q0 he2 hc k hk hlink (fun x h => by rw [hf] at h; exact h) hfin hin2 hdecl hd hn hfit hl hdg (fun H1 locs1 hP1 _ hS1 => kk H1 locs1 ?_ hS1)
  rw [zpl_set hL.1 hq] at hP1
  show va_P D vwCl (zpl ad L (zent cy ad K len M')) H1
  rw [← zpl_congr hM]
  exact hP1
theorem z_nret {lo n : Nat} {L1 : List Nat} {K' len' : Nat → Nat} {M' : ZM} (hx : p.tables.exec = Jvm.exec) (hb : c.code = cc) (hr : meth.sig.returnType = none) (hlocks : meth.locks = false) (hm : ∀ a, a ∈ L1 ↔ a ∈ L ∨ (lo ≤ a ∧ a < lo + n)) (had : ∀ i, i < n → ad (lo + i) = s.heap.size + i) (hL : zSh ad L1 K') (hW : zWd D cy ad L1 K' len' M H) (hS : va_S (zA ad L1 s.heap.size) s.heap H locs) (hM : M = M') (hdg : decode cc pc = .ok (.return_, 1)) : W p l e R s m args below meth c H locs cells slots (MQ below (zQn D cy ad L lo n K' len' M' s.heap.size) args s cells slots (zA ad L s.heap.size)) (F0 m pc ls []) := by
  subst hM
  have hS2 : va_S (zA ad L s.heap.size) s.heap H locs := by
    have hb2 := zA_mem hm had (Nat.le_refl n)
    refine ⟨hS.1, fun q h1 h2 => hS.2.1 q h1 (fun z => h2 (hb2 q z)), fun q hq => hb2 _ (hS.2.2 q hq)⟩
  exact W.vret hx hb hr (fun t ht _ => ⟨rfl, ⟨L1, hm, hL, (congrArg (zWd D cy ad L1 K' len' M) ht).mpr hW⟩, hS2.F ht⟩) hS2.2.2 hdg hlocks
theorem z_calln {lo n : Nat} {K' len' : Nat → Nat} {M' : ZM} (hS : va_S (zA ad L s.heap.size) s.heap H locs) {mc ms : Nat} {st0 : List Value} {av : Array Value} (hr : va_Run p l e R s m args below meth c H locs cells slots mc ms (F0 m pc ls st0) rest (zQn D cy ad L lo n K' len' M' H.size av) (zA ad L H.size))
    (kk : ∀ (L1 : List Nat) (H : Heap) (locs : List Loc), (∀ a, a ∈ L1 ↔ a ∈ L ∨ (lo ≤ a ∧ a < lo + n)) → zSh ad L1 K' → zWd D cy ad L1 K' len' M' H → va_S (zA ad L1 s.heap.size) s.heap H locs → W p l e R s m args below meth c H locs (cells + mc) (slots + ms) Q (F0 m (pc + 3) ls rest)) : W p l e R s m args below meth c H locs cells slots Q (F0 m pc ls st0) := by
  intro T hT X
  obtain ⟨v, st₀, t, T', L9, h0, X', hL9, e1, e2, ⟨hv, ⟨L1, hm, hsh, hw⟩, hz, hk⟩, st⟩ := hr T hT X
  cases hv
  rw [h0] at hz hk
  have hup : ∀ q, zA ad L s.heap.size q → zA ad L1 s.heap.size q := fun q h => h.elim (fun ⟨a, ha, e⟩ => Or.inl ⟨a, (hm a).mpr (Or.inl ha), e⟩) Or.inr
  obtain ⟨t2, a1, b1⟩ := kk L1 T'.heap (locs ++ L9) hm hsh (by rw [e1]; exact hw) ⟨Nat.le_trans hS.1 (by rw [e1]; exact hz), fun q h1 h2 => by
      rw [e1, hk q (Nat.lt_of_lt_of_le h1 hS.1) (fun z => h2 (hup q (zA_mono hS.1 q z)))]
      exact hS.2.1 q h1 (fun z => h2 (hup q z)), fun q hq => by
      rcases List.mem_append.mp hq with h | h
      · exact hup _ (hS.2.2 q h)
      · exact hup _ (zA_mono hS.1 _ (hL9 q h))⟩ T' rfl X'
  exact ⟨t2, st t2 a1, b1⟩
end ZI
theorem z_nentry {l : Launch} {y : MethodName} {ws ws' : List Cond} {rm : Room} {cc : ByteArray} {nL : Nat} {ret : Option FieldType} {own : String} {D : va_G} {cy : Nat → ClassId} {ad : Nat → Nat} {L : List Nat} {K len : Nat → Nat} {av : List Value} {M : ZM} {Qf : Nat → Array Value → State → Outcome → State → Prop} {mc ms sz : Nat}
    (hy : plainName y.cls = true) (hyn : y.name = "<init>") (hw : ws = Cond.code y cc nL ret :: ws') (ho : y.cls = own) (hL : zSh ad L K) (hn : (lg_sl av).length ≤ nL)
    (body : ∀ (p : Program) (e : Env) (s : State) (m : MethodId) (args : Array Value) (below : List Frame) (meth : Method) (c : Code), sz = s.heap.size → meth.name = "<init>" → zCx p s m c meth args cc nL ws own ret D cy ad L K → ∀ (H : Heap) (locs : List Loc) (ls : Array Slot), zWd D cy ad L K len M H → va_S (zA ad L s.heap.size) s.heap H locs → lv_has ls nL (lv_args 0 av) → W p l e (headSpec ws rm).room s m args below meth c H locs 0 0 (MQ below (Qf s.heap.size) args s mc ms (zA ad L s.heap.size)) (F0 m 0 ls [])) : Met l y ws rm (zPre D cy ad L K len sz av M) (Qf sz) mc ms (zA ad L sz) := by
  refine Met.ofW (cc := cc) (maxL := nL) (ret := ret) hy hw ?_
  intro p e s m args below meth c s₁ B hml hv
  obtain ⟨rfl, hsz, hW, hK, hE⟩ := hv
  have hin : meth.name = "<init>" := by rw [← hyn]; exact (name_of_methodNamed B.named B.method).1
  subst hsz
  rw [lg_entry_eq]
  exact body p e s m _ below meth c rfl hin ⟨B.exec, B.bytes, B.returns, hml, by rw [← ho]; exact findClass_of_methodNamed B.named, atoms_spec (ws := ws) B.pre, B.notSynchronized, hK, hL, hE⟩ s.heap [] _ hW va_S.rf (lv_entry av hn)
