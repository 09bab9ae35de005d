/-! SPANS: the sets of arcs of the tables are those of the trees without crossings (by the kernel, for each n). -/
def zars : Nat → List Nat → List (Nat × Nat)
  | _, [] => []
  | w, h :: t => (h, w) :: zars (w + 1) t
def zalw (al : Nat → Nat → Bool) : Nat → List Nat → Prop
  | _, [] => True
  | w, h :: t => al h w = true ∧ zalw al (w + 1) t
/-- the heads of a set of arcs -/
def zhs (n : Nat) (a : List (Nat × Nat)) : List Nat := (List.range' 1 n).map fun w => a.foldl (fun x p => bif Nat.beq p.2 w then p.1 else x) 0
def zmask : List Nat → Nat
  | [] => 0
  | x :: l => zmask l ||| 2 ^ x
theorem zmask_bit : ∀ (l : List Nat) (x : Nat), (zmask l).testBit x = true ↔ x ∈ l
  | [], x => by
    show (0 : Nat).testBit x = true ↔ _
    simp
  | y :: l, x => by
    show (zmask l ||| 2 ^ y).testBit x = true ↔ _
    rw [Nat.testBit_or, Nat.testBit_two_pow, Bool.or_eq_true, zmask_bit l x, decide_eq_true_eq, List.mem_cons]
    constructor
    · rintro (h | h)
      · exact Or.inr h
      · exact Or.inl h.symm
    · rintro (h | h)
      · exact Or.inr h.symm
      · exact Or.inl h
def zbeqp (p q : Nat × Nat) : Bool := Nat.beq p.1 q.1 && Nat.beq p.2 q.2
/-- every set of arcs is that of its heads -/
def zchkA (n : Nat) : Bool := (zEL 14 0 0 n).all fun a => (zhs n a).all (fun h => Nat.ble h n) && a.isPerm (zars 1 (zhs n a))
/-- the codes of both -/
def zchkB (n : Nat) : Bool := Nat.beq (zmask ((zEL 14 0 0 n).map fun a => zdg 8 (zhs n a))) (zmask ((zT n zany false).map (zdg 8)))
theorem zchkA_all : ∀ n, n < 7 → zchkA n = true := by decide +kernel
theorem zchkB_all : ∀ n, n < 7 → zchkB n = true := by decide +kernel
theorem zhs_len (n : Nat) (a : List (Nat × Nat)) : (zhs n a).length = n := by
  unfold zhs
  rw [List.length_map, List.length_range']
theorem zsp_to {n : Nat} (hn : n ≤ 6) {a : List (Nat × Nat)} (ha : a ∈ zEL 14 0 0 n) : ∃ v, v ∈ zT n zany false ∧ a.Perm (zars 1 v) := by
  have h1 := List.all_eq_true.mp (zchkA_all n (by omega)) a ha
  rw [Bool.and_eq_true] at h1
  have hb := Nat.eq_of_beq_eq_true (zchkB_all n (by omega))
  have hm : zdg 8 (zhs n a) ∈ (zEL 14 0 0 n).map fun a => zdg 8 (zhs n a) := List.mem_map.mpr ⟨a, ha, rfl⟩
  rw [← zmask_bit, hb, zmask_bit] at hm
  obtain ⟨v, hv, e⟩ := List.mem_map.mp hm
  obtain ⟨hl, hx⟩ := zt_all hv
  have ev : v = zhs n a := zdg_inj (b := 8) (by rw [hl, zhs_len]) (fun h hh => by have := hx h hh; omega) (fun h hh => by
    have := Nat.le_of_ble_eq_true (List.all_eq_true.mp h1.1 h hh)
    omega) e
  refine ⟨v, hv, ?_⟩
  rw [ev]
  exact List.isPerm_iff.mp h1.2
theorem zsp_of {n : Nat} (hn : n ≤ 6) {v : List Nat} (hv : v ∈ zT n zany false) : ∃ a, a ∈ zEL 14 0 0 n ∧ a.Perm (zars 1 v) := by
  have hb := Nat.eq_of_beq_eq_true (zchkB_all n (by omega))
  have hm : zdg 8 v ∈ (zT n zany false).map (zdg 8) := List.mem_map.mpr ⟨v, hv, rfl⟩
  rw [← zmask_bit, ← hb, zmask_bit] at hm
  obtain ⟨a, ha, e⟩ := List.mem_map.mp hm
  have h1 := List.all_eq_true.mp (zchkA_all n (by omega)) a ha
  rw [Bool.and_eq_true] at h1
  obtain ⟨hl, hx⟩ := zt_all hv
  have ev : zhs n a = v := zdg_inj (b := 8) (by rw [hl, zhs_len]) (fun h hh => by
    have := Nat.le_of_ble_eq_true (List.all_eq_true.mp h1.1 h hh)
    omega) (fun h hh => by have := hx h hh; omega) e
  refine ⟨a, ha, ?_⟩
  rw [← ev]
  exact List.isPerm_iff.mp h1.2
/-- the trees of a sentence's arcs are those of all arcs whose arcs are allowed -/
theorem zt_alw {n : Nat} {al : Nat → Nat → Bool} (hal : ∀ h w, al h w = true → h ≠ w) {cr : Bool} : ∀ (m : Nat) (v s : List Nat), s.length = m → (v ++ s ∈ zt n (zokf al cr) m v ↔ v ++ s ∈ zt n (zokf zany cr) m v ∧ zalw al (v.length + 1) s)
  | 0, v, s, hs => by
    have : s = [] := List.length_eq_zero_iff.mp hs
    subst this
    rw [List.append_nil]
    exact ⟨fun _ => ⟨List.mem_singleton.mpr rfl, trivial⟩, fun _ => List.mem_singleton.mpr rfl⟩
  | m + 1, v, s, hs => by
    cases s with
    | nil => cases hs
    | cons h t =>
      have ht : t.length = m := Nat.succ.inj hs
      have ih := zt_alw (n := n) hal (cr := cr) m (v ++ [h]) t ht
      have el : (v ++ [h]).length + 1 = v.length + 1 + 1 := by simp
      rw [List.append_assoc, el] at ih
      have ih : (v ++ h :: t ∈ zt n (zokf al cr) m (v ++ [h]) ↔ v ++ h :: t ∈ zt n (zokf zany cr) m (v ++ [h]) ∧ zalw al (v.length + 1 + 1) t) := ih
      have hd : ∀ (ok : List Nat → Nat → Bool) (x : Nat), v ++ h :: t ∈ zt n ok m (v ++ [x]) → x = h := fun ok x hx => by
        obtain ⟨s, e, -, -⟩ := zt_pre m _ _ hx
        rw [List.append_assoc] at e
        have e := List.append_cancel_left e
        exact (List.cons.inj e).1.symm
      rw [zt_mem, zt_mem]
      constructor
      · rintro ⟨x, hx, hok, hm⟩
        have := hd _ x hm
        subst this
        obtain ⟨i1, i2⟩ := ih.mp hm
        unfold zokf at hok
        rw [Bool.and_eq_true, Bool.and_eq_true] at hok
        refine ⟨⟨x, hx, ?_, i1⟩, hok.1.1, i2⟩
        unfold zokf zany
        rw [hok.1.2, hok.2]
        have hne := hal _ _ hok.1.1
        cases hb : Nat.beq x (v.length + 1) with
        | true => exact absurd (Nat.eq_of_beq_eq_true hb) hne
        | false => rfl
      · rintro ⟨⟨x, hx, hok, hm⟩, ha, hr⟩
        have := hd _ x hm
        subst this
        refine ⟨x, hx, ?_, ih.mpr ⟨hm, hr⟩⟩
        unfold zokf at hok ⊢
        rw [Bool.and_eq_true, Bool.and_eq_true] at hok
        rw [ha, hok.1.2, hok.2]
        rfl
theorem zT_alw {n : Nat} {al : Nat → Nat → Bool} (hal : ∀ h w, al h w = true → h ≠ w) {cr : Bool} {v : List Nat} : v ∈ zT n al cr ↔ v ∈ zT n zany cr ∧ zalw al 1 v := by
  constructor
  · intro h
    have hl := (zt_all h).1
    exact (zt_alw hal (cr := cr) n [] v hl).mp h
  · intro h
    have hl := (zt_all h.1).1
    exact (zt_alw hal (cr := cr) n [] v hl).mpr h
/-- an arc's key, if it is allowed -/
def zvl (n : Nat) (al : Nat → Nat → Bool) (sc : Nat → Nat → Int) (h w : Nat) : Option Int := if 1 ≤ w ∧ w ≤ n ∧ h ≤ n ∧ al h w = true then some (zkf sc h w) else none
theorem zps_ars {n : Nat} {al : Nat → Nat → Bool} {sc : Nat → Nat → Int} : ∀ (v : List Nat) (w : Nat), 1 ≤ w → w + v.length ≤ n + 1 → (∀ x ∈ v, x ≤ n) → ∀ z, zps (zvl n al sc) (zars w v) = some z ↔ zalw al w v ∧ z = zsum (zkf sc) w v
  | [], w, _, _, _, z => by
    show some (0 : Int) = some z ↔ True ∧ z = 0
    constructor
    · intro h; exact ⟨trivial, (Option.some.inj h).symm⟩
    · rintro ⟨-, rfl⟩; rfl
  | h :: t, w, hw, hl, hx, z => by
    have hlt : (h :: t).length = t.length + 1 := rfl
    have hh := hx h List.mem_cons_self
    have ih := zps_ars (n := n) (al := al) (sc := sc) t (w + 1) (by omega) (by omega) (fun x q => hx x (List.mem_cons_of_mem _ q))
    show zoadd (zvl n al sc h w) (zps (zvl n al sc) (zars (w + 1) t)) = some z ↔ (al h w = true ∧ zalw al (w + 1) t) ∧ z = zkf sc h w + zsum (zkf sc) (w + 1) t
    rw [zoadd_some]
    constructor
    · rintro ⟨x, y, h1, h2, h3⟩
      obtain ⟨h4, h5⟩ := (ih y).mp h2
      unfold zvl at h1
      by_cases q : 1 ≤ w ∧ w ≤ n ∧ h ≤ n ∧ al h w = true
      · rw [if_pos q] at h1
        exact ⟨⟨q.2.2.2, h4⟩, by rw [h3, ← Option.some.inj h1, h5]⟩
      · rw [if_neg q] at h1; cases h1
    · rintro ⟨⟨h1, h2⟩, h3⟩
      exact ⟨zkf sc h w, zsum (zkf sc) (w + 1) t, by unfold zvl; rw [if_pos ⟨hw, by omega, hh, h1⟩], (ih _).mpr ⟨h2, rfl⟩, h3⟩
/-- what the tables over spans give: the greatest key of a tree without crossings -/
def zBst (T : List (List Nat)) (kc : List Nat → Int) (o : Option Int) : Prop := (∀ z, o = some z → ∃ v, v ∈ T ∧ kc v = z) ∧ (∀ v, v ∈ T → ∃ z, o = some z ∧ kc v ≤ z)
theorem zsp_best {n : Nat} (hn : n ≤ 6) {al : Nat → Nat → Bool} (hal : ∀ h w, al h w = true → h ≠ w) (sc : Nat → Nat → Int) : zBst (zT n al false) (zkc sc) (zEV (zvl n al sc) 14 0 0 n) := by
  have hm := zE_max (zvl n al sc) 14 0 0 n
  constructor
  · intro z hz
    obtain ⟨a, ha, ea⟩ := hm.1 z hz
    obtain ⟨v, hv, hp⟩ := zsp_to hn ha
    obtain ⟨h1, h2⟩ := (zps_ars v 1 (Nat.le_refl 1) (by rw [(zt_all hv).1]; omega) (zt_all hv).2 z).mp (zps_perm hp z ea)
    exact ⟨v, (zT_alw hal).mpr ⟨hv, h1⟩, h2.symm⟩
  · intro v hv
    obtain ⟨h1, h2⟩ := (zT_alw hal).mp hv
    obtain ⟨a, ha, hp⟩ := zsp_of hn h1
    exact hm.2 a ha _ (zps_perm hp.symm _ ((zps_ars v 1 (Nat.le_refl 1) (by rw [(zt_all hv).1]; omega) (zt_all hv).2 _).mpr ⟨h2, rfl⟩))
