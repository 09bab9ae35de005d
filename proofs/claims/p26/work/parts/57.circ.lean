/-! CIRCLES, pure: trees over nodes, contraction. -/
def zls (f : Nat → Int) : List Nat → Int
  | [] => 0
  | a :: l => f a + zls f l
theorem zls_congr {f g : Nat → Int} : ∀ {l : List Nat}, (∀ a ∈ l, f a = g a) → zls f l = zls g l
  | [], _ => rfl
  | a :: l, h => by
    show f a + zls f l = g a + zls g l
    rw [h a List.mem_cons_self, zls_congr (fun x hx => h x (List.mem_cons_of_mem _ hx))]
theorem zls_le {f g : Nat → Int} : ∀ {l : List Nat}, (∀ a ∈ l, f a ≤ g a) → zls f l ≤ zls g l
  | [], _ => Int.le_refl 0
  | a :: l, h => by
    have h1 := h a List.mem_cons_self
    have h2 := zls_le (fun x hx => h x (List.mem_cons_of_mem _ hx) : ∀ x ∈ l, f x ≤ g x)
    show f a + zls f l ≤ g a + zls g l
    omega
theorem zls_app (f : Nat → Int) : ∀ (l m : List Nat), zls f (l ++ m) = zls f l + zls f m
  | [], m => by show zls f m = 0 + zls f m; omega
  | a :: l, m => by
    show f a + zls f (l ++ m) = f a + zls f l + zls f m
    rw [zls_app f l m]; omega
theorem zls_add (f g : Nat → Int) : ∀ (l : List Nat), zls (fun a => f a + g a) l = zls f l + zls g l
  | [] => rfl
  | a :: l => by
    show f a + g a + zls (fun a => f a + g a) l = f a + zls f l + (g a + zls g l)
    rw [zls_add f g l]; omega
theorem zls_filter (f : Nat → Int) (p : Nat → Bool) : ∀ (l : List Nat), zls f l = zls f (l.filter fun a => !p a) + zls f (l.filter p)
  | [] => rfl
  | a :: l => by
    have ih := zls_filter f p l
    show f a + zls f l = _
    cases h : p a with
    | true =>
      rw [List.filter_cons_of_neg (by simp [h]), List.filter_cons_of_pos h]
      show f a + zls f l = _ + (f a + zls f (l.filter p))
      omega
    | false =>
      rw [List.filter_cons_of_pos (by simp [h]), List.filter_cons_of_neg (by simp [h])]
      show f a + zls f l = (f a + zls f (l.filter fun a => !p a)) + _
      omega
theorem zls_map (f : Nat → Int) (g : Nat → Nat) : ∀ (l : List Nat), zls f (l.map g) = zls (fun a => f (g a)) l
  | [] => rfl
  | a :: l => by
    show f (g a) + zls f (l.map g) = f (g a) + zls _ l
    rw [zls_map f g l]
theorem zls_0 {f : Nat → Int} : ∀ {l : List Nat}, (∀ a ∈ l, f a = 0) → zls f l = 0
  | [], _ => rfl
  | a :: l, h => by
    show f a + zls f l = 0
    rw [h a List.mem_cons_self, zls_0 (fun x hx => h x (List.mem_cons_of_mem _ hx))]; rfl
theorem zls_n {f : Nat → Int} : ∀ {l : List Nat}, (∀ a ∈ l, f a ≤ 0) → zls f l ≤ 0
  | [], _ => Int.le_refl 0
  | a :: l, h => by
    have h1 := h a List.mem_cons_self
    have h2 := zls_n (fun x hx => h x (List.mem_cons_of_mem _ hx) : ∀ x ∈ l, f x ≤ 0)
    show f a + zls f l ≤ 0
    omega
theorem zls_one {f : Nat → Int} {u : Nat} : ∀ {l : List Nat}, l.Nodup → u ∈ l → (∀ a ∈ l, a ≠ u → f a = 0) → zls f l = f u
  | [], _, h, _ => by cases h
  | a :: l, hn, hu, h => by
    rw [List.nodup_cons] at hn
    show f a + zls f l = f u
    by_cases q : a = u
    · subst q
      rw [zls_0 (fun x hx => h x (List.mem_cons_of_mem _ hx) (fun e => hn.1 (e ▸ hx)))]; omega
    · rw [h a List.mem_cons_self q, zls_one hn.2 ((List.mem_cons.mp hu).resolve_left (fun e => q e.symm)) (fun x hx => h x (List.mem_cons_of_mem _ hx))]; omega
theorem zls_le_one {f : Nat → Int} {u : Nat} : ∀ {l : List Nat}, u ∈ l → (∀ a ∈ l, f a ≤ 0) → zls f l ≤ f u
  | [], h, _ => by cases h
  | a :: l, hu, h => by
    show f a + zls f l ≤ f u
    have h1 := h a List.mem_cons_self
    by_cases q : a = u
    · subst q
      have := zls_n (fun x hx => h x (List.mem_cons_of_mem _ hx) : ∀ x ∈ l, f x ≤ 0)
      omega
    · have := zls_le_one ((List.mem_cons.mp hu).resolve_left (fun e => q e.symm)) (fun x hx => h x (List.mem_cons_of_mem _ hx) : ∀ x ∈ l, f x ≤ 0)
      omega
/-- a tree over the nodes 0 .. m - 1, by ranks -/
def zTr (m : Nat) (K : Nat → Nat → Option Int) (t r : Nat → Nat) : Prop := ∀ w, 1 ≤ w → w < m → t w < m ∧ r (t w) < r w ∧ ∃ z, K (t w) w = some z
def zwt (m : Nat) (K : Nat → Nat → Option Int) (t : Nat → Nat) : Int := zls (fun w => (K (t w) w).getD 0) (List.range' 1 (m - 1))
def zBs (m : Nat) (K : Nat → Nat → Option Int) (o : Option Int) : Prop := (∀ z, o = some z → ∃ t r, zTr m K t r ∧ zwt m K t = z) ∧ (∀ t r, zTr m K t r → ∃ z, o = some z ∧ zwt m K t ≤ z)
/-- the greatest arc of each node -/
def zTk (m : Nat) (K : Nat → Nat → Option Int) (tk : Nat → Nat) (y : Nat → Int) : Prop := ∀ w, 1 ≤ w → w < m → tk w < m ∧ K (tk w) w = some (y w) ∧ ∀ h, h < m → ∀ z, K h w = some z → z ≤ y w
theorem zr1 {m w : Nat} : w ∈ List.range' 1 (m - 1) ↔ 1 ≤ w ∧ w < m := by rw [List.mem_range'_1]; omega
theorem zBs_none {m : Nat} {K : Nat → Nat → Option Int} {w : Nat} (h1 : 1 ≤ w) (h2 : w < m) (h : ∀ h, h < m → K h w = none) : zBs m K none := by
  refine ⟨fun z e => (by cases e), fun t r ht => ?_⟩
  obtain ⟨a, -, z, e⟩ := ht w h1 h2
  rw [h _ a] at e
  cases e
theorem zBs_tree {m : Nat} {K : Nat → Nat → Option Int} {tk : Nat → Nat} {y : Nat → Int} (h : zTk m K tk y) {r : Nat → Nat} (hr : ∀ w, 1 ≤ w → w < m → r (tk w) < r w) : zBs m K (some (zls y (List.range' 1 (m - 1)))) := by
  constructor
  · intro z e
    refine ⟨tk, r, fun w h1 h2 => ⟨(h w h1 h2).1, hr w h1 h2, _, (h w h1 h2).2.1⟩, ?_⟩
    rw [← Option.some.inj e]
    exact zls_congr (fun w hw => by
      rw [zr1] at hw
      show (K (tk w) w).getD 0 = y w
      rw [(h w hw.1 hw.2).2.1]; rfl)
  · intro t r ht
    refine ⟨_, rfl, zls_le (fun w hw => ?_)⟩
    rw [zr1] at hw
    obtain ⟨a, -, z, e⟩ := ht w hw.1 hw.2
    show (K (t w) w).getD 0 ≤ y w
    rw [e]
    exact (h w hw.1 hw.2).2.2 _ a z e
/-- how many of the first p nodes aren't on the circle -/
def zcc (C : Nat → Bool) : Nat → Nat
  | 0 => 0
  | p + 1 => zcc C p + (if C p = true then 0 else 1)
theorem zcc_mono {C : Nat → Bool} {p : Nat} : ∀ {q : Nat}, p ≤ q → zcc C p ≤ zcc C q
  | 0, h => by rw [show p = 0 by omega]; exact Nat.le_refl _
  | q + 1, h => by
    by_cases e : p = q + 1
    · rw [e]; exact Nat.le_refl _
    · have := zcc_mono (C := C) (p := p) (q := q) (by omega)
      show _ ≤ zcc C q + _
      omega
theorem zcc_lt {C : Nat → Bool} {p q : Nat} (h : p < q) (hp : C p = false) : zcc C p < zcc C q := by
  have h1 := zcc_mono (C := C) (show p + 1 ≤ q from h)
  have h2 : zcc C (p + 1) = zcc C p + 1 := by
    show zcc C p + (if C p = true then 0 else 1) = _
    rw [hp, if_neg (by decide)]
  omega
theorem zcc_le {C : Nat → Bool} : ∀ p, zcc C p ≤ p
  | 0 => Nat.le_refl 0
  | p + 1 => by
    have := zcc_le (C := C) p
    show zcc C p + (if C p = true then 0 else 1) ≤ p + 1
    split <;> omega
theorem zcc_one {C : Nat → Bool} {u : Nat} (hu : C u = true) : ∀ p, u < p → zcc C p + 1 ≤ p
  | 0, h => absurd h (Nat.not_lt_zero u)
  | p + 1, h => by
    show zcc C p + (if C p = true then 0 else 1) + 1 ≤ p + 1
    by_cases e : u = p
    · subst e
      rw [if_pos hu]
      have := zcc_le (C := C) u
      omega
    · have := zcc_one hu p (by omega)
      split <;> omega
theorem zcc_two {C : Nat → Bool} {u v : Nat} (hu : C u = true) (hv : C v = true) (huv : u < v) : ∀ p, v < p → zcc C p + 2 ≤ p
  | 0, h => absurd h (Nat.not_lt_zero v)
  | p + 1, h => by
    show zcc C p + (if C p = true then 0 else 1) + 2 ≤ p + 1
    by_cases e : v = p
    · subst e
      rw [if_pos hv]
      have := zcc_one hu v huv
      omega
    · have := zcc_two hu hv huv p (by omega)
      split <;> omega
/-- the nodes that aren't on the circle, numbered anew -/
theorem zcc_list {C : Nat → Bool} (h0 : C 0 = false) : ∀ j, ((List.range' 1 j).filter fun a => !C a).map (zcc C) = List.range' 1 (zcc C (j + 1) - 1)
  | 0 => by
    show [] = List.range' 1 (zcc C 0 + (if C 0 = true then 0 else 1) - 1)
    rw [h0, if_neg (by decide)]
    rfl
  | j + 1 => by
    have ih := zcc_list h0 j
    have e : zcc C (j + 1 + 1) = zcc C (j + 1) + (if C (j + 1) = true then 0 else 1) := rfl
    have hp : 1 ≤ zcc C (j + 1) := by
      have := zcc_lt (C := C) (show 0 < j + 1 by omega) h0
      omega
    rw [List.range'_1_concat, List.filter_append, List.map_append, ih, e, show 1 + j = j + 1 by omega]
    cases hc : C (j + 1) with
    | true =>
      rw [List.filter_cons_of_neg (by simp [hc]), if_pos rfl]
      show _ ++ [] = _
      rw [List.append_nil]
      rfl
    | false =>
      rw [List.filter_cons_of_pos (by simp [hc]), if_neg (by decide), show zcc C (j + 1) + 1 - 1 = (zcc C (j + 1) - 1) + 1 by omega, List.range'_1_concat, show 1 + (zcc C (j + 1) - 1) = zcc C (j + 1) by omega]
      rfl
theorem zbnd (f : Nat → Nat) : ∀ m, ∃ B, ∀ w, w < m → f w ≤ B
  | 0 => ⟨0, fun w h => absurd h (Nat.not_lt_zero w)⟩
  | m + 1 => by
    obtain ⟨B, hB⟩ := zbnd f m
    refine ⟨B + f m, fun w h => ?_⟩
    by_cases e : w = m
    · subst e; omega
    · have := hB w (by omega); omega
theorem zleast {P : Nat → Prop} (h : ∃ j, P j) : ∃ j, P j ∧ ∀ i, P i → j ≤ i := by
  obtain ⟨j, hj⟩ := h
  induction j using Nat.strongRecOn with
  | ind j ih =>
    by_cases q : ∃ i, i < j ∧ P i
    · obtain ⟨i, h1, h2⟩ := q
      exact ih i h1 h2
    · exact ⟨j, hj, fun i hi => Decidable.byContradiction fun z => q ⟨i, by omega, hi⟩⟩
/-- what is offered to the contracted nodes -/
def zKc (m : Nat) (K K' : Nat → Nat → Option Int) (g : Nat → Nat) (y : Nat → Int) (done : Nat → Nat → Prop) : Prop :=
  (∀ a b z, K' a b = some z → ∃ h w x, done h w ∧ h < m ∧ 1 ≤ w ∧ w < m ∧ g h = a ∧ g w = b ∧ a ≠ b ∧ K h w = some x ∧ z = x - y w) ∧
  (∀ h w x, done h w → h < m → 1 ≤ w → w < m → g h ≠ g w → K h w = some x → ∃ z, K' (g h) (g w) = some z ∧ x - y w ≤ z)
/-- groups: the circle is the last node -/
def zgr (C : Nat → Bool) (m p : Nat) : Nat := if C p = true then zcc C m else zcc C p
/-- contraction: the best tree of the contracted nodes tells the best of all -/
theorem zcontract {m : Nat} {K K' : Nat → Nat → Option Int} {tk : Nat → Nat} {y : Nat → Int} {C : Nat → Bool} (hm : 1 ≤ m) (hT : zTk m K tk y) (h0 : C 0 = false) (hC : ∀ p, C p = true → p < m ∧ C (tk p) = true) (hne : ∃ u, C u = true)
    (hd : ∀ u, C u = true → ∃ d : Nat → Nat, ∀ w, C w = true → w ≠ u → d (tk w) < d w)
    (hK : zKc m K K' (zgr C m) y (fun _ _ => True)) {o : Option Int} (ho : zBs (zcc C m + 1) K' o) : zBs m K (o.map fun z => zls y (List.range' 1 (m - 1)) + z) := by
  have gC : ∀ p, C p = true → zgr C m p = zcc C m := fun p h => if_pos h
  have gN : ∀ p, C p = false → zgr C m p = zcc C p := fun p h => if_neg (by rw [h]; decide)
  have gl : ∀ p, p < m → C p = false → zgr C m p < zcc C m := fun p h1 h2 => by rw [gN p h2]; exact zcc_lt h1 h2
  have g0 : zgr C m 0 = 0 := gN 0 h0
  have gp : ∀ p, 1 ≤ p → 1 ≤ zgr C m p := fun p hp => by
    have h1 := zcc_lt (C := C) (show 0 < p by omega) h0
    have h2 := zcc_lt (C := C) (show 0 < m by omega) h0
    unfold zgr
    split <;> omega
  have gi : ∀ p q, C p = false → C q = false → zgr C m p = zgr C m q → p = q := fun p q hp hq e => by
    rw [gN p hp, gN q hq] at e
    rcases Nat.lt_trichotomy p q with h | h | h
    · have := zcc_lt h hp; omega
    · exact h
    · have := zcc_lt h hq; omega
  have gmap : ((List.range' 1 (m - 1)).filter fun a => !C a).map (zgr C m) = List.range' 1 (zcc C m - 1) := by
    have h := zcc_list h0 (m - 1)
    rw [show m - 1 + 1 = m by omega] at h
    rw [← h]
    refine List.map_congr_left (fun a ha => ?_)
    have := (List.mem_filter.mp ha).2
    exact gN a (by simpa using this)
  have hc1 : 1 ≤ zcc C m := by
    have := zcc_lt (C := C) (show 0 < m by omega) h0
    omega
  have split : ∀ x : Nat → Int, zls x (List.range' 1 (zcc C m + 1 - 1)) = zls x (List.range' 1 (zcc C m - 1)) + x (zcc C m) := fun x => by
    rw [Nat.add_sub_cancel]
    obtain ⟨c, hc⟩ : ∃ c, zcc C m = c + 1 := ⟨zcc C m - 1, by omega⟩
    rw [hc, List.range'_1_concat, zls_app, Nat.add_sub_cancel, show 1 + c = c + 1 by omega]
    show _ + (x (c + 1) + 0) = _
    omega
  have mNC : ∀ w, w ∈ (List.range' 1 (m - 1)).filter (fun a => !C a) ↔ (1 ≤ w ∧ w < m) ∧ C w = false := fun w => by
    rw [List.mem_filter, zr1]
    simp
  have mFC : ∀ w, w ∈ (List.range' 1 (m - 1)).filter C ↔ (1 ≤ w ∧ w < m) ∧ C w = true := fun w => by rw [List.mem_filter, zr1]
  have hCpos : ∀ p, C p = true → 1 ≤ p := fun p hp => by
    rcases Nat.eq_zero_or_pos p with q | q
    · subst q; rw [h0] at hp; cases hp
    · exact q
  have hlin : ∀ t, zwt m K t = zls y (List.range' 1 (m - 1)) + zls (fun w => (K (t w) w).getD 0 - y w) (List.range' 1 (m - 1)) := fun t => by
    rw [← zls_add]
    exact zls_congr (fun w _ => by show (K (t w) w).getD 0 = y w + ((K (t w) w).getD 0 - y w); omega)
  constructor
  · intro z hz
    obtain ⟨z', rfl⟩ : ∃ z', o = some z' := by
      cases o with
      | none => cases hz
      | some z' => exact ⟨z', rfl⟩
    have hz : zls y (List.range' 1 (m - 1)) + z' = z := Option.some.inj hz
    obtain ⟨t', r', ht', ez⟩ := ho.1 z' rfl
    -- where each arc of the contracted tree comes from
    have hch : ∀ b, ∃ p : Nat × Nat, 1 ≤ b → b < zcc C m + 1 → p.1 < m ∧ 1 ≤ p.2 ∧ p.2 < m ∧ zgr C m p.1 = t' b ∧ zgr C m p.2 = b ∧ ∃ x, K p.1 p.2 = some x ∧ (K' (t' b) b).getD 0 = x - y p.2 := fun b => by
      by_cases q : 1 ≤ b ∧ b < zcc C m + 1
      · obtain ⟨-, -, x', e⟩ := ht' b q.1 q.2
        obtain ⟨h, w, x, -, h1, h2, h3, h4, h5, -, h6, h7⟩ := hK.1 _ _ _ e
        exact ⟨(h, w), fun _ _ => ⟨h1, h2, h3, h4, h5, x, h6, by rw [e]; exact h7⟩⟩
      · exact ⟨(0, 0), fun a b => absurd ⟨a, b⟩ q⟩
    obtain ⟨pr, hpr⟩ : ∃ pr : Nat → Nat × Nat, ∀ b, 1 ≤ b → b < zcc C m + 1 → (pr b).1 < m ∧ 1 ≤ (pr b).2 ∧ (pr b).2 < m ∧ zgr C m (pr b).1 = t' b ∧ zgr C m (pr b).2 = b ∧ ∃ x, K (pr b).1 (pr b).2 = some x ∧ (K' (t' b) b).getD 0 = x - y (pr b).2 := ⟨fun b => Classical.choose (hch b), fun b => Classical.choose_spec (hch b)⟩
    have hcu := hpr (zcc C m) hc1 (by omega)
    have hu : C (pr (zcc C m)).2 = true := by
      cases q : C (pr (zcc C m)).2 with
      | true => rfl
      | false =>
        have := gl _ hcu.2.2.1 q
        have := hcu.2.2.2.2.1
        omega
    obtain ⟨d, hdd⟩ := hd _ hu
    obtain ⟨B, hB⟩ := zbnd d m
    have hw2 : ∀ w, 1 ≤ w → w < m → C w = false → (pr (zgr C m w)).2 = w := fun w h1 h2 h3 => by
      have hb := hpr (zgr C m w) (gp w h1) (by have := gl w h2 h3; omega)
      refine gi _ _ ?_ h3 hb.2.2.2.2.1
      cases q : C (pr (zgr C m w)).2 with
      | false => rfl
      | true =>
        have h4 := gC _ q
        have h5 := gl w h2 h3
        have h6 := hb.2.2.2.2.1
        omega
    -- the tree of all nodes
    obtain ⟨t, et⟩ : ∃ t : Nat → Nat, ∀ w, t w = if C w = true then (if w = (pr (zcc C m)).2 then (pr (zcc C m)).1 else tk w) else (pr (zgr C m w)).1 := ⟨_, fun _ => rfl⟩
    have tN : ∀ w, C w = false → t w = (pr (zgr C m w)).1 := fun w h => by rw [et, if_neg (by rw [h]; decide)]
    have tU : t (pr (zcc C m)).2 = (pr (zcc C m)).1 := by rw [et, if_pos hu, if_pos rfl]
    have tC : ∀ w, C w = true → w ≠ (pr (zcc C m)).2 → t w = tk w := fun w h h2 => by rw [et, if_pos h, if_neg h2]
    have hmul : ∀ a b x : Nat, a < b → x ≤ B → a * (B + 1) + x < b * (B + 1) := fun a b x h1 h2 => by
      have h3 : (a + 1) * (B + 1) ≤ b * (B + 1) := Nat.mul_le_mul_right _ h1
      rw [Nat.succ_mul] at h3
      omega
    have hrk : ∀ w, w < m → (if C w = true then d w else 0) ≤ B := fun w h => by
      split
      · exact hB w h
      · omega
    have hRdec : ∀ w, 1 ≤ w → w < m → t w < m ∧ (r' (zgr C m (t w)) * (B + 1) + (if C (t w) = true then d (t w) else 0)) < (r' (zgr C m w) * (B + 1) + (if C w = true then d w else 0)) ∧ ∃ z, K (t w) w = some z := by
      intro w h1 h2
      cases q : C w with
      | false =>
        have hb := hpr (zgr C m w) (gp w h1) (by have := gl w h2 q; omega)
        have hr := (ht' (zgr C m w) (gp w h1) (by have := gl w h2 q; omega)).2.1
        obtain ⟨x, e1, -⟩ := hb.2.2.2.2.2
        rw [hw2 w h1 h2 q] at e1
        rw [tN w q]
        refine ⟨hb.1, ?_, x, e1⟩
        rw [hb.2.2.2.1]
        have := hmul _ _ _ hr (hrk _ hb.1)
        omega
      | true =>
        by_cases e : w = (pr (zcc C m)).2
        · have hr := (ht' (zcc C m) hc1 (by omega)).2.1
          obtain ⟨x, e1, -⟩ := hcu.2.2.2.2.2
          subst e
          rw [tU]
          refine ⟨hcu.1, ?_, x, e1⟩
          rw [hcu.2.2.2.1, hcu.2.2.2.2.1]
          have := hmul _ _ _ hr (hrk _ hcu.1)
          omega
        · rw [tC w q e]
          have h3 := hC w q
          refine ⟨(hT w h1 h2).1, ?_, _, (hT w h1 h2).2.1⟩
          rw [gC _ h3.2, gC _ q, if_pos h3.2, if_pos rfl]
          have := hdd w q e
          omega
    refine ⟨t, fun w => r' (zgr C m w) * (B + 1) + (if C w = true then d w else 0), hRdec, ?_⟩
    rw [hlin t, ← hz, ← ez]
    congr 1
    show _ = zls (fun b => (K' (t' b) b).getD 0) (List.range' 1 (zcc C m + 1 - 1))
    rw [split, ← gmap, zls_map, zls_filter _ C]
    congr 1
    · refine zls_congr (fun w hw => ?_)
      obtain ⟨⟨h1, h2⟩, h3⟩ := (mNC w).mp hw
      have hb := hpr (zgr C m w) (gp w h1) (by have := gl w h2 h3; omega)
      obtain ⟨x, e1, e2⟩ := hb.2.2.2.2.2
      rw [hw2 w h1 h2 h3] at e1 e2
      show (K (t w) w).getD 0 - y w = (K' (t' (zgr C m w)) (zgr C m w)).getD 0
      rw [tN w h3, e1, e2]
      rfl
    · have hnd : ((List.range' 1 (m - 1)).filter C).Nodup := List.Pairwise.filter _ List.nodup_range'
      rw [zls_one hnd ((mFC _).mpr ⟨⟨hcu.2.1, hcu.2.2.1⟩, hu⟩) (fun w hw hne => ?_)]
      · obtain ⟨x, e1, e2⟩ := hcu.2.2.2.2.2
        show (K (t (pr (zcc C m)).2) (pr (zcc C m)).2).getD 0 - y (pr (zcc C m)).2 = (K' (t' (zcc C m)) (zcc C m)).getD 0
        rw [tU, e1, e2]
        rfl
      · obtain ⟨⟨h1, h2⟩, h3⟩ := (mFC w).mp hw
        show (K (t w) w).getD 0 - y w = 0
        rw [tC w h3 hne, (hT w h1 h2).2.1]
        show y w - y w = 0
        omega
  · intro t r ht
    -- the node of the circle of least rank
    obtain ⟨u, hu, hmin⟩ : ∃ u, C u = true ∧ ∀ w, C w = true → r u ≤ r w := by
      obtain ⟨j, ⟨u, h1, h2⟩, h3⟩ := zleast (P := fun j => ∃ u, C u = true ∧ r u = j) (by
        obtain ⟨u, hu⟩ := hne
        exact ⟨r u, u, hu, rfl⟩)
      exact ⟨u, h1, fun w hw => by rw [h2]; exact h3 _ ⟨w, hw, rfl⟩⟩
    have hum := (hC u hu).1
    have hu1 := hCpos u hu
    have htu := ht u hu1 hum
    have htuC : C (t u) = false := by
      cases q : C (t u) with
      | false => rfl
      | true =>
        have := hmin _ q
        have := htu.2.1
        omega
    -- which node a contracted one was
    have hiv : ∀ b, ∃ w, 1 ≤ b → b < zcc C m → (1 ≤ w ∧ w < m) ∧ C w = false ∧ zgr C m w = b := fun b => by
      by_cases q : 1 ≤ b ∧ b < zcc C m
      · have hb : b ∈ List.range' 1 (zcc C m - 1) := by rw [List.mem_range'_1]; omega
        rw [← gmap] at hb
        obtain ⟨w, hw, e⟩ := List.mem_map.mp hb
        have := (mNC w).mp hw
        exact ⟨w, fun _ _ => ⟨this.1, this.2, e⟩⟩
      · exact ⟨0, fun a b => absurd ⟨a, b⟩ q⟩
    obtain ⟨iv, hivs⟩ : ∃ iv : Nat → Nat, ∀ b, 1 ≤ b → b < zcc C m → (1 ≤ iv b ∧ iv b < m) ∧ C (iv b) = false ∧ zgr C m (iv b) = b := ⟨fun b => Classical.choose (hiv b), fun b => Classical.choose_spec (hiv b)⟩
    have ivg : ∀ w, 1 ≤ w → w < m → C w = false → iv (zgr C m w) = w := fun w h1 h2 h3 => by
      have hb := hivs (zgr C m w) (gp w h1) (gl w h2 h3)
      exact gi _ _ hb.2.1 h3 hb.2.2
    obtain ⟨t', et'⟩ : ∃ t' : Nat → Nat, ∀ b, t' b = if b = zcc C m then zgr C m (t u) else zgr C m (t (iv b)) := ⟨_, fun _ => rfl⟩
    obtain ⟨r', er'⟩ : ∃ r' : Nat → Nat, ∀ b, r' b = if b = zcc C m then r u else if b = 0 then r 0 else r (iv b) := ⟨_, fun _ => rfl⟩
    have hrg : ∀ p, p < m → r' (zgr C m p) ≤ r p := fun p hp => by
      rw [er']
      cases q : C p with
      | true => rw [gC p q, if_pos rfl]; exact hmin p q
      | false =>
        have h1 := gl p hp q
        rw [if_neg (by omega)]
        rcases Nat.eq_zero_or_pos p with h | h
        · subst h; rw [g0, if_pos rfl]; exact Nat.le_refl _
        · have := gp p h
          rw [if_neg (by omega), ivg p h hp q]; exact Nat.le_refl _
    have gm : ∀ p, p < m → zgr C m p < zcc C m + 1 := fun p hp => by
      cases q : C p with
      | true => rw [gC p q]; omega
      | false => have := gl p hp q; omega
    have hcir : zgr C m (t u) ≠ zgr C m u := by
      have := gl _ htu.1 htuC
      rw [gC u hu]; omega
    have hK2 : ∀ w, 1 ≤ w → w < m → zgr C m (t w) ≠ zgr C m w → ∃ z, K' (zgr C m (t w)) (zgr C m w) = some z ∧ (K (t w) w).getD 0 - y w ≤ z := fun w h1 h2 h3 => by
      obtain ⟨h4, -, x, e⟩ := ht w h1 h2
      obtain ⟨z, e2, h5⟩ := hK.2 _ _ _ trivial h4 h1 h2 h3 e
      exact ⟨z, e2, by rw [e]; exact h5⟩
    have hncir : ∀ w, 1 ≤ w → w < m → C w = false → zgr C m (t w) ≠ zgr C m w := fun w h1 h2 h3 e => by
      have h4 := ht w h1 h2
      cases q : C (t w) with
      | true =>
        rw [gC _ q] at e
        have := gl w h2 h3
        omega
      | false =>
        have := gi _ _ q h3 e
        have h5 := h4.2.1
        rw [this] at h5
        omega
    have tr' : zTr (zcc C m + 1) K' t' r' := by
      intro b h1 h2
      by_cases e : b = zcc C m
      · obtain ⟨z, e2, -⟩ := hK2 u hu1 hum hcir
        rw [gC u hu] at e2
        rw [et', if_pos e, er' b, if_pos e, e]
        refine ⟨gm _ htu.1, ?_, z, e2⟩
        have := hrg _ htu.1
        have := htu.2.1
        omega
      · have hb := hivs b h1 (by omega)
        have h4 := ht (iv b) hb.1.1 hb.1.2
        obtain ⟨z, e2, -⟩ := hK2 (iv b) hb.1.1 hb.1.2 (hncir _ hb.1.1 hb.1.2 hb.2.1)
        rw [hb.2.2] at e2
        rw [et', if_neg e, er' b, if_neg e, if_neg (by omega)]
        refine ⟨gm _ h4.1, ?_, z, e2⟩
        have := hrg _ h4.1
        have := h4.2.1
        omega
    obtain ⟨z', ez, hle⟩ := ho.2 t' r' tr'
    subst ez
    refine ⟨_, rfl, ?_⟩
    rw [hlin t]
    have hle : zls (fun b => (K' (t' b) b).getD 0) (List.range' 1 (zcc C m + 1 - 1)) ≤ z' := hle
    rw [split, ← gmap, zls_map] at hle
    rw [zls_filter (fun w => (K (t w) w).getD 0 - y w) C]
    have h1 : zls (fun w => (K (t w) w).getD 0 - y w) ((List.range' 1 (m - 1)).filter fun a => !C a) ≤ zls (fun a => (K' (t' (zgr C m a)) (zgr C m a)).getD 0) ((List.range' 1 (m - 1)).filter fun a => !C a) := zls_le (fun w hw => by
      obtain ⟨⟨h1, h2⟩, h3⟩ := (mNC w).mp hw
      obtain ⟨z, e2, h5⟩ := hK2 w h1 h2 (hncir w h1 h2 h3)
      have h6 := gl w h2 h3
      show (K (t w) w).getD 0 - y w ≤ (K' (t' (zgr C m w)) (zgr C m w)).getD 0
      rw [et', if_neg (by omega), ivg w h1 h2 h3, e2]
      exact h5)
    have h2 : zls (fun w => (K (t w) w).getD 0 - y w) ((List.range' 1 (m - 1)).filter C) ≤ (K (t u) u).getD 0 - y u := zls_le_one (f := fun w => (K (t w) w).getD 0 - y w) ((mFC u).mpr ⟨⟨hu1, hum⟩, hu⟩) (fun w hw => by
      obtain ⟨⟨h1, h2⟩, -⟩ := (mFC w).mp hw
      obtain ⟨h4, -, x, e⟩ := ht w h1 h2
      show (K (t w) w).getD 0 - y w ≤ 0
      rw [e]
      have := (hT w h1 h2).2.2 _ h4 x e
      show x - y w ≤ 0
      omega)
    have h3 : (K (t u) u).getD 0 - y u ≤ (K' (t' (zcc C m)) (zcc C m)).getD 0 := by
      obtain ⟨z, e2, h5⟩ := hK2 u hu1 hum hcir
      rw [gC u hu] at e2
      rw [et', if_pos rfl, e2]
      exact h5
    show zls y (List.range' 1 (m - 1)) + _ ≤ zls y (List.range' 1 (m - 1)) + z'
    omega
