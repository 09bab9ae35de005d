/-! SPANS, pure: the tables over any algebra; over lists of arcs; over keys. -/
def zoadd : Option Int → Option Int → Option Int
  | some a, some b => some (a + b)
  | _, _ => none
def zomax : Option Int → Option Int → Option Int
  | none, b => b
  | some a, none => some a
  | some a, some b => some (if b < a then a else b)
def zosum (l : List (Option Int)) : Option Int := l.foldl zomax none
/-- kinds: 0 whole from left, 1 whole from right, 2 open from left, 3 open from right -/
def zES {α : Type} (one : α) (arc : Nat → Nat → α) (mul : α → α → α) (sum : List α → α) : Nat → Nat → Nat → Nat → α
  | 0, _, _, _ => one
  | f + 1, 0, l, r => if r ≤ l then one else sum ((List.range' l (r - l)).map fun c => mul (zES one arc mul sum f 2 l (c + 1)) (zES one arc mul sum f 0 (c + 1) r))
  | f + 1, 1, l, r => if r ≤ l then one else sum ((List.range' l (r - l)).map fun c => mul (zES one arc mul sum f 1 l c) (zES one arc mul sum f 3 c r))
  | f + 1, 2, l, r => mul (sum ((List.range' l (r - l)).map fun c => mul (zES one arc mul sum f 0 l c) (zES one arc mul sum f 1 (c + 1) r))) (arc l r)
  | f + 1, _ + 3, l, r => mul (sum ((List.range' l (r - l)).map fun c => mul (zES one arc mul sum f 0 l c) (zES one arc mul sum f 1 (c + 1) r))) (arc r l)
/-- how deep a table's entry goes -/
def zme (k l r : Nat) : Nat := if k < 2 then 2 * (r - l) + 1 else 2 * (r - l)
theorem zmc {α : Type} {s d : Nat} {f g : Nat → α} (h : ∀ c, s ≤ c → c < s + d → f c = g c) : (List.range' s d).map f = (List.range' s d).map g := List.map_congr_left (fun c hc => by rw [List.mem_range'_1] at hc; exact h c hc.1 hc.2)
theorem zES_fuel {α : Type} {one : α} {arc : Nat → Nat → α} {mul : α → α → α} {sum : List α → α} : ∀ (f f' k l r : Nat), (k < 2 ∨ l < r) → zme k l r ≤ f → zme k l r ≤ f' → zES one arc mul sum f k l r = zES one arc mul sum f' k l r
  | 0, f', k, l, r, h, h1, _ => by unfold zme at h1; split at h1 <;> omega
  | f + 1, 0, k, l, r, h, _, h2 => by unfold zme at h2; split at h2 <;> omega
  | f + 1, f' + 1, 0, l, r, _, h1, h2 => by
    unfold zme at h1 h2
    show (if r ≤ l then one else _) = (if r ≤ l then one else _)
    by_cases q : r ≤ l
    · rw [if_pos q, if_pos q]
    · rw [if_neg q, if_neg q]
      congr 1
      refine zmc (fun c hc1 hc2 => ?_)
      rw [zES_fuel f f' 2 l (c + 1) (by omega) (by unfold zme; simp at h1 ⊢; omega) (by unfold zme; simp at h2 ⊢; omega), zES_fuel f f' 0 (c + 1) r (by omega) (by unfold zme; simp at h1 ⊢; omega) (by unfold zme; simp at h2 ⊢; omega)]
  | f + 1, f' + 1, 1, l, r, _, h1, h2 => by
    unfold zme at h1 h2
    show (if r ≤ l then one else _) = (if r ≤ l then one else _)
    by_cases q : r ≤ l
    · rw [if_pos q, if_pos q]
    · rw [if_neg q, if_neg q]
      congr 1
      refine zmc (fun c hc1 hc2 => ?_)
      rw [zES_fuel f f' 1 l c (by omega) (by unfold zme; simp at h1 ⊢; omega) (by unfold zme; simp at h2 ⊢; omega), zES_fuel f f' 3 c r (by omega) (by unfold zme; simp at h1 ⊢; omega) (by unfold zme; simp at h2 ⊢; omega)]
  | f + 1, f' + 1, 2, l, r, _, h1, h2 => by
    unfold zme at h1 h2
    show mul (sum _) _ = mul (sum _) _
    congr 2
    refine zmc (fun c hc1 hc2 => ?_)
    rw [zES_fuel f f' 0 l c (by omega) (by unfold zme; simp at h1 ⊢; omega) (by unfold zme; simp at h2 ⊢; omega), zES_fuel f f' 1 (c + 1) r (by omega) (by unfold zme; simp at h1 ⊢; omega) (by unfold zme; simp at h2 ⊢; omega)]
  | f + 1, f' + 1, k + 3, l, r, _, h1, h2 => by
    unfold zme at h1 h2
    rw [if_neg (by omega)] at h1 h2
    show mul (sum _) _ = mul (sum _) _
    congr 2
    refine zmc (fun c hc1 hc2 => ?_)
    rw [zES_fuel f f' 0 l c (by omega) (by unfold zme; simp at h1 ⊢; omega) (by unfold zme; simp at h2 ⊢; omega), zES_fuel f f' 1 (c + 1) r (by omega) (by unfold zme; simp at h1 ⊢; omega) (by unfold zme; simp at h2 ⊢; omega)]
/-- what holds of each step holds of all entries -/
theorem zES_rel {α β : Type} (R : α → β → Prop) {one : α} {arc : Nat → Nat → α} {mul : α → α → α} {sum : List α → α} {one' : β} {arc' : Nat → Nat → β} {mul' : β → β → β} {sum' : List β → β} (h1 : R one one') (h2 : ∀ h w, R (arc h w) (arc' h w)) (h3 : ∀ a b a' b', R a a' → R b b' → R (mul a b) (mul' a' b')) (h4 : ∀ (l : List Nat) (f : Nat → α) (g : Nat → β), (∀ c, R (f c) (g c)) → R (sum (l.map f)) (sum' (l.map g))) : ∀ (f k l r : Nat), R (zES one arc mul sum f k l r) (zES one' arc' mul' sum' f k l r)
  | 0, _, _, _ => h1
  | f + 1, 0, l, r => by
    show R (if r ≤ l then one else _) (if r ≤ l then one' else _)
    by_cases q : r ≤ l
    · rw [if_pos q, if_pos q]; exact h1
    · rw [if_neg q, if_neg q]
      exact h4 _ _ _ (fun c => h3 _ _ _ _ (zES_rel R h1 h2 h3 h4 f 2 l (c + 1)) (zES_rel R h1 h2 h3 h4 f 0 (c + 1) r))
  | f + 1, 1, l, r => by
    show R (if r ≤ l then one else _) (if r ≤ l then one' else _)
    by_cases q : r ≤ l
    · rw [if_pos q, if_pos q]; exact h1
    · rw [if_neg q, if_neg q]
      exact h4 _ _ _ (fun c => h3 _ _ _ _ (zES_rel R h1 h2 h3 h4 f 1 l c) (zES_rel R h1 h2 h3 h4 f 3 c r))
  | f + 1, 2, l, r => h3 _ _ _ _ (h4 _ _ _ (fun c => h3 _ _ _ _ (zES_rel R h1 h2 h3 h4 f 0 l c) (zES_rel R h1 h2 h3 h4 f 1 (c + 1) r))) (h2 l r)
  | f + 1, k + 3, l, r => h3 _ _ _ _ (h4 _ _ _ (fun c => h3 _ _ _ _ (zES_rel R h1 h2 h3 h4 f 0 l c) (zES_rel R h1 h2 h3 h4 f 1 (c + 1) r))) (h2 r l)
/-- a set of arcs' key; none if one of them isn't -/
def zps (val : Nat → Nat → Option Int) : List (Nat × Nat) → Option Int
  | [] => some 0
  | a :: t => zoadd (val a.1 a.2) (zps val t)
theorem zoadd_some {a b : Option Int} {z : Int} : zoadd a b = some z ↔ ∃ x y, a = some x ∧ b = some y ∧ z = x + y := by
  constructor
  · intro h
    cases a with
    | none => cases h
    | some x =>
      cases b with
      | none => cases h
      | some y => exact ⟨x, y, rfl, rfl, (Option.some.inj h).symm⟩
  · rintro ⟨x, y, rfl, rfl, rfl⟩
    rfl
theorem zps_app (val : Nat → Nat → Option Int) : ∀ (a b : List (Nat × Nat)) (z : Int), zps val (a ++ b) = some z ↔ ∃ x y, zps val a = some x ∧ zps val b = some y ∧ z = x + y
  | [], b, z => by
    show zps val b = some z ↔ ∃ x y, some 0 = some x ∧ zps val b = some y ∧ z = x + y
    constructor
    · intro h; exact ⟨0, z, rfl, h, by omega⟩
    · rintro ⟨x, y, h1, h2, h3⟩
      have := Option.some.inj h1
      rw [h2, h3]; congr 1; omega
  | e :: a, b, z => by
    show zoadd (val e.1 e.2) (zps val (a ++ b)) = some z ↔ ∃ x y, zoadd (val e.1 e.2) (zps val a) = some x ∧ zps val b = some y ∧ z = x + y
    rw [zoadd_some]
    constructor
    · rintro ⟨p, q, h1, h2, h3⟩
      obtain ⟨x, y, h4, h5, h6⟩ := (zps_app val a b q).mp h2
      exact ⟨p + x, y, zoadd_some.mpr ⟨p, x, h1, h4, rfl⟩, h5, by omega⟩
    · rintro ⟨x, y, h1, h2, h3⟩
      obtain ⟨p, q, h4, h5, h6⟩ := zoadd_some.mp h1
      exact ⟨p, q + y, h4, (zps_app val a b (q + y)).mpr ⟨q, y, h5, h2, rfl⟩, by omega⟩
theorem zps_perm {val : Nat → Nat → Option Int} {a b : List (Nat × Nat)} (h : a.Perm b) : ∀ z, zps val a = some z → zps val b = some z := by
  induction h with
  | nil => exact fun z h => h
  | cons e _ ih =>
    intro z h
    obtain ⟨p, q, h1, h2, h3⟩ := zoadd_some.mp h
    exact zoadd_some.mpr ⟨p, q, h1, ih q h2, h3⟩
  | swap e f l =>
    intro z h
    obtain ⟨p, q, h1, h2, h3⟩ := zoadd_some.mp h
    obtain ⟨p2, q2, h4, h5, h6⟩ := zoadd_some.mp h2
    exact zoadd_some.mpr ⟨p2, p + q2, h4, zoadd_some.mpr ⟨p, q2, h1, h5, rfl⟩, by omega⟩
  | trans _ _ ih1 ih2 => exact fun z h => ih2 z (ih1 z h)
/-- the greatest of some -/
def zMx (val : Nat → Nat → Option Int) (L : List (List (Nat × Nat))) (o : Option Int) : Prop := (∀ z, o = some z → ∃ a, a ∈ L ∧ zps val a = some z) ∧ (∀ a, a ∈ L → ∀ y, zps val a = some y → ∃ z, o = some z ∧ y ≤ z)
theorem zomax_l {a b : Option Int} {x : Int} (h : a = some x) : ∃ z, zomax a b = some z ∧ x ≤ z := by
  subst h
  cases b with
  | none => exact ⟨x, rfl, Int.le_refl x⟩
  | some y =>
    refine ⟨if y < x then x else y, rfl, ?_⟩
    split <;> omega
theorem zomax_r {a b : Option Int} {x : Int} (h : b = some x) : ∃ z, zomax a b = some z ∧ x ≤ z := by
  subst h
  cases a with
  | none => exact ⟨x, rfl, Int.le_refl x⟩
  | some y =>
    refine ⟨if x < y then y else x, rfl, ?_⟩
    split <;> omega
theorem zomax_of {a b : Option Int} {z : Int} (h : zomax a b = some z) : a = some z ∨ b = some z := by
  cases a with
  | none => exact Or.inr h
  | some x =>
    cases b with
    | none => exact Or.inl h
    | some y =>
      have h : (if y < x then x else y) = z := Option.some.inj h
      by_cases q : y < x
      · rw [if_pos q] at h; subst h; exact Or.inl rfl
      · rw [if_neg q] at h; subst h; exact Or.inr rfl
theorem zfold_of : ∀ (l : List (Option Int)) (o : Option Int) (z : Int), l.foldl zomax o = some z → o = some z ∨ some z ∈ l
  | [], o, z, h => Or.inl h
  | a :: l, o, z, h => by
    rcases zfold_of l (zomax o a) z h with q | q
    · rcases zomax_of q with q | q
      · exact Or.inl q
      · exact Or.inr (by rw [q]; exact List.mem_cons_self)
    · exact Or.inr (List.mem_cons_of_mem _ q)
theorem zfold_ge : ∀ (l : List (Option Int)) (o : Option Int) (x : Int), (o = some x ∨ some x ∈ l) → ∃ z, l.foldl zomax o = some z ∧ x ≤ z
  | [], o, x, h => by
    rcases h with h | h
    · exact ⟨x, h, Int.le_refl x⟩
    · cases h
  | a :: l, o, x, h => by
    rcases h with h | h
    · obtain ⟨y, e, hy⟩ := zomax_l (b := a) h
      obtain ⟨z, e2, hz⟩ := zfold_ge l (zomax o a) y (Or.inl e)
      exact ⟨z, e2, by omega⟩
    · rcases List.mem_cons.mp h with h | h
      · obtain ⟨y, e, hy⟩ := zomax_r (a := o) h.symm
        obtain ⟨z, e2, hz⟩ := zfold_ge l (zomax o a) y (Or.inl e)
        exact ⟨z, e2, by omega⟩
      · exact zfold_ge l (zomax o a) x (Or.inr h)
def zlmul (a b : List (List (Nat × Nat))) : List (List (Nat × Nat)) := a.flatMap fun x => b.map fun y => x ++ y
/-- the tables over lists of arcs -/
def zEL (f k l r : Nat) : List (List (Nat × Nat)) := zES [[]] (fun h w => [[(h, w)]]) zlmul List.flatten f k l r
/-- .. and over keys -/
def zEV (val : Nat → Nat → Option Int) (f k l r : Nat) : Option Int := zES (some 0) val zoadd zosum f k l r
theorem zE_max (val : Nat → Nat → Option Int) (f k l r : Nat) : zMx val (zEL f k l r) (zEV val f k l r) := by
  refine zES_rel (zMx val) ?_ ?_ ?_ ?_ f k l r
  · refine ⟨fun z h => ⟨[], List.mem_singleton.mpr rfl, h⟩, fun a ha y hy => ?_⟩
    rw [List.mem_singleton.mp ha] at hy
    exact ⟨y, hy, Int.le_refl y⟩
  · intro h w
    have e : ∀ y, zps val [(h, w)] = some y ↔ val h w = some y := fun y => by
      show zoadd (val h w) (some 0) = some y ↔ _
      cases val h w with
      | none => exact Iff.rfl
      | some x => show some (x + 0) = some y ↔ _; rw [Int.add_zero]
    refine ⟨fun z hz => ⟨[(h, w)], List.mem_singleton.mpr rfl, (e z).mpr hz⟩, fun a ha y hy => ?_⟩
    rw [List.mem_singleton.mp ha] at hy
    exact ⟨y, (e y).mp hy, Int.le_refl y⟩
  · intro a b a' b' ha hb
    constructor
    · intro z hz
      obtain ⟨x, y, h1, h2, h3⟩ := zoadd_some.mp hz
      obtain ⟨u, hu, eu⟩ := ha.1 x h1
      obtain ⟨v, hv, ev⟩ := hb.1 y h2
      refine ⟨u ++ v, List.mem_flatMap.mpr ⟨u, hu, List.mem_map.mpr ⟨v, hv, rfl⟩⟩, (zps_app val u v z).mpr ⟨x, y, eu, ev, h3⟩⟩
    · intro s hs y hy
      obtain ⟨u, hu, h1⟩ := List.mem_flatMap.mp hs
      obtain ⟨v, hv, rfl⟩ := List.mem_map.mp h1
      obtain ⟨p, q, h2, h3, h4⟩ := (zps_app val u v y).mp hy
      obtain ⟨p', e1, h5⟩ := ha.2 u hu p h2
      obtain ⟨q', e2, h6⟩ := hb.2 v hv q h3
      exact ⟨p' + q', zoadd_some.mpr ⟨p', q', e1, e2, rfl⟩, by omega⟩
  · intro l f g h
    constructor
    · intro z hz
      rcases zfold_of _ _ _ hz with q | q
      · cases q
      · obtain ⟨c, hc, ec⟩ := List.mem_map.mp q
        obtain ⟨a, ha, ea⟩ := (h c).1 z ec
        exact ⟨a, List.mem_flatten.mpr ⟨f c, List.mem_map.mpr ⟨c, hc, rfl⟩, ha⟩, ea⟩
    · intro a ha y hy
      obtain ⟨L, hL, haL⟩ := List.mem_flatten.mp ha
      obtain ⟨c, hc, rfl⟩ := List.mem_map.mp hL
      obtain ⟨z, e, hz⟩ := (h c).2 a haL y hy
      obtain ⟨z', e', hz'⟩ := zfold_ge (l.map g) none z (Or.inr (List.mem_map.mpr ⟨c, hc, e⟩))
      exact ⟨z', e', by omega⟩
/-- no entry is too great -/
def zob (B : Int) (o : Option Int) : Prop := ∀ z, o = some z → -B ≤ z ∧ z ≤ B
theorem zob_mono {B C : Int} {o : Option Int} (h : zob B o) (hBC : B ≤ C) : zob C o := fun z e => by have := h z e; omega
theorem zob_add {B C : Int} {a b : Option Int} (h1 : zob B a) (h2 : zob C b) : zob (B + C) (zoadd a b) := fun z e => by
  obtain ⟨x, y, e1, e2, e3⟩ := zoadd_some.mp e
  have := h1 x e1
  have := h2 y e2
  omega
theorem zob_fold {B : Int} {l : List (Option Int)} {o : Option Int} (h0 : zob B o) (h : ∀ a, a ∈ l → zob B a) : zob B (l.foldl zomax o) := fun z e => by
  rcases zfold_of l o z e with q | q
  · exact h0 z q
  · exact h _ q z rfl
def zbB : Nat → Int
  | 0 => 0
  | f + 1 => zbB f + zbB f + 1000000000
theorem zbB_pos : ∀ f, 0 ≤ zbB f
  | 0 => Int.le_refl 0
  | f + 1 => by
    have := zbB_pos f
    show 0 ≤ zbB f + zbB f + 1000000000
    omega
theorem zEV_b {val : Nat → Nat → Option Int} (hv : ∀ h w, zob 1000000000 (val h w)) : ∀ (f k l r : Nat), zob (zbB f) (zEV val f k l r)
  | 0, k, l, r => fun z e => by
    have : some (0 : Int) = some z := e
    have := Option.some.inj this
    have : zbB 0 = 0 := rfl
    omega
  | f + 1, k, l, r => by
    have hp := zbB_pos f
    have e1 : zbB (f + 1) = zbB f + zbB f + 1000000000 := rfl
    have ih := zEV_b hv f
    have hone : zob (zbB (f + 1)) (some 0) := fun z e => by
      have := Option.some.inj e
      omega
    have hnone : ∀ B, zob B none := fun B z e => by cases e
    have hsum : ∀ (k1 k2 : Nat) (a b : Nat → Nat) (c d : Nat → Nat), zob (zbB f + zbB f) (zosum ((List.range' l (r - l)).map fun x => zoadd (zEV val f k1 (a x) (b x)) (zEV val f k2 (c x) (d x)))) := fun k1 k2 a b c d => zob_fold (hnone _) (fun y hy => by
      obtain ⟨x, -, rfl⟩ := List.mem_map.mp hy
      exact zob_add (ih k1 (a x) (b x)) (ih k2 (c x) (d x)))
    match k with
    | 0 =>
      show zob _ (if r ≤ l then some 0 else zosum ((List.range' l (r - l)).map fun c => zoadd (zEV val f 2 l (c + 1)) (zEV val f 0 (c + 1) r)))
      by_cases q : r ≤ l
      · rw [if_pos q]; exact hone
      · rw [if_neg q]; exact zob_mono (hsum 2 0 (fun _ => l) (fun c => c + 1) (fun c => c + 1) (fun _ => r)) (by omega)
    | 1 =>
      show zob _ (if r ≤ l then some 0 else zosum ((List.range' l (r - l)).map fun c => zoadd (zEV val f 1 l c) (zEV val f 3 c r)))
      by_cases q : r ≤ l
      · rw [if_pos q]; exact hone
      · rw [if_neg q]; exact zob_mono (hsum 1 3 (fun _ => l) (fun c => c) (fun c => c) (fun _ => r)) (by omega)
    | 2 => exact zob_mono (zob_add (hsum 0 1 (fun _ => l) (fun c => c) (fun c => c + 1) (fun _ => r)) (hv l r)) (by omega)
    | k + 3 => exact zob_mono (zob_add (hsum 0 1 (fun _ => l) (fun c => c) (fun c => c + 1) (fun _ => r)) (hv r l)) (by omega)
