/-! The trees of a sentence of n words, in their order. m: how many words are still without a head. -/
def zt (n : Nat) (ok : List Nat → Nat → Bool) : Nat → List Nat → List (List Nat)
  | 0, v => [v]
  | m + 1, v => (List.range' 0 (n + 1)).flatMap fun h => if ok v h then zt n ok m (v ++ [h]) else []
theorem zt_mem {n : Nat} {ok : List Nat → Nat → Bool} {m : Nat} {u v : List Nat} : u ∈ zt n ok (m + 1) v ↔ ∃ h, h ≤ n ∧ ok v h = true ∧ u ∈ zt n ok m (v ++ [h]) := by
  show u ∈ (List.range' 0 (n + 1)).flatMap _ ↔ _
  rw [List.mem_flatMap]
  constructor
  · rintro ⟨h, hh, hu⟩
    rw [List.mem_range'_1] at hh
    by_cases hk : ok v h = true
    · rw [if_pos hk] at hu
      exact ⟨h, by omega, hk, hu⟩
    · rw [if_neg hk] at hu
      cases hu
  · rintro ⟨h, hh, hk, hu⟩
    refine ⟨h, by rw [List.mem_range'_1]; omega, ?_⟩
    rw [if_pos hk]
    exact hu
theorem zt_pre {n : Nat} {ok : List Nat → Nat → Bool} : ∀ (m : Nat) (u v : List Nat), u ∈ zt n ok m v → ∃ s, u = v ++ s ∧ s.length = m ∧ ∀ h ∈ s, h ≤ n
  | 0, u, v, h => ⟨[], by simpa using List.mem_singleton.mp h, rfl, fun h hh => by cases hh⟩
  | m + 1, u, v, h => by
    obtain ⟨a, ha, -, hu⟩ := zt_mem.mp h
    obtain ⟨s, e, hs, hd⟩ := zt_pre m u (v ++ [a]) hu
    refine ⟨a :: s, by rw [e, List.append_assoc]; rfl, by rw [List.length_cons, hs], fun x hx => ?_⟩
    rcases List.mem_cons.mp hx with rfl | q
    · exact ha
    · exact hd x q
theorem zt_all {n : Nat} {ok : List Nat → Nat → Bool} {u : List Nat} (h : u ∈ zt n ok n []) : u.length = n ∧ ∀ x ∈ u, x ≤ n := by
  obtain ⟨s, e, hs, hd⟩ := zt_pre n u [] h
  rw [List.nil_append] at e
  subst e
  exact ⟨hs, hd⟩
theorem zlex_app : ∀ (v a b : List Nat), zlex (v ++ a) (v ++ b) ↔ zlex a b
  | [], _, _ => Iff.rfl
  | x :: v, a, b => by
    show (x < x ∨ (x = x ∧ zlex (v ++ a) (v ++ b))) ↔ _
    rw [zlex_app v a b]
    constructor
    · intro h; exact h.elim (fun q => absurd q (Nat.lt_irrefl x)) (fun q => q.2)
    · intro h; exact Or.inr ⟨rfl, h⟩
theorem zt_sorted {n : Nat} {ok : List Nat → Nat → Bool} : ∀ (m : Nat) (v : List Nat), (zt n ok m v).Pairwise zlex
  | 0, v => List.pairwise_singleton _ _
  | m + 1, v => by
    show ((List.range' 0 (n + 1)).flatMap _).Pairwise zlex
    rw [List.pairwise_flatMap]
    refine ⟨fun h _ => ?_, ?_⟩
    · by_cases hk : ok v h = true
      · rw [if_pos hk]; exact zt_sorted m (v ++ [h])
      · rw [if_neg hk]; exact List.Pairwise.nil
    · refine List.Pairwise.imp (R := fun a b => a < b) (fun {a b} hab x hx y hy => ?_) List.pairwise_lt_range'
      by_cases ha : ok v a = true
      · by_cases hb : ok v b = true
        · rw [if_pos ha] at hx
          rw [if_pos hb] at hy
          obtain ⟨s, e, -, -⟩ := zt_pre m x (v ++ [a]) hx
          obtain ⟨t, e2, -, -⟩ := zt_pre m y (v ++ [b]) hy
          rw [e, e2, List.append_assoc, List.append_assoc, zlex_app]
          exact Or.inl hab
        · rw [if_neg hb] at hy; cases hy
      · rw [if_neg ha] at hx; cases hx
theorem zt_nodup {n : Nat} {ok : List Nat → Nat → Bool} (m : Nat) (v : List Nat) : (zt n ok m v).Nodup :=
  List.Pairwise.imp (R := zlex) (S := fun a b => a ≠ b) (fun {a b} h e => by subst e; exact zlex_irr _ h) (zt_sorted m v)
/-- fewer may, fewer are -/
theorem zt_le {n : Nat} {ok ok' : List Nat → Nat → Bool} (h : ∀ v a, ok v a = true → ok' v a = true) : ∀ (m : Nat) (v : List Nat), (zt n ok m v).length ≤ (zt n ok' m v).length
  | 0, _ => Nat.le_refl _
  | m + 1, v => by
    show ((List.range' 0 (n + 1)).flatMap _).length ≤ ((List.range' 0 (n + 1)).flatMap _).length
    generalize List.range' 0 (n + 1) = l
    induction l with
    | nil => exact Nat.le_refl _
    | cons a l ih =>
      rw [List.flatMap_cons, List.flatMap_cons, List.length_append, List.length_append]
      refine Nat.add_le_add ?_ ih
      by_cases hk : ok v a = true
      · rw [if_pos hk, if_pos (h v a hk)]
        exact zt_le h m (v ++ [a])
      · rw [if_neg hk]
        exact Nat.zero_le _
/-! Which head a word may take: never a circle with the words ahead of it; the arc allowed; no crossing, if so asked. -/
/-- up from a place, through the words that have a head -/
def zch (v : List Nat) : Nat → Nat → Nat
  | 0, p => p
  | k + 1, p => if 0 < p ∧ p ≤ v.length then zch v k (zhd v p) else p
def zcr (h w a v : Nat) : Bool :=
  (decide (min h w < min a v) && decide (min a v < max h w) && decide (max h w < max a v)) || (decide (min a v < min h w) && decide (min h w < max a v) && decide (max a v < max h w))
def zcrs (v : List Nat) (h : Nat) : Bool := (List.range' 1 v.length).any fun o => zcr h (v.length + 1) (zhd v o) o
def zokf (al : Nat → Nat → Bool) (cr : Bool) (v : List Nat) (h : Nat) : Bool := al h (v.length + 1) && !(zch v 7 h == v.length + 1) && (cr || !zcrs v h)
def zT (n : Nat) (al : Nat → Nat → Bool) (cr : Bool) : List (List Nat) := zt n (zokf al cr) n []
/-- how many trees there are, at most -/
def zcnt (n : Nat) (ok : List Nat → Nat → Bool) : Nat → List Nat → Nat
  | 0, _ => 1
  | m + 1, v => (List.range' 0 (n + 1)).foldl (fun a h => bif ok v h then a + zcnt n ok m (v ++ [h]) else a) 0
theorem zcnt_len {n : Nat} {ok : List Nat → Nat → Bool} : ∀ (m : Nat) (v : List Nat), (zt n ok m v).length = zcnt n ok m v
  | 0, _ => rfl
  | m + 1, v => by
    show ((List.range' 0 (n + 1)).flatMap _).length = (List.range' 0 (n + 1)).foldl _ 0
    have key : ∀ (l : List Nat) (a : Nat), l.foldl (fun a h => bif ok v h then a + zcnt n ok m (v ++ [h]) else a) a = a + (l.flatMap fun h => if ok v h then zt n ok m (v ++ [h]) else []).length := by
      intro l
      induction l with
      | nil => intro a; rfl
      | cons h l ih =>
        intro a
        rw [List.foldl_cons, ih, List.flatMap_cons, List.length_append]
        cases hk : ok v h with
        | true => rw [cond_true, if_pos rfl, zcnt_len m (v ++ [h])]; omega
        | false => rw [cond_false, if_neg (by decide)]; simp
    rw [key, Nat.zero_add]
def zany (h w : Nat) : Bool := !(Nat.beq h w)
theorem zcnt_5 : zcnt 5 (zokf zany true) 5 [] = 1296 := by decide +kernel
theorem zcnt_6 : zcnt 6 (zokf zany true) 6 [] = 16807 := by decide +kernel
theorem zT_len {n : Nat} (hn : n ≤ 6) {al : Nat → Nat → Bool} (hal : ∀ h w, al h w = true → h ≠ w) (cr : Bool) : (zT n al cr).length ≤ 16807 := by
  have h1 : (zT n al cr).length ≤ (zt n (zokf zany true) n []).length := zt_le (fun v a h => by
    unfold zokf at h ⊢
    simp only [Bool.and_eq_true] at h
    have h2 : zany a (v.length + 1) = true := by
      unfold zany
      have h3 := hal _ _ h.1.1
      cases hb : Nat.beq a (v.length + 1) with
      | true => exact absurd (Nat.eq_of_beq_eq_true hb) h3
      | false => rfl
    rw [h2, h.1.2]
    simp) n []
  rw [zcnt_len] at h1
  refine Nat.le_trans h1 ?_
  rcases (show n = 0 ∨ n = 1 ∨ n = 2 ∨ n = 3 ∨ n = 4 ∨ n = 5 ∨ n = 6 by omega) with rfl | rfl | rfl | rfl | rfl | rfl | rfl
  · decide +kernel
  · decide +kernel
  · decide +kernel
  · decide +kernel
  · decide +kernel
  · rw [zcnt_5]; decide
  · rw [zcnt_6]; exact Nat.le_refl _
