/-! Heads as lists: the head of word w stands at w - 1. Digits, and the two orders of keys. -/
def zdg (b : Nat) : List Nat → Nat
  | [] => 0
  | h :: t => h * b ^ t.length + zdg b t
def zlex : List Nat → List Nat → Prop
  | a :: u, c :: v => a < c ∨ (a = c ∧ zlex u v)
  | _, _ => False
theorem zdg_lt {b : Nat} : ∀ (v : List Nat), (∀ h ∈ v, h < b) → zdg b v < b ^ v.length
  | [], _ => by simp [zdg]
  | h :: t, hv => by
    have h1 := zdg_lt t (fun x hx => hv x (List.mem_cons_of_mem _ hx))
    have h2 : h + 1 ≤ b := hv h List.mem_cons_self
    have h3 : (h + 1) * b ^ t.length ≤ b * b ^ t.length := Nat.mul_le_mul_right _ h2
    show h * b ^ t.length + zdg b t < b ^ (t.length + 1)
    rw [Nat.pow_succ, Nat.mul_comm (b ^ t.length) b]
    rw [Nat.succ_mul] at h3
    omega
theorem zdg_cmp {b : Nat} : ∀ (u v : List Nat), u.length = v.length → (∀ h ∈ u, h < b) → (∀ h ∈ v, h < b) → (zdg b u < zdg b v ↔ zlex u v)
  | [], [], _, _, _ => by simp [zdg, zlex]
  | a :: u, c :: v, hl, hu, hv => by
    have hl2 : u.length = v.length := Nat.succ.inj hl
    have ih := zdg_cmp u v hl2 (fun x hx => hu x (List.mem_cons_of_mem _ hx)) (fun x hx => hv x (List.mem_cons_of_mem _ hx))
    have h1 := zdg_lt u (fun x hx => hu x (List.mem_cons_of_mem _ hx))
    have h2 := zdg_lt v (fun x hx => hv x (List.mem_cons_of_mem _ hx))
    show a * b ^ u.length + zdg b u < c * b ^ v.length + zdg b v ↔ (a < c ∨ (a = c ∧ zlex u v))
    rw [← hl2] at h2 ⊢
    rw [← ih]
    generalize b ^ u.length = P at *
    rcases Nat.lt_trichotomy a c with h | h | h
    · have h3 : (a + 1) * P ≤ c * P := Nat.mul_le_mul_right _ h
      rw [Nat.succ_mul] at h3
      constructor
      · intro _; exact Or.inl h
      · intro _; omega
    · subst h
      constructor
      · intro q; exact Or.inr ⟨rfl, by omega⟩
      · intro q; rcases q with q | q
        · omega
        · omega
    · have h3 : (c + 1) * P ≤ a * P := Nat.mul_le_mul_right _ h
      rw [Nat.succ_mul] at h3
      constructor
      · intro q; exact absurd q (by omega)
      · intro q; rcases q with q | q
        · omega
        · omega
  | [], c :: v, hl, _, _ => by cases hl
  | a :: u, [], hl, _, _ => by cases hl
theorem zlex_total : ∀ (u v : List Nat), u.length = v.length → zlex u v ∨ u = v ∨ zlex v u
  | [], [], _ => Or.inr (Or.inl rfl)
  | a :: u, c :: v, hl => by
    rcases Nat.lt_trichotomy a c with h | h | h
    · exact Or.inl (Or.inl h)
    · subst h
      rcases zlex_total u v (Nat.succ.inj hl) with q | q | q
      · exact Or.inl (Or.inr ⟨rfl, q⟩)
      · exact Or.inr (Or.inl (by rw [q]))
      · exact Or.inr (Or.inr (Or.inr ⟨rfl, q⟩))
    · exact Or.inr (Or.inr (Or.inl h))
  | [], c :: v, hl => by cases hl
  | a :: u, [], hl => by cases hl
theorem zlex_irr : ∀ (u : List Nat), ¬ zlex u u
  | [], h => h
  | a :: u, h => h.elim (fun q => Nat.lt_irrefl a q) (fun q => zlex_irr u q.2)
theorem zlex_trans : ∀ (u v w : List Nat), zlex u v → zlex v w → zlex u w
  | a :: u, c :: v, d :: w, h1, h2 => by
    rcases h1 with h1 | ⟨h1, h3⟩ <;> rcases h2 with h2 | ⟨h2, h4⟩
    · exact Or.inl (by omega)
    · exact Or.inl (by omega)
    · exact Or.inl (by omega)
    · exact Or.inr ⟨by omega, zlex_trans u v w h3 h4⟩
  | [], _, _, h1, _ => by cases h1
  | _ :: _, [], _, h1, _ => by cases h1
  | _ :: _, _ :: _, [], _, h2 => by cases h2
theorem zdg_inj {b : Nat} {u v : List Nat} (hl : u.length = v.length) (hu : ∀ h ∈ u, h < b) (hv : ∀ h ∈ v, h < b) (e : zdg b u = zdg b v) : u = v := by
  rcases zlex_total u v hl with h | h | h
  · exact absurd ((zdg_cmp u v hl hu hv).mpr h) (by omega)
  · exact h
  · exact absurd ((zdg_cmp v u hl.symm hv hu).mpr h) (by omega)
theorem zdg_snoc (b : Nat) : ∀ (v : List Nat) (h : Nat), zdg b (v ++ [h]) = b * zdg b v + h
  | [], h => by simp [zdg]
  | a :: v, h => by
    show a * b ^ (v ++ [h]).length + zdg b (v ++ [h]) = b * (a * b ^ v.length + zdg b v) + h
    rw [zdg_snoc b v h, List.length_append, Nat.mul_add]
    show a * b ^ (v.length + 1) + (b * zdg b v + h) = _
    rw [Nat.pow_succ, ← Nat.mul_assoc, Nat.mul_comm b (a * b ^ v.length)]
    omega
/-- the digits of the class's keys: the first word's counts 7 ^ 5, whatever the number of words -/
def zc7 (v : List Nat) : Nat := 7 ^ (6 - v.length) * zdg 7 v
def zkC (sc : Int) (v : List Nat) : Int := sc * 117649 - (zc7 v : Int)
def zkM (sc : Int) (v : List Nat) : Int := (100000 - sc) * 262144 + (zdg 8 v : Int)
theorem zc7_lt {v : List Nat} (hl : v.length ≤ 6) (hv : ∀ h ∈ v, h < 7) : zc7 v < 117649 := by
  have h1 := zdg_lt v hv
  unfold zc7
  have h2 : 7 ^ (6 - v.length) * zdg 7 v < 7 ^ (6 - v.length) * 7 ^ v.length := Nat.mul_lt_mul_of_pos_left h1 (Nat.pow_pos (by decide))
  rw [← Nat.pow_add, show 6 - v.length + v.length = 6 by omega] at h2
  exact h2
theorem zc8_lt {v : List Nat} (hl : v.length ≤ 6) (hv : ∀ h ∈ v, h < 7) : zdg 8 v < 262144 := by
  have h1 := zdg_lt (b := 8) v (fun h hh => Nat.lt_trans (hv h hh) (by decide))
  have h2 : 8 ^ v.length ≤ 8 ^ 6 := Nat.pow_le_pow_right (by decide) hl
  omega
theorem zc7_cmp {u v : List Nat} (hl : u.length = v.length) (hu : ∀ h ∈ u, h < 7) (hv : ∀ h ∈ v, h < 7) : zc7 u < zc7 v ↔ zdg 8 u < zdg 8 v := by
  rw [zdg_cmp u v hl (fun h hh => Nat.lt_trans (hu h hh) (by decide)) (fun h hh => Nat.lt_trans (hv h hh) (by decide)), ← zdg_cmp u v hl hu hv]
  unfold zc7
  rw [hl]
  exact Nat.mul_lt_mul_left (Nat.pow_pos (by decide))
/-- the two orders of keys are one, turned round -/
theorem zkey_cmp {u v : List Nat} {a b : Int} (hl : u.length = v.length) (h6 : u.length ≤ 6) (hu : ∀ h ∈ u, h < 7) (hv : ∀ h ∈ v, h < 7) : zkC a u < zkC b v ↔ zkM b v < zkM a u := by
  have h1 := zc7_lt h6 hu
  have h2 := zc7_lt (hl ▸ h6) hv
  have h3 := zc8_lt h6 hu
  have h4 := zc8_lt (hl ▸ h6) hv
  have h5 := zc7_cmp hl hu hv
  have h7 := zc7_cmp hl.symm hv hu
  unfold zkC zkM
  omega
theorem zkM_inj {u v : List Nat} {a b : Int} (hl : u.length = v.length) (h6 : u.length ≤ 6) (hu : ∀ h ∈ u, h < 7) (hv : ∀ h ∈ v, h < 7) (e : zkM a u = zkM b v) : a = b ∧ u = v := by
  have h3 := zc8_lt h6 hu
  have h4 := zc8_lt (hl ▸ h6) hv
  unfold zkM at e
  have h5 : zdg 8 u = zdg 8 v := by omega
  exact ⟨by omega, zdg_inj hl (fun h hh => Nat.lt_trans (hu h hh) (by decide)) (fun h hh => Nat.lt_trans (hv h hh) (by decide)) h5⟩
theorem zkC_inj {u v : List Nat} {a b : Int} (hl : u.length = v.length) (h6 : u.length ≤ 6) (hu : ∀ h ∈ u, h < 7) (hv : ∀ h ∈ v, h < 7) (e : zkC a u = zkC b v) : a = b ∧ u = v := by
  have q1 := zkey_cmp (a := a) (b := b) hl h6 hu hv
  have q2 := zkey_cmp (a := b) (b := a) hl.symm (hl ▸ h6) hv hu
  exact zkM_inj hl h6 hu hv (by omega)
/-- the head of word w -/
def zhd (v : List Nat) (w : Nat) : Nat := v.getD (w - 1) 0
/-- the sum of a tree's arcs, from word w on -/
def zsum (f : Nat → Nat → Int) : Nat → List Nat → Int
  | _, [] => 0
  | w, h :: t => f h w + zsum f (w + 1) t
theorem zsum_snoc (f : Nat → Nat → Int) : ∀ (v : List Nat) (w h : Nat), zsum f w (v ++ [h]) = zsum f w v + f h (w + v.length)
  | [], w, h => by simp [zsum]
  | a :: v, w, h => by
    show f a w + zsum f (w + 1) (v ++ [h]) = f a w + zsum f (w + 1) v + f h (w + (v.length + 1))
    rw [zsum_snoc f v (w + 1) h, show w + 1 + v.length = w + (v.length + 1) by omega]
    omega
/-- the class's key of a tree is the sum of the keys of its arcs -/
theorem zsum_key (f : Nat → Nat → Int) : ∀ (v : List Nat) (w : Nat), v.length + w ≤ 7 → 1 ≤ w → zsum (fun h w => f h w * 117649 - (h : Int) * (7 ^ (6 - w) : Nat)) w v = zsum f w v * 117649 - (7 ^ (7 - w - v.length) * zdg 7 v : Nat)
  | [], w, _, _ => by simp [zsum, zdg]
  | h :: t, w, hw, h1 => by
    have ih := zsum_key f t (w + 1) (by simp only [List.length_cons] at hw; omega) (by omega)
    show f h w * 117649 - (h : Int) * (7 ^ (6 - w) : Nat) + zsum _ (w + 1) t = (f h w + zsum f (w + 1) t) * 117649 - (7 ^ (7 - w - (t.length + 1)) * (h * 7 ^ t.length + zdg 7 t) : Nat)
    rw [ih]
    simp only [List.length_cons] at hw
    have e1 : 7 ^ (7 - w - (t.length + 1)) * (h * 7 ^ t.length + zdg 7 t) = h * 7 ^ (6 - w) + 7 ^ (7 - (w + 1) - t.length) * zdg 7 t := by
      rw [Nat.mul_add, show 7 - w - (t.length + 1) = 7 - (w + 1) - t.length by omega, Nat.mul_left_comm, ← Nat.pow_add, show 7 - (w + 1) - t.length + t.length = 6 - w by omega]
    rw [e1]
    simp only [Int.natCast_add, Int.natCast_mul]
    generalize ((7 ^ (6 - w) : Nat) : Int) = P
    generalize ((7 ^ (7 - (w + 1) - t.length) : Nat) : Int) = R
    generalize zsum f (w + 1) t = S
    rw [Int.add_mul]
    omega
