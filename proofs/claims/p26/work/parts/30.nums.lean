/-! PHASE 2: no machine from here on. Numbers: Int32 and Int64 as images of integers. -/
def iI (z : Int) : Int32 := Int32.ofInt z
def lI (z : Int) : Int64 := Int64.ofInt z
theorem iI_add (a b : Int) : iI a + iI b = iI (a + b) := (Int32.ofInt_add a b).symm
theorem iI_sub (a b : Int) : iI a - iI b = iI (a - b) := (Int32.ofInt_sub a b).symm
theorem iI_mul (a b : Int) : iI a * iI b = iI (a * b) := (Int32.ofInt_mul a b).symm
theorem lI_add (a b : Int) : lI a + lI b = lI (a + b) := (Int64.ofInt_add a b).symm
theorem lI_sub (a b : Int) : lI a - lI b = lI (a - b) := (Int64.ofInt_sub a b).symm
theorem lI_mul (a b : Int) : lI a * lI b = lI (a * b) := (Int64.ofInt_mul a b).symm
theorem lI_neg (a : Int) : - lI a = lI (-a) := (Int64.ofInt_neg a).symm
theorem iI_toInt {z : Int} (h : -2147483648 ≤ z) (h2 : z < 2147483648) : (iI z).toInt = z := Int32.toInt_ofInt_of_le (by omega) (by omega)
theorem lI_toInt {z : Int} (h : -9223372036854775808 ≤ z) (h2 : z < 9223372036854775808) : (lI z).toInt = z := Int64.toInt_ofInt_of_le (by omega) (by omega)
theorem nI_iI (n : Nat) : nI n = iI (n : Int) := (Int32.ofInt_eq_ofNat (n := n)).symm
theorem iI_le {a b : Int} (ha : -2147483648 ≤ a) (ha2 : a < 2147483648) (hb : -2147483648 ≤ b) (hb2 : b < 2147483648) : iI a ≤ iI b ↔ a ≤ b := by rw [Int32.le_iff_toInt_le, iI_toInt ha ha2, iI_toInt hb hb2]
theorem iI_lt {a b : Int} (ha : -2147483648 ≤ a) (ha2 : a < 2147483648) (hb : -2147483648 ≤ b) (hb2 : b < 2147483648) : iI a < iI b ↔ a < b := by rw [Int32.lt_iff_toInt_lt, iI_toInt ha ha2, iI_toInt hb hb2]
theorem iI_eq {a b : Int} (ha : -2147483648 ≤ a) (ha2 : a < 2147483648) (hb : -2147483648 ≤ b) (hb2 : b < 2147483648) : iI a = iI b ↔ a = b := by rw [← Int32.toInt_inj, iI_toInt ha ha2, iI_toInt hb hb2]
theorem lI_le {a b : Int} (ha : -9223372036854775808 ≤ a) (ha2 : a < 9223372036854775808) (hb : -9223372036854775808 ≤ b) (hb2 : b < 9223372036854775808) : lI a ≤ lI b ↔ a ≤ b := by rw [Int64.le_iff_toInt_le, lI_toInt ha ha2, lI_toInt hb hb2]
theorem lI_lt {a b : Int} (ha : -9223372036854775808 ≤ a) (ha2 : a < 9223372036854775808) (hb : -9223372036854775808 ≤ b) (hb2 : b < 9223372036854775808) : lI a < lI b ↔ a < b := by rw [Int64.lt_iff_toInt_lt, lI_toInt ha ha2, lI_toInt hb hb2]
theorem lI_eq {a b : Int} (ha : -9223372036854775808 ≤ a) (ha2 : a < 9223372036854775808) (hb : -9223372036854775808 ≤ b) (hb2 : b < 9223372036854775808) : lI a = lI b ↔ a = b := by rw [← Int64.toInt_inj, lI_toInt ha ha2, lI_toInt hb hb2]
theorem iI_long {z : Int} (h : -2147483648 ≤ z) (h2 : z < 2147483648) : (iI z).toInt64 = lI z := Int64.toInt_inj.mp (by rw [Int32.toInt_toInt64, iI_toInt h h2, lI_toInt (by omega) (by omega)])
theorem lI_int (z : Int) : (lI z).toInt32 = iI z := Int64.toInt32_ofInt
theorem lI_nkey : lI (-9223372036854775808) = (-9223372036854775808 : Int64) := by decide +kernel
theorem lI_div {a b : Int} (ha : -4611686018427387904 ≤ a) (ha2 : a ≤ 4611686018427387904) (hb : 0 < b) (hb2 : b ≤ 4611686018427387904) : lI a / lI b = lI (Int.tdiv a b) := by
  refine Int64.toInt_inj.mp ?_
  have h1 : (lI a).toInt = a := lI_toInt (by omega) (by omega)
  have h2 : (lI b).toInt = b := lI_toInt (by omega) (by omega)
  have h3 : -4611686018427387904 ≤ Int.tdiv a b ∧ Int.tdiv a b ≤ 4611686018427387904 := by
    rcases Int.le_total 0 a with h | h
    · have q1 := Int.tdiv_nonneg h (Int.le_of_lt hb)
      have q2 := Int.tdiv_le_self b h
      omega
    · have e : Int.tdiv a b = - Int.tdiv (-a) b := by rw [Int.neg_tdiv, Int.neg_neg]
      have q1 := Int.tdiv_nonneg (show 0 ≤ -a by omega) (Int.le_of_lt hb)
      have q2 := Int.tdiv_le_self b (show 0 ≤ -a by omega)
      omega
  rw [Int64.toInt_div, h1, h2, lI_toInt (by omega) (by omega)]
  exact Int.bmod_eq_of_le (by omega) (by omega)
theorem nI_lt0 (n : Nat) (h : n < 2147483648) : ¬ nI n < 0 := nI_pos h
/-! Memories: what a write leaves. -/
theorem zI_sI (M : ZM) (a k : Nat) (v : Int32) (b j : Nat) : zI (zsI M a k v) b j = if b = a ∧ j = k then v else zI M b j := rfl
theorem zJ_sI (M : ZM) (a k : Nat) (v : Int32) : zJ (zsI M a k v) = zJ M := rfl
theorem zR_sI (M : ZM) (a k : Nat) (v : Int32) : zR (zsI M a k v) = zR M := rfl
theorem zD_sI (M : ZM) (a k : Nat) (v : Int32) : zD (zsI M a k v) = zD M := rfl
theorem zI_sJ (M : ZM) (a k : Nat) (v : Int64) : zI (zsJ M a k v) = zI M := rfl
theorem zJ_sJ (M : ZM) (a k : Nat) (v : Int64) (b j : Nat) : zJ (zsJ M a k v) b j = if b = a ∧ j = k then v else zJ M b j := rfl
theorem zR_sJ (M : ZM) (a k : Nat) (v : Int64) : zR (zsJ M a k v) = zR M := rfl
theorem zD_sJ (M : ZM) (a k : Nat) (v : Int64) : zD (zsJ M a k v) = zD M := rfl
theorem zI_sR (M : ZM) (a k : Nat) (v : Option Nat) : zI (zsR M a k v) = zI M := rfl
theorem zJ_sR (M : ZM) (a k : Nat) (v : Option Nat) : zJ (zsR M a k v) = zJ M := rfl
theorem zR_sR (M : ZM) (a k : Nat) (v : Option Nat) (b j : Nat) : zR (zsR M a k v) b j = if b = a ∧ j = k then v else zR M b j := rfl
theorem zg_true {α : Type} (x : Option α) : zg true x = x := rfl
theorem zgK {α : Type} {K : Nat → Nat} {a t : Nat} (h : K a = t) (x : Option α) : zg (K a == t) x = x := by rw [h, beq_self_eq_true]; rfl
theorem zok_n {K len : Nat → Nat} {a t n m : Nat} (hK : K a = t) (hl : len a = m) (h : n < m) (hm : m < 2147483648) : zok K len a t (nI n) = true := by
  unfold zok
  rw [hK, hl, nI_clamp (by omega)]
  simp [nI_pos (show n < 2 ^ 31 by omega), h]
theorem zgok {α : Type} {K len : Nat → Nat} {a t n m : Nat} (hK : K a = t) (hl : len a = m) (h : n < m) (hm : m < 2147483648) (x : Option α) : zg (zok K len a t (nI n)) x = x := by rw [zok_n hK hl h hm]; rfl
theorem zgarr {α : Type} {K : Nat → Nat} {a t : Nat} (hK : K a = t) (h1 : 11 ≤ t) (h2 : t ≤ 17) (x : Option α) : zg (11 ≤ K a && K a ≤ 17) x = x := by
  rw [hK]
  simp [h1, h2, zg]
theorem zbindS {α β : Type} {x : Option α} {v : α} (h : x = some v) (f : α → Option β) : x.bind f = f v := by rw [h]; rfl
theorem zbpS {α β γ : Type} {x : Option (α × β)} {v : α} {w : β} (h : x = some (v, w)) (f : α → β → Option γ) : zbp x f = f v w := by rw [h]; rfl
theorem zlS {α β : Type} (x : α) (f : α → β) : zl x f = f x := rfl
/-! Pigeons: more than n steps among 1 .. n meet again. -/
theorem zpig : ∀ (n : Nat) (g : Nat → Nat), (∀ i, i ≤ n → 1 ≤ g i ∧ g i ≤ n) → ∃ i j, i < j ∧ j ≤ n ∧ g i = g j
  | 0, g, h => absurd (h 0 (Nat.le_refl 0)) (by omega)
  | n + 1, g, h => by
    by_cases hx : ∃ i, i ≤ n ∧ g i = g (n + 1)
    · obtain ⟨i, hi, e⟩ := hx
      exact ⟨i, n + 1, by omega, Nat.le_refl _, e⟩
    · have hne : ∀ i, i ≤ n → g i ≠ g (n + 1) := fun i hi e => hx ⟨i, hi, e⟩
      obtain ⟨i, j, h1, h2, e⟩ := zpig n (fun i => if g i = n + 1 then g (n + 1) else g i) (fun i hi => by
        show 1 ≤ (if g i = n + 1 then g (n + 1) else g i) ∧ (if g i = n + 1 then g (n + 1) else g i) ≤ n
        have hi1 := h i (by omega)
        have hn1 := h (n + 1) (Nat.le_refl _)
        have hne1 := hne i hi
        by_cases hc : g i = n + 1
        · rw [if_pos hc]
          omega
        · rw [if_neg hc]
          omega)
      refine ⟨i, j, h1, by omega, ?_⟩
      have hni := hne i (by omega)
      have hnj := hne j h2
      replace e : (if g i = n + 1 then g (n + 1) else g i) = (if g j = n + 1 then g (n + 1) else g j) := e
      by_cases hc : g i = n + 1 <;> by_cases hd : g j = n + 1
      · rw [hc, hd]
      · rw [if_pos hc, if_neg hd] at e
        exact absurd e.symm hnj
      · rw [if_neg hc, if_pos hd] at e
        exact absurd e hni
      · rw [if_neg hc, if_neg hd] at e
        exact e
