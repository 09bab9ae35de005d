/-! THE LAYOUT with k sentences: the class's own places 0 .. 111, sentence s at 112 + 11 s. -/
def zK0 : Nat → Nat := kA_X6_init (va_up (fun _ => 0) 0 7) 0
def zl0 : Nat → Nat := lA_X6_init (fun _ => 0) 0
def zKs : Nat → Nat → Nat
  | 0 => zK0
  | k + 1 => kA_X2_init (va_up (zKs k) (112 + 11 * k) 3) (112 + 11 * k)
def zln : Nat → Nat → Nat
  | 0 => zl0
  | k + 1 => lA_X2_init (zln k) (112 + 11 * k)
def zMz : ZM := (fun _ _ => 0, fun _ _ => 0, fun _ _ => none, fun _ _ => 0)
theorem zKs_low : ∀ (k a : Nat), a < 112 → zKs k a = zK0 a
  | 0, _, _ => rfl
  | k + 1, a, h => by
    have e : zKs (k + 1) a = zKs k a := by
      show kA_X2_init (va_up (zKs k) (112 + 11 * k) 3) (112 + 11 * k) a = _
      unfold kA_X2_init zmu
      rw [if_neg (by omega), if_neg (by omega), va_up_ne _ _ (by omega), va_up_ne _ _ (by omega), va_up_ne _ _ (by omega)]
    rw [e, zKs_low k a h]
theorem zln_low : ∀ (k a : Nat), a < 112 → zln k a = zl0 a
  | 0, _, _ => rfl
  | k + 1, a, h => by
    have e : zln (k + 1) a = zln k a := by
      show lA_X2_init (zln k) (112 + 11 * k) a = _
      unfold lA_X2_init zmu
      rw [if_neg (by omega), if_neg (by omega), va_up_ne _ _ (by omega), va_up_ne _ _ (by omega)]
    rw [e, zln_low k a h]
theorem zKs_0 (k : Nat) : zKs k 0 = 7 := (zKs_low k 0 (by decide)).trans (by decide +kernel)
theorem zKs_1 (k : Nat) : zKs k 1 = 14 := (zKs_low k 1 (by decide)).trans (by decide +kernel)
theorem zKs_new (k : Nat) : zKs (k + 1) (112 + 11 * k) = 3 := by
  show kA_X2_init (va_up (zKs k) (112 + 11 * k) 3) (112 + 11 * k) (112 + 11 * k) = _
  unfold kA_X2_init zmu
  rw [if_neg (by omega), if_neg (by omega), va_up_ne _ _ (by omega), va_up_ne _ _ (by omega), va_up_self]
/-- another way of laying the places out, the same on those that there are -/
theorem zfl_ad {ad ad' : Nat → Nat} {M : ZM} {a : Nat} (h : ∀ j r, zR M a j = some r → ad r = ad' r) : ∀ (ts : List Bool) (k : Nat), zfl ad M a k ts = zfl ad' M a k ts
  | [], _ => rfl
  | t :: ts, k => by
    show zfv ad M a k t :: _ = zfv ad' M a k t :: _
    rw [zfl_ad h ts (k + 1)]
    congr 1
    cases t with
    | true => rfl
    | false =>
      unfold zfv
      cases hr : zR M a k with
      | none => rfl
      | some r => simp [h k r hr]
theorem zrow_ad {ad ad' : Nat → Nat} {M : ZM} {a : Nat} (h : ∀ j r, zR M a j = some r → ad r = ad' r) : (fun j => (zR M a j).map ad) = (fun j => (zR M a j).map ad') := funext fun j => by
  cases hr : zR M a j with
  | none => rfl
  | some r => simp [h j r hr]
theorem zWd_ad {D : va_G} {cy : Nat → ClassId} {ad ad' : Nat → Nat} {L : List Nat} {K len : Nat → Nat} {M : ZM} {H : Heap} (ha : ∀ a ∈ L, ad a = ad' a) (hc : ∀ a ∈ L, ∀ j r, zR M a j = some r → r ∈ L) (hW : zWd D cy ad L K len M H) : zWd D cy ad' L K len M H := by
  have e : zpl ad L (zent cy ad K len M) = zpl ad' L (zent cy ad' K len M) := by
    unfold zpl
    refine List.map_congr_left (fun a h => ?_)
    have h9 : ∀ j r, zR M a j = some r → ad r = ad' r := fun j r q => ha r (hc a h j r q)
    rw [ha a h]
    unfold zent
    rw [zfl_ad h9, zrow_ad h9]
  unfold zWd at hW ⊢
  rw [← e]
  exact hW
theorem zSh_ad {ad ad' : Nat → Nat} {L : List Nat} {K : Nat → Nat} (ha : ∀ a ∈ L, ad a = ad' a) (h : zSh ad L K) : zSh ad' L K := ⟨h.1, h.2.1, fun a h1 b h2 e => h.2.2 a h1 b h2 (by rw [ha a h1, ha b h2]; exact e)⟩
theorem zA_hi {ad : Nat → Nat} {L : List Nat} {sz : Nat} (h : ∀ a ∈ L, sz ≤ ad a) : ∀ q, zA ad L sz q → sz ≤ q := fun q hq => hq.elim (fun ⟨a, h1, h2⟩ => by rw [h2]; exact h a h1) id
