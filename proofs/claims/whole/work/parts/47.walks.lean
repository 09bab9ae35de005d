/-! WALKS goes through the same trees. -/
/-- the least key, from b on -/
def zbst (key : List Nat → Int64) (b : Int64) (l : List (List Nat)) : Int64 := l.foldl (fun b v => if b ≤ key v then b else key v) b
theorem zbst_app (key : List Nat → Int64) (b : Int64) (l1 l2 : List (List Nat)) : zbst key b (l1 ++ l2) = zbst key (zbst key b l1) l2 := List.foldl_append
/-- what a stretch of the walk leaves -/
def zWK (key : List Nat → Int64) (isL : Bool) (L : Nat) (l : List (List Nat)) (c : Nat) (M M' : ZM) : Prop :=
  zR M' = zR M ∧ zD M' = zD M ∧ (∀ a i, a ≠ 125 → ¬ (a = 112 ∧ i = 14) → zI M' a i = zI M a i) ∧ (∀ i, 1 ≤ i → i ≤ L → zI M' 125 i = zI M 125 i) ∧ zI M' 112 14 = nI (c + l.length) ∧ (∀ a i, (a ≠ 121 ∨ isL = false) → zJ M' a i = zJ M a i) ∧ (∀ i, i < c → zJ M' 121 i = zJ M 121 i) ∧ (isL = true → ∀ i, i < l.length → zJ M' 121 (c + i) = key (l.getD i []))
theorem zWK_nil {key : List Nat → Int64} {isL : Bool} {L c : Nat} {M : ZM} (h : zI M 112 14 = nI c) : zWK key isL L [] c M M :=
  ⟨rfl, rfl, fun _ _ _ _ => rfl, fun _ _ _ => rfl, h, fun _ _ _ => rfl, fun _ _ => rfl, fun _ i hi => absurd hi (Nat.not_lt_zero i)⟩
theorem zWK_app {key : List Nat → Int64} {isL : Bool} {L c : Nat} {l1 l2 : List (List Nat)} {M M1 M2 : ZM} (h1 : zWK key isL L l1 c M M1) (h2 : zWK key isL L l2 (c + l1.length) M1 M2) : zWK key isL L (l1 ++ l2) c M M2 := by
  obtain ⟨a1, a2, a3, a4, a5, a6, a7, a8⟩ := h1
  obtain ⟨b1, b2, b3, b4, b5, b6, b7, b8⟩ := h2
  refine ⟨b1.trans a1, b2.trans a2, fun a i h h' => (b3 a i h h').trans (a3 a i h h'), fun i h h' => (b4 i h h').trans (a4 i h h'), by rw [b5, List.length_append, Nat.add_assoc], fun a i h => (b6 a i h).trans (a6 a i h), fun i h => (b7 i (by omega)).trans (a7 i h), fun hL i hi => ?_⟩
  rw [List.length_append] at hi
  by_cases c1 : i < l1.length
  · rw [b7 (c + i) (by omega), a8 hL i c1, List.getD_eq_getElem?_getD, List.getD_eq_getElem?_getD, List.getElem?_append_left c1]
  · have := b8 hL (i - l1.length) (by omega)
    rw [show c + l1.length + (i - l1.length) = c + i by omega] at this
    rw [this, List.getD_eq_getElem?_getD, List.getD_eq_getElem?_getD, List.getElem?_append_right (by omega)]
theorem zWK_heads {key : List Nat → Int64} {isL : Bool} {L c : Nat} {l : List (List Nat)} {M M1 M' : ZM} (h : zWK key isL (L + 1) l c M1 M') (e1 : zR M1 = zR M) (e2 : zD M1 = zD M) (e3 : ∀ a i, a ≠ 125 → zI M1 a i = zI M a i) (e4 : ∀ i, 1 ≤ i → i ≤ L → zI M1 125 i = zI M 125 i) (e5 : zJ M1 = zJ M) : zWK key isL L l c M M' := by
  obtain ⟨a1, a2, a3, a4, a5, a6, a7, a8⟩ := h
  exact ⟨a1.trans e1, a2.trans e2, fun a i h h' => (a3 a i h h').trans (e3 a i h), fun i h h' => (a4 i h (by omega)).trans (e4 i h h'), a5, fun a i h => (a6 a i h).trans (by rw [e5]), fun i h => (a7 i h).trans (by rw [e5]), a8⟩
/-- how many rounds a stretch takes, at most -/
def zcost (n : Nat) : Nat → Nat
  | 0 => 1
  | m + 1 => 1 + (n + 1) * (1 + zcost n m)
theorem zcost_le {n : Nat} (hn : n ≤ 6) : zcost n n ≤ 300000 := by
  rcases (show n = 0 ∨ n = 1 ∨ n = 2 ∨ n = 3 ∨ n = 4 ∨ n = 5 ∨ n = 6 by omega) with rfl | rfl | rfl | rfl | rfl | rfl | rfl <;> decide +kernel
