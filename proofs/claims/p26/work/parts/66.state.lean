/-! WHAT A STATE IS for the law: yV, all that answers depend on; yT, with the history. e_..: what a call answers and leaves. -/
abbrev yV : Type := Nat × (Nat → Nat) × (Nat → Nat → Nat) × (Nat → Nat → Nat → Int32) × (Nat → Nat → Int32) × (Nat → Int) × (Nat → Int) × Nat
abbrev yT : Type := yV × List zE
def yk (V : yV) : Nat := V.1
def yn (V : yV) : Nat → Nat := V.2.1
def ykd (V : yV) : Nat → Nat → Nat := V.2.2.1
def ymk (V : yV) : Nat → Nat → Nat → Int32 := V.2.2.2.1
def yrh (V : yV) : Nat → Nat → Int32 := V.2.2.2.2.1
def ywt (V : yV) : Nat → Int := V.2.2.2.2.2.1
def ysm (V : yV) : Nat → Int := V.2.2.2.2.2.2.1
def yst (V : yV) : Nat := V.2.2.2.2.2.2.2
/-- what the class's memory is then -/
def yRl (T : yT) (sw : Bool) (nx : Nat) (M : ZM) : Prop := zRf sw (yk T.1) (zR M) ∧ zA1 (yk T.1) (yn T.1) (ykd T.1) (ymk T.1) (yrh T.1) (zI M) ∧ zW1 (ywt T.1) (ysm T.1) (yst T.1) T.2 nx (zI M) (zJ M)
def yS1 (n : Nat) (kd : Nat → Nat) (mk : Nat → Nat → Int32) : Prop := n ≤ 6 ∧ kd 0 = 4 ∧ (∀ w, 1 ≤ w → w ≤ n → kd w ≤ 3) ∧ (∀ w o o', w < 7 → o ≤ n → o' ≤ n → mk o w = 1 → mk o' w = 1 → o = o') ∧ ∀ h w, mk h w = 0 ∨ mk h w = 1 ∨ mk h w = 2
def yW3 (j : Nat) (wt : Nat → Int) (st : Nat) (H : List zE) : Prop := H.length ≤ 20 ∧ st ≤ j ∧ (∀ f, f < 28 → -(100 + 6 * (j : Int)) ≤ wt f ∧ wt f ≤ 100 + 6 * (j : Int)) ∧ ∀ e, e ∈ H → e.2.2.1 ≤ j ∧ ∀ f, f < 28 → -(100 + 6 * (j : Int)) ≤ e.1 f ∧ e.1 f ≤ 100 + 6 * (j : Int)
/-- what holds of it after j mendings at most -/
def yOk (j : Nat) (T : yT) : Prop := (∀ s, s < yk T.1 → yS1 (yn T.1 s) (ykd T.1 s) (ymk T.1 s)) ∧ zA3 (yk T.1) (yn T.1) (ymk T.1) (yrh T.1) ∧ yW3 j (ywt T.1) (yst T.1) T.2
/-! Arguments. -/
def eS {α : Type} (k : Nat) (p : Int32) (a : α) (f : Nat → α) : α := if p < 0 ∨ nI k ≤ p then a else f p.toNatClampNeg
def eW {α : Type} (n : Nat) (p : Int32) (a : α) (f : Nat → α) : α := if p ≤ 0 ∨ nI n < p then a else f p.toNatClampNeg
def eA {α : Type} (n : Nat) (p q : Int32) (a b : α) (f : Nat → Nat → α) : α := if (p < 0 ∨ nI n < p) ∨ (q ≤ 0 ∨ nI n < q) then a else if p.toNatClampNeg = q.toNatClampNeg then b else f p.toNatClampNeg q.toNatClampNeg
def eF {α : Type} (p : Int32) (a : α) (f : Nat → α) : α := if p < 0 ∨ (28 : Int32) ≤ p then a else f p.toNatClampNeg
def eO {α β : Type} (o : Option α) (a : β) (f : α → β) : β := match o with
  | none => a
  | some v => f v
theorem eS_no {α : Type} {k : Nat} {p : Int32} {a : α} {f : Nat → α} (h : p < 0 ∨ nI k ≤ p) : eS k p a f = a := if_pos h
theorem eS_ok {α : Type} {k s : Nat} {a : α} {f : Nat → α} (hk : k ≤ 5) (h : s < k) : eS k (nI s) a f = f s := by
  unfold eS
  rw [if_neg (fun q => q.elim (nI_pos (by omega)) (nI_ge h (by omega))), nI_clamp (by omega)]
theorem eW_no {α : Type} {n : Nat} {p : Int32} {a : α} {f : Nat → α} (h : p ≤ 0 ∨ nI n < p) : eW n p a f = a := if_pos h
theorem eW_ok {α : Type} {n w : Nat} {a : α} {f : Nat → α} (hn : n ≤ 6) (h1 : 1 ≤ w) (h2 : w ≤ n) : eW n (nI w) a f = f w := by
  unfold eW
  rw [if_neg (fun q => q.elim (nI_nle (by omega) (by omega)) (nI_nlt h2 (by omega))), nI_clamp (by omega)]
theorem eA_no {α : Type} {n : Nat} {p q : Int32} {a b : α} {f : Nat → Nat → α} (h : (p < 0 ∨ nI n < p) ∨ (q ≤ 0 ∨ nI n < q)) : eA n p q a b f = a := if_pos h
theorem eA_no4 {α : Type} {n : Nat} {p q : Int32} {a b : α} {f : Nat → Nat → α} (h : (p < 0 ∨ nI n < p) ∨ ((∃ h, h ≤ n ∧ p = nI h) ∧ (q ≤ 0 ∨ nI n < q))) : eA n p q a b f = a := if_pos (h.imp id And.right)
theorem eA_in {α : Type} {n h w : Nat} {a b : α} {f : Nat → Nat → α} (hn : n ≤ 6) (hh : h ≤ n) (h1 : 1 ≤ w) (h2 : w ≤ n) : eA n (nI h) (nI w) a b f = if h = w then b else f h w := by
  unfold eA
  rw [if_neg (fun q => q.elim (fun q => q.elim (nI_pos (by omega)) (nI_nlt hh (by omega))) (fun q => q.elim (nI_nle (by omega) (by omega)) (nI_nlt h2 (by omega)))), nI_clamp (by omega), nI_clamp (by omega)]
theorem eF_no {α : Type} {p : Int32} {a : α} {f : Nat → α} (h : p < 0 ∨ (28 : Int32) ≤ p) : eF p a f = a := if_pos h
theorem eF_ok {α : Type} {g : Nat} {a : α} {f : Nat → α} (h : g < 28) : eF (nI g) a f = f g := by
  unfold eF
  rw [if_neg (fun q => q.elim (nI_pos (by omega)) (show ¬ (28 : Int32) ≤ nI g from nI_ge (b := 28) h (by omega))), nI_clamp (by omega)]
/-! Trees. -/
def yTs (V : yV) (s : Nat) (cr : Bool) : List (List Nat) := zT (yn V s) (zal (ymk V s) (yn V s)) cr
def ysc (V : yV) (s : Nat) (v : List Nat) : Int := zsum (zsc (ywt V) (ykd V s)) 1 v
/-- the best tree, if there is one -/
noncomputable def yb (V : yV) (s : Nat) (cr : Bool) : Option (List Nat) := @dite (Option (List Nat)) (∃ v, zBt (yTs V s cr) (ywt V) (ykd V s) v) (Classical.propDecidable _) (fun h => some h.choose) (fun _ => none)
/-- a tree that has r before it -/
def yRk (V : yV) (s : Nat) (cr : Bool) (r : Nat) (v : List Nat) : Prop := ∃ i, i < (yTs V s cr).length ∧ v = (yTs V s cr).getD i [] ∧ zcq (fun x => decide (x < zmk (ywt V) (ykd V s) v)) (fun i => zmk (ywt V) (ykd V s) ((yTs V s cr).getD i [])) (yTs V s cr).length = r
noncomputable def yr (V : yV) (s : Nat) (cr : Bool) (q : Int32) : Option (List Nat) := if q < 0 ∨ nI (yTs V s cr).length ≤ q then none else @dite (Option (List Nat)) (∃ v, yRk V s cr q.toNatClampNeg v) (Classical.propDecidable _) (fun h => some h.choose) (fun _ => none)
/-! Calls that ask. -/
def e_sentences (V : yV) : Nat ⊕ Int32 := .inr (nI (yk V))
def e_steps (V : yV) : Nat ⊕ Int32 := .inr (nI (yst V))
def e_words (V : yV) (p : Int32) : Nat ⊕ Int32 := eS (yk V) p (.inl 1) fun s => .inr (nI (yn V s))
def e_kind (V : yV) (p q : Int32) : Nat ⊕ Int32 := eS (yk V) p (.inl 1) fun s => eW (yn V s) q (.inl 1) fun w => .inr (nI (ykd V s w))
def e_weight (V : yV) (p : Int32) : Nat ⊕ Int32 := eF p (.inl 1) fun f => .inr (iI (ywt V f))
def e_feature (V : yV) (p q r b : Int32) : Nat ⊕ Int32 := eS (yk V) p (.inl 1) fun s => eA (yn V s) q r (.inl 1) (.inl 2) fun h w => .inr (if b = 0 then nI (zbk (ykd V s) h w) else nI (zbd h w))
def e_score (V : yV) (p q r : Int32) : Nat ⊕ Int32 := eS (yk V) p (.inl 1) fun s => eA (yn V s) q r (.inl 1) (.inl 2) fun h w => .inr (iI (zsc (ywt V) (ykd V s) h w))
def yavg (sm : Int) (st : Nat) : UInt64 := if nI st = 0 then FP.dconst0 else FP.ddiv (FP.l2d (lI sm)) (FP.i2d (nI st))
def e_average (V : yV) (p : Int32) : Nat ⊕ UInt64 := eF p (.inl 1) fun f => .inr (yavg (ysm V f) (yst V))
def e_trees (V : yV) (p : Int32) (cr : Bool) : Nat ⊕ Int32 := eS (yk V) p (.inl 1) fun s => .inr (nI (yTs V s cr).length)
noncomputable def e_best (V : yV) (p : Int32) (cr : Bool) : Nat ⊕ Int32 := eS (yk V) p (.inl 1) fun s => eO (yb V s cr) (.inl 3) fun v => .inr (iI (ysc V s v))
noncomputable def e_head (V : yV) (p : Int32) (cr : Bool) (q : Int32) : Nat ⊕ Int32 := eS (yk V) p (.inl 1) fun s => eW (yn V s) q (.inl 1) fun w => eO (yb V s cr) (.inl 3) fun v => .inr (nI (zhd v w))
noncomputable def e_crossings (V : yV) (p : Int32) : Nat ⊕ Int32 := eS (yk V) p (.inl 1) fun s => eO (yb V s true) (.inl 3) fun v => .inr (nI (zxs v (yn V s)))
noncomputable def e_ranked (V : yV) (p : Int32) (cr : Bool) (q : Int32) : Nat ⊕ Int32 := eS (yk V) p (.inl 1) fun s => eO (yr V s cr q) (.inl 1) fun v => .inr (iI (ysc V s v))
noncomputable def e_rankedHead (V : yV) (p : Int32) (cr : Bool) (q r : Int32) : Nat ⊕ Int32 := eS (yk V) p (.inl 1) fun s => eW (yn V s) r (.inl 1) fun w => eO (yr V s cr q) (.inl 1) fun v => .inr (nI (zhd v w))
noncomputable def e_matched (V : yV) (p : Int32) : Nat ⊕ Int32 := eS (yk V) p (.inl 1) fun s => eO (yb V s true) (.inl 3) fun v => .inr (nI (zms (yrh V s) v (yn V s)))
/-! Calls that change. -/
def yV_n (V : yV) (n : Nat → Nat) (kd : Nat → Nat → Nat) : yV := (yk V, n, kd, ymk V, yrh V, ywt V, ysm V, yst V)
def yV_mk (V : yV) (mk : Nat → Nat → Nat → Int32) : yV := (yk V, yn V, ykd V, mk, yrh V, ywt V, ysm V, yst V)
def yV_rh (V : yV) (rh : Nat → Nat → Int32) : yV := (yk V, yn V, ykd V, ymk V, rh, ywt V, ysm V, yst V)
def yV_w (V : yV) (wt sm : Nat → Int) (st : Nat) : yV := (yk V, yn V, ykd V, ymk V, yrh V, wt, sm, st)
def yV_s (V : yV) : yV := (yk V + 1, zuf (yn V) (yk V) 0, zuf (ykd V) (yk V) (fun w => if w = 0 then 4 else 0), zuf (ymk V) (yk V) (fun _ _ => 0), zuf (yrh V) (yk V) (fun _ => -1), ywt V, ysm V, yst V)
def ykeep (T : yT) (b : Bool) : List zE := (ywt T.1, ysm T.1, yst T.1, b) :: T.2.take 19
def e_addSentence (T : yT) : (Nat ⊕ Int32) × yT := if yk T.1 = 5 then (.inl 3, T) else (.inr (nI (yk T.1)), (yV_s T.1, T.2))
def e_addWord (T : yT) (p q : Int32) : (Nat ⊕ Int32) × yT := eS (yk T.1) p (.inl 1, T) fun s => if q < 0 ∨ nI 3 < q then (.inl 2, T) else if yn T.1 s = 6 then (.inl 3, T) else (.inr (nI (yn T.1 s + 1)), (yV_n T.1 (zuf (yn T.1) s (yn T.1 s + 1)) (zuf (ykd T.1) s (zuf (ykd T.1 s) (yn T.1 s + 1) q.toNatClampNeg)), T.2))
def e_setWeight (T : yT) (p q : Int32) : (Nat ⊕ Int32) × yT := eF p (.inl 1, T) fun f => if q < (-100 : Int32) ∨ ¬ q ≤ (100 : Int32) then (.inl 2, T) else (.inr (iI (ywt T.1 f)), (yV_w T.1 (zuf (ywt T.1) f q.toInt) (ysm T.1) (yst T.1), ykeep T false))
def e_mark (T : yT) (p q r m : Int32) : (Nat ⊕ Int32) × yT := eS (yk T.1) p (.inl 1, T) fun s => eA (yn T.1 s) q r (.inl 1, T) (.inl 2, T) fun h w => if m < 0 ∨ nI 2 < m then (.inl 2, T) else if m = 1 ∧ (List.range (yn T.1 s + 1)).any (fun o => decide (o ≠ h ∧ ymk T.1 s o w = 1)) = true then (.inl 3, T) else (.inr (ymk T.1 s h w), (yV_mk T.1 (zuf (ymk T.1) s (zms2 (ymk T.1 s) h w m)), T.2))
def e_correct (T : yT) (p q r : Int32) : (Nat ⊕ Int32) × yT := eS (yk T.1) p (.inl 1, T) fun s => eA (yn T.1 s) q r (.inl 1, T) (.inl 2, T) fun h w => (.inr (yrh T.1 s w), (yV_rh T.1 (zuf (yrh T.1) s (zuf (yrh T.1 s) w (nI h))), T.2))
/-- whether the right heads of a sentence make a tree -/
def yrt (V : yV) (s : Nat) : Bool := (List.range' 1 (yn V s)).all fun x => zits (zrg (yrh V s)) (yn V s) x == 0
def yNw (V : yV) (s : Nat) (v : List Nat) : Nat → Int := zmd (ykd V s) (zrg (yrh V s)) (zhd v) (ywt V) (yn V s)
noncomputable def e_mend (T : yT) (p : Int32) : (Nat ⊕ Int32) × yT := eS (yk T.1) p (.inl 1, T) fun s => if yrt T.1 s = false then (.inl 3, T) else eO (yb T.1 s true) (.inl 3, T) fun v => (.inr (nI (zmn (zrg (yrh T.1 s)) (zhd v) (yn T.1 s))), (yV_w T.1 (yNw T.1 s v) (fun g => ysm T.1 g + yNw T.1 s v g) (yst T.1 + 1), ykeep T true))
def e_rollBack (T : yT) : (Nat ⊕ Int32) × yT := match T.2 with
  | [] => (.inl 3, T)
  | e :: H => (.inr (nI H.length), (yV_w T.1 e.1 e.2.1 e.2.2.1, H))
