/-! CHANGES: what they answer, and what holds of the state stays. -/
theorem yOk_mono {j j' : Nat} {T : yT} (h : yOk j T) (hj : j ≤ j') : yOk j' T := by
  obtain ⟨h1, h2, h3, h4, h5, h6⟩ := h
  refine ⟨h1, h2, h3, by omega, fun f hf => ?_, fun e he => ⟨by have := (h6 e he).1; omega, fun f hf => ?_⟩⟩
  · have := h5 f hf; omega
  · have := (h6 e he).2 f hf; omega
/-- what holds between the law's rounds -/
def yI (j : Nat) (T : yT) : Prop := yOk j T ∧ ∀ s, s < yk T.1 → ∀ w, w < 7 → yrh T.1 s w ≠ nI w
theorem yI_mono {j j' : Nat} {T : yT} (h : yI j T) (hj : j ≤ j') : yI j' T := ⟨yOk_mono h.1 hj, h.2⟩
theorem yI.k {j : Nat} {T : yT} (g : yI j T) (hj : j ≤ 512) : yOk 512 T := yOk_mono g.1 hj
section CH
variable {j : Nat} {T : yT}
theorem b_addS_no (g : yOk 512 T) (h : yk T.1 = 5) : y_X6_addSentence T = some (.inl 3, T) := by
  unfold y_X6_addSentence e_addSentence
  rw [yg_t g, if_pos h]
theorem b_addS (g : yOk 512 T) (h : yk T.1 ≠ 5) : y_X6_addSentence T = some (.inr (nI (yk T.1)), (yV_s T.1, T.2)) := by
  unfold y_X6_addSentence e_addSentence
  rw [yg_t g, if_neg h]
theorem o_addS (g : yI j T) (h : yk T.1 < 5) : yI j (yV_s T.1, T.2) := by
  obtain ⟨⟨h1, h2, h3⟩, h4⟩ := g
  refine ⟨⟨fun s hs => ?_, ⟨?_, fun s hs => ?_⟩, h3⟩, fun s hs w hw => ?_⟩
  · have hs : s < yk T.1 + 1 := hs
    show yS1 (zuf (yn T.1) (yk T.1) 0 s) (zuf (ykd T.1) (yk T.1) (fun w => if w = 0 then 4 else 0) s) (zuf (ymk T.1) (yk T.1) (fun _ _ => 0) s)
    by_cases q : s = yk T.1
    · subst q
      rw [zuf_s, zuf_s, zuf_s]
      exact ⟨by omega, rfl, fun w w1 w2 => by omega, fun w o o' _ _ _ q1 _ => absurd (show (0 : Int32) = 1 from q1) (by decide), fun _ _ => Or.inl rfl⟩
    · rw [zuf_o _ _ q, zuf_o _ _ q, zuf_o _ _ q]
      exact h1 s (by omega)
  · show yk T.1 + 1 ≤ 5
    omega
  · have hs : s < yk T.1 + 1 := hs
    show (∀ w, w < 7 → zuf (yrh T.1) (yk T.1) (fun _ => -1) s w = -1 ∨ (1 ≤ w ∧ w ≤ zuf (yn T.1) (yk T.1) 0 s ∧ ∃ h, h ≤ zuf (yn T.1) (yk T.1) 0 s ∧ zuf (yrh T.1) (yk T.1) (fun _ => -1) s w = nI h)) ∧ ∀ h w, h < 7 → w < 7 → (zuf (yn T.1) (yk T.1) 0 s < h ∨ zuf (yn T.1) (yk T.1) 0 s < w) → zuf (ymk T.1) (yk T.1) (fun _ _ => 0) s h w = 0
    by_cases q : s = yk T.1
    · subst q
      rw [zuf_s, zuf_s, zuf_s]
      exact ⟨fun w _ => Or.inl rfl, fun _ _ _ _ _ => rfl⟩
    · rw [zuf_o _ _ q, zuf_o _ _ q, zuf_o _ _ q]
      exact h2.2 s (by omega)
  · have hs : s < yk T.1 + 1 := hs
    show zuf (yrh T.1) (yk T.1) (fun _ => -1) s w ≠ nI w
    by_cases q : s = yk T.1
    · subst q
      rw [zuf_s]
      exact fun z => nI_nem1 (o := w) (by omega) z.symm
    · rw [zuf_o _ _ q]
      exact h4 s (by omega) w hw
/-! addWord -/
theorem b_addW_out (g : yOk 512 T) {p : Int32} (q : Int32) (hp : p < 0 ∨ nI (yk T.1) ≤ p) : y_X6_addWord T p q = some (.inl 1, T) := by
  unfold y_X6_addWord e_addWord
  rw [yg_t g, eS_no hp]
theorem b_addW_bad (g : yOk 512 T) {s : Nat} (hs : s < yk T.1) {q : Int32} (hq : q < 0 ∨ nI 3 < q) : y_X6_addWord T (nI s) q = some (.inl 2, T) := by
  unfold y_X6_addWord e_addWord
  rw [yg_t g, eS_ok (yk5 g) hs, if_pos hq]
def y_addW (T : yT) (s q : Nat) : yT := (yV_n T.1 (zuf (yn T.1) s (yn T.1 s + 1)) (zuf (ykd T.1) s (zuf (ykd T.1 s) (yn T.1 s + 1) q)), T.2)
theorem b_addW (g : yOk 512 T) {s : Nat} (hs : s < yk T.1) {q : Nat} (hq : q ≤ 3) (hn : yn T.1 s < 6) : y_X6_addWord T (nI s) (nI q) = some (.inr (nI (yn T.1 s + 1)), y_addW T s q) := by
  unfold y_X6_addWord e_addWord
  rw [yg_t g, eS_ok (yk5 g) hs, if_neg (fun z => z.elim (nI_pos (by omega)) (nI_nlt (by omega) (by omega))), if_neg (by omega), nI_clamp (by omega)]
  rfl
theorem o_addW (g : yI j T) {s : Nat} (hs : s < yk T.1) {q : Nat} (hq : q ≤ 3) (hn : yn T.1 s < 6) : yI j (y_addW T s q) := by
  obtain ⟨⟨h1, h2, h3⟩, h4⟩ := g
  refine ⟨⟨fun t ht => ?_, ⟨h2.1, fun t ht => ?_⟩, h3⟩, h4⟩
  · show yS1 (zuf (yn T.1) s (yn T.1 s + 1) t) (zuf (ykd T.1) s (zuf (ykd T.1 s) (yn T.1 s + 1) q) t) (ymk T.1 t)
    by_cases e : t = s
    · subst e
      rw [zuf_s, zuf_s]
      obtain ⟨k6, k0, k1, k2, k3⟩ := h1 t hs
      refine ⟨by omega, by rw [zuf_o _ _ (by omega)]; exact k0, fun w w1 w2 => ?_, fun w o o' hw ho ho' m1 m2 => ?_, k3⟩
      · by_cases z : w = yn T.1 t + 1
        · rw [z, zuf_s]; exact hq
        · rw [zuf_o _ _ z]; exact k1 w w1 (by omega)
      · have h0 : ∀ o, o ≤ yn T.1 t + 1 → ymk T.1 t o w = 1 → o ≤ yn T.1 t := fun o ho m => Decidable.byContradiction fun z => by
          rw [(h2.2 t hs).2 o w (by omega) hw (by omega)] at m
          exact absurd m (by decide)
        exact k2 w o o' hw (h0 o ho m1) (h0 o' ho' m2) m1 m2
    · rw [zuf_o _ _ e, zuf_o _ _ e]
      exact h1 t ht
  · show (∀ w, w < 7 → yrh T.1 t w = -1 ∨ (1 ≤ w ∧ w ≤ zuf (yn T.1) s (yn T.1 s + 1) t ∧ ∃ h, h ≤ zuf (yn T.1) s (yn T.1 s + 1) t ∧ yrh T.1 t w = nI h)) ∧ ∀ h w, h < 7 → w < 7 → (zuf (yn T.1) s (yn T.1 s + 1) t < h ∨ zuf (yn T.1) s (yn T.1 s + 1) t < w) → ymk T.1 t h w = 0
    by_cases e : t = s
    · subst e
      rw [zuf_s]
      refine ⟨fun w hw => ?_, fun h w hh hw z => (h2.2 t hs).2 h w hh hw (by omega)⟩
      rcases (h2.2 t hs).1 w hw with y | ⟨y1, y2, h, y3, y4⟩
      · exact Or.inl y
      · exact Or.inr ⟨y1, by omega, h, by omega, y4⟩
    · rw [zuf_o _ _ e]
      exact h2.2 t ht
/-! setWeight, rollBack -/
theorem yW3_keep {wt sm : Nat → Int} {st : Nat} {H : List zE} {b : Bool} (h : yW3 j wt st H) : ∀ e, e ∈ ((wt, sm, st, b) :: H.take 19) → e.2.2.1 ≤ j ∧ ∀ f, f < 28 → -(100 + 6 * (j : Int)) ≤ e.1 f ∧ e.1 f ≤ 100 + 6 * (j : Int) := fun e he => by
  rcases List.mem_cons.mp he with rfl | q
  · exact ⟨h.2.1, h.2.2.1⟩
  · exact h.2.2.2 e (List.mem_of_mem_take q)
theorem yW3_len {wt sm : Nat → Int} {st : Nat} {H : List zE} {b : Bool} : (((wt, sm, st, b) : zE) :: H.take 19).length ≤ 20 := by
  rw [List.length_cons, List.length_take]
  omega
theorem b_setW_out (g : yOk 512 T) {p : Int32} (q : Int32) (hp : p < 0 ∨ (28 : Int32) ≤ p) : y_X6_setWeight T p q = some (.inl 1, T) := by
  unfold y_X6_setWeight e_setWeight
  rw [yg_t g, eF_no hp]
theorem b_setW_bad (g : yOk 512 T) {f : Nat} (hf : f < 28) {q : Int32} (hq : q < (-100 : Int32) ∨ ¬ q ≤ (100 : Int32)) : y_X6_setWeight T (nI f) q = some (.inl 2, T) := by
  unfold y_X6_setWeight e_setWeight
  rw [yg_t g, eF_ok hf, if_pos hq]
def y_setW (T : yT) (f : Nat) (q : Int32) : yT := (yV_w T.1 (zuf (ywt T.1) f q.toInt) (ysm T.1) (yst T.1), ykeep T false)
theorem b_setW (g : yOk 512 T) {f : Nat} (hf : f < 28) {q : Int32} (hq : ¬ q < (-100 : Int32)) (hq2 : q ≤ (100 : Int32)) : y_X6_setWeight T (nI f) q = some (.inr (iI (ywt T.1 f)), y_setW T f q) := by
  unfold y_X6_setWeight e_setWeight
  rw [yg_t g, eF_ok hf, if_neg (fun z => z.elim hq (fun y => y hq2))]
  rfl
theorem o_setW (g : yI j T) {f : Nat} (hf : f < 28) {q : Int32} (hq : ¬ q < (-100 : Int32)) (hq2 : q ≤ (100 : Int32)) : yI j (y_setW T f q) := by
  obtain ⟨⟨h1, h2, h3⟩, h4⟩ := g
  have b1 : (-100 : Int) ≤ q.toInt := by
    rw [Int32.lt_iff_toInt_lt] at hq
    have e : (-100 : Int32).toInt = -100 := by decide
    omega
  have b2 : q.toInt ≤ 100 := by
    rw [Int32.le_iff_toInt_le] at hq2
    have e : (100 : Int32).toInt = 100 := by decide
    omega
  refine ⟨⟨h1, h2, yW3_len, h3.2.1, fun x hx => ?_, yW3_keep h3⟩, h4⟩
  show _ ≤ zuf (ywt T.1) f q.toInt x ∧ zuf (ywt T.1) f q.toInt x ≤ _
  by_cases e : x = f
  · rw [e, zuf_s]; omega
  · rw [zuf_o _ _ e]; exact h3.2.2.1 x hx
theorem b_roll_no (g : yOk 512 T) (h : T.2 = []) : y_X6_rollBack T = some (.inl 3, T) := by
  unfold y_X6_rollBack e_rollBack
  rw [yg_t g, h]
theorem b_roll (g : yOk 512 T) {e : zE} {H : List zE} (h : T.2 = e :: H) : y_X6_rollBack T = some (.inr (nI H.length), (yV_w T.1 e.1 e.2.1 e.2.2.1, H)) := by
  unfold y_X6_rollBack e_rollBack
  rw [yg_t g, h]
theorem o_roll (g : yI j T) {e : zE} {H : List zE} (h : T.2 = e :: H) : yI j (yV_w T.1 e.1 e.2.1 e.2.2.1, H) := by
  obtain ⟨⟨h1, h2, h3⟩, h4⟩ := g
  rw [h] at h3
  obtain ⟨l1, l2, l3, l4⟩ := h3
  have l5 := l4 e List.mem_cons_self
  refine ⟨⟨h1, h2, ?_, l5.1, l5.2, fun x hx => l4 x (List.mem_cons_of_mem _ hx)⟩, h4⟩
  rw [List.length_cons] at l1
  show H.length ≤ 20
  omega
/-- less of the history -/
theorem o_take (g : yI j T) (m : Nat) : yI j (T.1, T.2.take m) := by
  obtain ⟨⟨h1, h2, l1, l2, l3, l4⟩, h4⟩ := g
  refine ⟨⟨h1, h2, ?_, l2, l3, fun x hx => l4 x (List.mem_of_mem_take hx)⟩, h4⟩
  show (T.2.take m).length ≤ 20
  rw [List.length_take]
  omega
/-! correct -/
theorem b_corr_out (g : yOk 512 T) {p : Int32} (q r : Int32) (hp : p < 0 ∨ nI (yk T.1) ≤ p) : y_X6_correct T p q r = some (.inl 1, T) := by
  unfold y_X6_correct e_correct
  rw [yg_t g, eS_no hp]
theorem b_corr_arc (g : yOk 512 T) {s : Nat} (hs : s < yk T.1) {q r : Int32} (h : (q < 0 ∨ nI (yn T.1 s) < q) ∨ (r ≤ 0 ∨ nI (yn T.1 s) < r)) : y_X6_correct T (nI s) q r = some (.inl 1, T) := by
  unfold y_X6_correct e_correct
  rw [yg_t g, eS_ok (yk5 g) hs, eA_no h]
theorem b_corr_bad (g : yOk 512 T) {s : Nat} (hs : s < yk T.1) {w : Nat} (h1 : 1 ≤ w) (h2 : w ≤ yn T.1 s) : y_X6_correct T (nI s) (nI w) (nI w) = some (.inl 2, T) := by
  unfold y_X6_correct e_correct
  rw [yg_t g, eS_ok (yk5 g) hs, eA_in (y_n6 g hs) h2 h1 h2, if_pos rfl]
def y_corr (T : yT) (s h w : Nat) : yT := (yV_rh T.1 (zuf (yrh T.1) s (zuf (yrh T.1 s) w (nI h))), T.2)
theorem b_corr (g : yOk 512 T) {s : Nat} (hs : s < yk T.1) {h w : Nat} (hh : h ≤ yn T.1 s) (h1 : 1 ≤ w) (h2 : w ≤ yn T.1 s) (hne : h ≠ w) : y_X6_correct T (nI s) (nI h) (nI w) = some (.inr (yrh T.1 s w), y_corr T s h w) := by
  unfold y_X6_correct e_correct
  rw [yg_t g, eS_ok (yk5 g) hs, eA_in (y_n6 g hs) hh h1 h2, if_neg hne]
  rfl
theorem o_corr (g : yI j T) {s : Nat} (hs : s < yk T.1) {h w : Nat} (hh : h ≤ yn T.1 s) (h1 : 1 ≤ w) (h2 : w ≤ yn T.1 s) (hne : h ≠ w) : yI j (y_corr T s h w) := by
  obtain ⟨⟨k1, k2, k3⟩, k4⟩ := g
  have h6 := (k1 s hs).1
  refine ⟨⟨k1, ⟨k2.1, fun t ht => ⟨fun x hx => ?_, (k2.2 t ht).2⟩⟩, k3⟩, fun t ht x hx => ?_⟩
  · show zuf (yrh T.1) s (zuf (yrh T.1 s) w (nI h)) t x = -1 ∨ (1 ≤ x ∧ x ≤ yn T.1 t ∧ ∃ a, a ≤ yn T.1 t ∧ zuf (yrh T.1) s (zuf (yrh T.1 s) w (nI h)) t x = nI a)
    by_cases e : t = s
    · subst e
      rw [zuf_s]
      by_cases z : x = w
      · rw [z, zuf_s]; exact Or.inr ⟨h1, h2, h, hh, rfl⟩
      · rw [zuf_o _ _ z]; exact (k2.2 t ht).1 x hx
    · rw [zuf_o _ _ e]; exact (k2.2 t ht).1 x hx
  · show zuf (yrh T.1) s (zuf (yrh T.1 s) w (nI h)) t x ≠ nI x
    by_cases e : t = s
    · subst e
      rw [zuf_s]
      by_cases z : x = w
      · rw [z, zuf_s]
        exact fun q => hne ((nI_eq (by omega) (by omega)).mp q)
      · rw [zuf_o _ _ z]; exact k4 t ht x hx
    · rw [zuf_o _ _ e]; exact k4 t ht x hx
/-! mark -/
theorem b_mark_out (g : yOk 512 T) {p : Int32} (q r m : Int32) (hp : p < 0 ∨ nI (yk T.1) ≤ p) : y_X6_mark T p q r m = some (.inl 1, T) := by
  unfold y_X6_mark e_mark
  rw [yg_t g, eS_no hp]
theorem b_mark_arc (g : yOk 512 T) {s : Nat} (hs : s < yk T.1) {q r : Int32} (m : Int32) (h : (q < 0 ∨ nI (yn T.1 s) < q) ∨ (r ≤ 0 ∨ nI (yn T.1 s) < r)) : y_X6_mark T (nI s) q r m = some (.inl 1, T) := by
  unfold y_X6_mark e_mark
  rw [yg_t g, eS_ok (yk5 g) hs, eA_no h]
theorem b_mark_same (g : yOk 512 T) {s : Nat} (hs : s < yk T.1) {w : Nat} (h1 : 1 ≤ w) (h2 : w ≤ yn T.1 s) (m : Int32) : y_X6_mark T (nI s) (nI w) (nI w) m = some (.inl 2, T) := by
  unfold y_X6_mark e_mark
  rw [yg_t g, eS_ok (yk5 g) hs, eA_in (y_n6 g hs) h2 h1 h2, if_pos rfl]
theorem b_mark_bad (g : yOk 512 T) {s : Nat} (hs : s < yk T.1) {h w : Nat} (hh : h ≤ yn T.1 s) (h1 : 1 ≤ w) (h2 : w ≤ yn T.1 s) (hne : h ≠ w) {m : Int32} (hm : m < 0 ∨ nI 2 < m) : y_X6_mark T (nI s) (nI h) (nI w) m = some (.inl 2, T) := by
  unfold y_X6_mark e_mark
  rw [yg_t g, eS_ok (yk5 g) hs, eA_in (y_n6 g hs) hh h1 h2, if_neg hne, if_pos hm]
/-- another head is forced for this word -/
def yfc (V : yV) (s h w : Nat) : Bool := (List.range (yn V s + 1)).any (fun o => decide (o ≠ h ∧ ymk V s o w = 1))
theorem yfc_no {V : yV} {s h w : Nat} (e : yfc V s h w = false) {o : Nat} (ho : o ≤ yn V s) (hne : o ≠ h) : ymk V s o w ≠ 1 := fun q => by
  unfold yfc at e
  rw [List.any_eq_false] at e
  exact e o (List.mem_range.mpr (by omega)) (decide_eq_true ⟨hne, q⟩)
theorem b_mark_not (g : yOk 512 T) {s : Nat} (hs : s < yk T.1) {h w : Nat} (hh : h ≤ yn T.1 s) (h1 : 1 ≤ w) (h2 : w ≤ yn T.1 s) (hne : h ≠ w) (hf : yfc T.1 s h w = true) : y_X6_mark T (nI s) (nI h) (nI w) 1 = some (.inl 3, T) := by
  unfold y_X6_mark e_mark
  rw [yg_t g, eS_ok (yk5 g) hs, eA_in (y_n6 g hs) hh h1 h2, if_neg hne, if_neg (by decide +kernel), if_pos ⟨rfl, hf⟩]
def y_mark (T : yT) (s h w : Nat) (m : Int32) : yT := (yV_mk T.1 (zuf (ymk T.1) s (zms2 (ymk T.1 s) h w m)), T.2)
theorem b_mark (g : yOk 512 T) {s : Nat} (hs : s < yk T.1) {h w : Nat} (hh : h ≤ yn T.1 s) (h1 : 1 ≤ w) (h2 : w ≤ yn T.1 s) (hne : h ≠ w) {m : Int32} (hm : ¬ (m < 0 ∨ nI 2 < m)) (hf : m = 1 → yfc T.1 s h w = false) : y_X6_mark T (nI s) (nI h) (nI w) m = some (.inr (ymk T.1 s h w), y_mark T s h w m) := by
  unfold y_X6_mark e_mark
  rw [yg_t g, eS_ok (yk5 g) hs, eA_in (y_n6 g hs) hh h1 h2, if_neg hne, if_neg hm, if_neg (fun q => by
    have h3 : yfc T.1 s h w = true := q.2
    rw [hf q.1] at h3
    cases h3)]
  rfl
theorem y_m012 {m : Int32} (hm : ¬ (m < 0 ∨ nI 2 < m)) : m = 0 ∨ m = 1 ∨ m = 2 := by
  have h1 : ¬ m < 0 := fun q => hm (Or.inl q)
  have h2 : ¬ nI 2 < m := fun q => hm (Or.inr q)
  rw [Int32.lt_iff_toInt_lt] at h1 h2
  have e1 : (0 : Int32).toInt = 0 := by decide
  have e2 : (nI 2).toInt = 2 := by decide +kernel
  have h3 : m.toInt = 0 ∨ m.toInt = 1 ∨ m.toInt = 2 := by omega
  rcases h3 with e | e | e
  · exact Or.inl (Int32.toInt_inj.mp (e.trans (by decide)))
  · exact Or.inr (Or.inl (Int32.toInt_inj.mp (e.trans (by decide))))
  · exact Or.inr (Or.inr (Int32.toInt_inj.mp (e.trans (by decide))))
theorem o_mark (g : yI j T) {s : Nat} (hs : s < yk T.1) {h w : Nat} (hh : h ≤ yn T.1 s) (h1 : 1 ≤ w) (h2 : w ≤ yn T.1 s) {m : Int32} (hm : ¬ (m < 0 ∨ nI 2 < m)) (hf : m = 1 → yfc T.1 s h w = false) : yI j (y_mark T s h w m) := by
  obtain ⟨⟨k1, k2, k3⟩, k4⟩ := g
  refine ⟨⟨fun t ht => ?_, ⟨k2.1, fun t ht => ⟨(k2.2 t ht).1, fun a x ha hx q => ?_⟩⟩, k3⟩, k4⟩
  · show yS1 (yn T.1 t) (ykd T.1 t) (zuf (ymk T.1) s (zms2 (ymk T.1 s) h w m) t)
    by_cases e : t = s
    · subst e
      rw [zuf_s]
      obtain ⟨l6, l0, l1, l2, l3⟩ := k1 t ht
      refine ⟨l6, l0, l1, fun x o o' hx ho ho' m1 m2 => ?_, fun a x => ?_⟩
      · by_cases z1 : o = h ∧ x = w
        · by_cases z2 : o' = h ∧ x = w
          · rw [z1.1, z2.1]
          · rw [z1.1, z1.2, zms2_at] at m1
            rw [zms2_o _ _ z2] at m2
            rw [z1.2] at m2 z2
            exact absurd m2 (yfc_no (hf m1) ho' (fun q => z2 ⟨q, rfl⟩))
        · rw [zms2_o _ _ z1] at m1
          by_cases z2 : o' = h ∧ x = w
          · rw [z2.1, z2.2, zms2_at] at m2
            rw [z2.2] at m1 z1
            exact absurd m1 (yfc_no (hf m2) ho (fun q => z1 ⟨q, rfl⟩))
          · rw [zms2_o _ _ z2] at m2
            exact l2 x o o' hx ho ho' m1 m2
      · by_cases z1 : a = h ∧ x = w
        · rw [z1.1, z1.2, zms2_at]; exact y_m012 hm
        · rw [zms2_o _ _ z1]; exact l3 a x
    · rw [zuf_o _ _ e]; exact k1 t ht
  · have q : yn T.1 t < a ∨ yn T.1 t < x := q
    show zuf (ymk T.1) s (zms2 (ymk T.1 s) h w m) t a x = 0
    by_cases e : t = s
    · subst e
      rw [zuf_s, zms2_o _ _ (by omega)]
      exact (k2.2 t ht).2 a x ha hx q
    · rw [zuf_o _ _ e]; exact (k2.2 t ht).2 a x ha hx q
/-- a mark and back -/
theorem y_mark_back {s h w : Nat} (m : Int32) : y_mark (y_mark T s h w m) s h w (ymk T.1 s h w) = T := by
  have e : zuf (zuf (ymk T.1) s (zms2 (ymk T.1 s) h w m)) s (zms2 (zuf (ymk T.1) s (zms2 (ymk T.1 s) h w m) s) h w (ymk T.1 s h w)) = ymk T.1 := by
    funext t
    by_cases q : t = s
    · subst q
      rw [zuf_s, zuf_s]
      funext a x
      by_cases z : a = h ∧ x = w
      · rw [z.1, z.2, zms2_at]
      · rw [zms2_o _ _ z, zms2_o _ _ z]
    · rw [zuf_o _ _ q, zuf_o _ _ q]
  show (yV_mk (y_mark T s h w m).1 (zuf (zuf (ymk T.1) s (zms2 (ymk T.1 s) h w m)) s (zms2 (zuf (ymk T.1) s (zms2 (ymk T.1 s) h w m) s) h w (ymk T.1 s h w))), T.2) = T
  rw [e]
  rfl
theorem y_mark_get {s h w : Nat} (m : Int32) : ymk (y_mark T s h w m).1 s h w = m := by
  show zuf (ymk T.1) s (zms2 (ymk T.1 s) h w m) s h w = m
  rw [zuf_s, zms2_at]
end CH
