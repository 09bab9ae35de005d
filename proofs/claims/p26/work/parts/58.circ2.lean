/-! CIRCLES, pure: finding one. -/
def zits (tk : Nat → Nat) : Nat → Nat → Nat
  | 0, p => p
  | k + 1, p => zits tk k (tk p)
theorem zits_add (tk : Nat → Nat) : ∀ (a b p : Nat), zits tk (a + b) p = zits tk b (zits tk a p)
  | 0, b, p => by rw [Nat.zero_add]; rfl
  | a + 1, b, p => by
    rw [show a + 1 + b = (a + b) + 1 by omega]
    exact zits_add tk a b (tk p)
theorem zits_succ (tk : Nat → Nat) (k p : Nat) : zits tk (k + 1) p = tk (zits tk k p) := zits_add tk k 1 p
theorem zits_0 {tk : Nat → Nat} (h : tk 0 = 0) : ∀ k, zits tk k 0 = 0
  | 0 => rfl
  | k + 1 => by show zits tk k (tk 0) = 0; rw [h]; exact zits_0 h k
theorem zits_mul {tk : Nat → Nat} {P p : Nat} (h : zits tk P p = p) : ∀ k, zits tk (P * k) p = p
  | 0 => rfl
  | k + 1 => by rw [Nat.mul_succ, zits_add, zits_mul h k, h]
/-- the way down to u by tk: a rank of those that come to u -/
theorem zdist {tk : Nat → Nat} (u : Nat) : ∃ d : Nat → Nat, ∀ w, (∃ j, zits tk j w = u) → w ≠ u → d (tk w) < d w := by
  have h : ∀ w, ∃ j, (∃ i, zits tk i w = u) → zits tk j w = u ∧ ∀ i, zits tk i w = u → j ≤ i := fun w => by
    by_cases q : ∃ i, zits tk i w = u
    · obtain ⟨j, h1, h2⟩ := zleast q
      exact ⟨j, fun _ => ⟨h1, h2⟩⟩
    · exact ⟨0, fun z => absurd z q⟩
  obtain ⟨d, hd⟩ : ∃ d : Nat → Nat, ∀ w, (∃ i, zits tk i w = u) → zits tk (d w) w = u ∧ ∀ i, zits tk i w = u → d w ≤ i := ⟨fun w => Classical.choose (h w), fun w => Classical.choose_spec (h w)⟩
  refine ⟨d, fun w hw hne => ?_⟩
  obtain ⟨h1, h2⟩ := hd w hw
  rcases Nat.eq_zero_or_pos (d w) with e | e
  · rw [e] at h1
    exact absurd h1 hne
  · obtain ⟨j, ej⟩ : ∃ j, d w = j + 1 := ⟨d w - 1, by omega⟩
    rw [ej] at h1
    have h3 : zits tk j (tk w) = u := h1
    have h4 := (hd (tk w) ⟨j, h3⟩).2 j h3
    omega
/-- the nodes of the circle of q -/
def zon (tk : Nat → Nat) (m q p : Nat) : Bool := (List.range' 0 m).any fun i => Nat.beq (zits tk i q) p
theorem zon_iff {tk : Nat → Nat} {m q p : Nat} : zon tk m q p = true ↔ ∃ i, i < m ∧ zits tk i q = p := by
  unfold zon
  rw [List.any_eq_true]
  constructor
  · rintro ⟨i, hi, e⟩
    rw [List.mem_range'_1] at hi
    exact ⟨i, by omega, Nat.eq_of_beq_eq_true e⟩
  · rintro ⟨i, hi, e⟩
    exact ⟨i, by rw [List.mem_range'_1]; omega, by rw [e]; exact Nat.beq_refl p⟩
section CI
variable {tk : Nat → Nat} {m : Nat}
/-- a node that comes up behind as many steps as there are nodes is on a circle -/
theorem zper (htk : ∀ w, tk w < m) (h0 : tk 0 = 0) {st : Nat} (hst : st < m) (hq : zits tk m st ≠ 0) : ∃ P, 1 ≤ P ∧ P < m ∧ zits tk P (zits tk m st) = zits tk m st := by
  have hlt : ∀ i, zits tk i st < m := fun i => by
    cases i with
    | zero => exact hst
    | succ i => rw [zits_succ]; exact htk _
  have hpos : ∀ i, i ≤ m → 1 ≤ zits tk i st := fun i hi => by
    rcases Nat.eq_zero_or_pos (zits tk i st) with q | q
    · exfalso
      apply hq
      rw [show m = i + (m - i) by omega, zits_add, q]
      exact zits_0 h0 _
    · exact q
  obtain ⟨i, j, h1, h2, h3⟩ := zpig (m - 1) (fun i => zits tk i st) (fun i hi => ⟨hpos i (by omega), by have := hlt i; show zits tk i st ≤ m - 1; omega⟩)
  have h3 : zits tk i st = zits tk j st := h3
  refine ⟨j - i, by omega, by omega, ?_⟩
  rw [← zits_add, show m + (j - i) = j + (m - i) by omega, zits_add, ← h3, ← zits_add, show i + (m - i) = m by omega]
variable {q : Nat}
theorem zon_facts (htk : ∀ w, tk w < m) (h0 : tk 0 = 0) (hne : ∀ w, 1 ≤ w → w < m → tk w ≠ w) {P : Nat} (hP1 : 1 ≤ P) (hPm : P < m) (hP : zits tk P q = q) (hq : q ≠ 0) (hqm : q < m) :
    zon tk m q 0 = false ∧ (∀ p, zon tk m q p = true → p < m ∧ zon tk m q (tk p) = true) ∧ zon tk m q q = true ∧ zcc (zon tk m q) m + 2 ≤ m ∧ ∀ u, zon tk m q u = true → ∃ d : Nat → Nat, ∀ w, zon tk m q w = true → w ≠ u → d (tk w) < d w := by
  have hlt : ∀ i, zits tk i q < m := fun i => by
    cases i with
    | zero => exact hqm
    | succ i => rw [zits_succ]; exact htk _
  have hn0 : ∀ i, zits tk i q ≠ 0 := fun i e => by
    have h1 := zits_mul hP (i + 1)
    have h2 : i ≤ P * (i + 1) := Nat.le_trans (by omega) (Nat.le_mul_of_pos_left (i + 1) hP1)
    rw [show P * (i + 1) = i + (P * (i + 1) - i) by omega, zits_add, e, zits_0 h0] at h1
    exact hq h1.symm
  have hcl : ∀ p, zon tk m q p = true → p < m ∧ zon tk m q (tk p) = true := fun p hp => by
    obtain ⟨i, hi, e⟩ := zon_iff.mp hp
    refine ⟨e ▸ hlt i, zon_iff.mpr ?_⟩
    by_cases h : i + 1 < m
    · exact ⟨i + 1, h, by rw [zits_succ, e]⟩
    · refine ⟨i + 1 - P, by omega, ?_⟩
      have h1 : zits tk (i + 1) q = tk p := by rw [zits_succ, e]
      rw [← h1]
      have h2 : zits tk (i + 1) q = zits tk (i + 1 - P) (zits tk P q) := by rw [← zits_add]; congr 1; omega
      rw [h2, hP]
  have hqq : zon tk m q q = true := zon_iff.mpr ⟨0, by omega, rfl⟩
  refine ⟨?_, hcl, hqq, ?_, fun u hu => ?_⟩
  · cases h : zon tk m q 0 with
    | false => rfl
    | true =>
      obtain ⟨i, -, e⟩ := zon_iff.mp h
      exact absurd e (hn0 i)
  · have h1 := hcl q hqq
    have h2 := (hcl _ h1.2).1
    have h3 := hne q (by omega) hqm
    rcases Nat.lt_or_gt_of_ne h3 with h | h
    · exact zcc_two h1.2 hqq h m hqm
    · exact zcc_two hqq h1.2 h m h2
  · obtain ⟨a, ha, ea⟩ := zon_iff.mp hu
    obtain ⟨d, hd⟩ := zdist (tk := tk) u
    refine ⟨d, fun w hw hwu => hd w ?_ hwu⟩
    obtain ⟨i, hi, ei⟩ := zon_iff.mp hw
    refine ⟨a + P * i - i, ?_⟩
    have h2 : i ≤ P * i := Nat.le_mul_of_pos_left i hP1
    rw [← ei, ← zits_add, show i + (a + P * i - i) = P * i + a by omega, zits_add, zits_mul hP i, ea]
/-- without circles every node comes to the root -/
theorem zno_circle (h : ∀ w, 1 ≤ w → w < m → zits tk m w = 0) : ∃ r : Nat → Nat, ∀ w, 1 ≤ w → w < m → r (tk w) < r w := by
  obtain ⟨d, hd⟩ := zdist (tk := tk) 0
  exact ⟨d, fun w h1 h2 => hd w ⟨m, h w h1 h2⟩ (by omega)⟩
end CI
/-! The trees of a sentence are the trees by ranks. -/
theorem zt_rk {n : Nat} {al : Nat → Nat → Bool} : ∀ (m : Nat) (v s : List Nat), s.length = m → v.length + m ≤ 6 → zrk v → (v ++ s ∈ zt n (zokf al true) m v ↔ (∀ x ∈ s, x ≤ n) ∧ zalw al (v.length + 1) s ∧ zrk (v ++ s))
  | 0, v, s, hs, _, hv => by
    have : s = [] := List.length_eq_zero_iff.mp hs
    subst this
    rw [List.append_nil]
    exact ⟨fun _ => ⟨fun x hx => (by cases hx), trivial, hv⟩, fun _ => List.mem_singleton.mpr rfl⟩
  | m + 1, v, s, hs, hl, hv => by
    cases s with
    | nil => cases hs
    | cons h t =>
      have ht : t.length = m := Nat.succ.inj hs
      have el : (v ++ [h]).length = v.length + 1 := by simp
      have e0 : v ++ h :: t = (v ++ [h]) ++ t := by simp
      rw [zt_mem]
      constructor
      · rintro ⟨x, hx, hok, hm⟩
        have hxh : x = h := by
          obtain ⟨s, e, -, -⟩ := zt_pre m _ _ hm
          rw [List.append_assoc] at e
          have e := List.append_cancel_left e
          exact (List.cons.inj e).1.symm
        subst hxh
        unfold zokf at hok
        rw [Bool.and_eq_true, Bool.and_eq_true] at hok
        have hne : zch v 7 x ≠ v.length + 1 := fun e => by
          have := hok.1.2
          rw [e, beq_self_eq_true] at this
          cases this
        have ih := zt_rk (n := n) (al := al) m (v ++ [x]) t ht (by rw [el]; omega) (zrk_app (by omega) hv hne)
        rw [e0] at hm ⊢
        obtain ⟨i1, i2, i3⟩ := ih.mp hm
        rw [el] at i2
        exact ⟨fun y hy => by
          rcases List.mem_cons.mp hy with q | q
          · rw [q]; exact hx
          · exact i1 y q, ⟨hok.1.1, i2⟩, i3⟩
      · rintro ⟨h1, ⟨h2, h3⟩, h4⟩
        have hne : zch v 7 h ≠ v.length + 1 := fun e => by
          obtain ⟨r, hr⟩ := h4
          have hin : ∀ i, 1 ≤ i → i ≤ v.length → r (zhd v i) < r i := fun i q1 q2 => by
            have := hr i q1 (by rw [List.length_append]; omega)
            rw [e0] at this
            rw [show zhd (v ++ [h] ++ t) i = zhd v i from by
              unfold zhd
              rw [List.getD_eq_getElem?_getD, List.getD_eq_getElem?_getD, List.getElem?_append_left (by rw [el]; omega), List.getElem?_append_left (by omega)]] at this
            exact this
          have hstep : ∀ k p, r (zit v k p) ≤ r p := by
            intro k
            induction k with
            | zero => intro p; exact Nat.le_refl _
            | succ k ih =>
              intro p
              refine Nat.le_trans (ih (zup1 v p)) ?_
              unfold zup1
              by_cases q : 0 < p ∧ p ≤ v.length
              · rw [if_pos q]; exact Nat.le_of_lt (hin p q.1 q.2)
              · rw [if_neg q]; exact Nat.le_refl _
          have h5 := hstep 7 h
          rw [← zch_it, e] at h5
          have h6 := hr (v.length + 1) (by omega) (by rw [List.length_append]; show _ ≤ _ + (t.length + 1); omega)
          rw [e0, show zhd (v ++ [h] ++ t) (v.length + 1) = h from by
            unfold zhd
            rw [List.getD_eq_getElem?_getD, List.getElem?_append_left (by rw [el]; omega), Nat.add_sub_cancel, List.getElem?_append_right (by omega), Nat.sub_self]
            rfl] at h6
          omega
        have ih := zt_rk (n := n) (al := al) m (v ++ [h]) t ht (by rw [el]; omega) (zrk_app (by omega) hv hne)
        refine ⟨h, h1 h List.mem_cons_self, ?_, ?_⟩
        · unfold zokf
          rw [h2, beq_eq_false_iff_ne.mpr hne]
          rfl
        · rw [e0] at h4 ⊢
          exact ih.mpr ⟨fun x hx => h1 x (List.mem_cons_of_mem _ hx), by rw [el]; exact h3, h4⟩
theorem zT_rk {n : Nat} (h6 : n ≤ 6) {al : Nat → Nat → Bool} {v : List Nat} : v ∈ zT n al true ↔ v.length = n ∧ (∀ x ∈ v, x ≤ n) ∧ zalw al 1 v ∧ zrk v := by
  constructor
  · intro h
    have hl := (zt_all h).1
    have := (zt_rk (n := n) (al := al) n [] v hl (by simpa using h6) zrk_nil).mp h
    exact ⟨hl, this⟩
  · rintro ⟨hl, h⟩
    exact (zt_rk (n := n) (al := al) n [] v hl (by simpa using h6) zrk_nil).mpr h
theorem zmap_hd (v : List Nat) : (List.range' 1 v.length).map (zhd v) = v := by
  refine List.ext_getElem (by simp) (fun i h1 h2 => ?_)
  rw [List.getElem_map, List.getElem_range']
  unfold zhd
  rw [List.getD_eq_getElem?_getD, show 1 + 1 * i - 1 = i by omega, List.getElem?_eq_getElem h2]
  rfl
theorem zhd_map {t : Nat → Nat} {n i : Nat} (h1 : 1 ≤ i) (h2 : i ≤ n) : zhd ((List.range' 1 n).map t) i = t i := by
  unfold zhd
  rw [List.getD_eq_getElem?_getD, List.getElem?_eq_getElem (by rw [List.length_map, List.length_range']; omega), List.getElem_map, List.getElem_range', show 1 + 1 * (i - 1) = i by omega]
  rfl
theorem zalw_map {al : Nat → Nat → Bool} {t : Nat → Nat} : ∀ (d w : Nat), zalw al w ((List.range' w d).map t) ↔ ∀ i, w ≤ i → i < w + d → al (t i) i = true
  | 0, w => ⟨fun _ i h1 h2 => by omega, fun _ => trivial⟩
  | d + 1, w => by
    rw [List.range'_succ]
    show (al (t w) w = true ∧ zalw al (w + 1) ((List.range' (w + 1) d).map t)) ↔ _
    rw [zalw_map d (w + 1)]
    constructor
    · rintro ⟨h1, h2⟩ i h3 h4
      by_cases e : i = w
      · rw [e]; exact h1
      · exact h2 i (by omega) (by omega)
    · intro h
      exact ⟨h w (Nat.le_refl w) (by omega), fun i h1 h2 => h i (by omega) (by omega)⟩
theorem zsum_map (f : Nat → Nat → Int) (t : Nat → Nat) : ∀ (d w : Nat), zsum f w ((List.range' w d).map t) = zls (fun i => f (t i) i) (List.range' w d)
  | 0, _ => rfl
  | d + 1, w => by
    rw [List.range'_succ]
    show f (t w) w + zsum f (w + 1) ((List.range' (w + 1) d).map t) = f (t w) w + zls _ (List.range' (w + 1) d)
    rw [zsum_map f t d (w + 1)]
theorem zBs_zT {n : Nat} (h6 : n ≤ 6) {al : Nat → Nat → Bool} {sc : Nat → Nat → Int} {o : Option Int} (h : zBs (n + 1) (zvl n al sc) o) : zBst (zT n al true) (zkc sc) o := by
  have hval : ∀ a w, 1 ≤ w → w ≤ n → a ≤ n → al a w = true → zvl n al sc a w = some (zkf sc a w) := fun a w h1 h2 h3 h4 => by
    unfold zvl
    rw [if_pos ⟨h1, h2, h3, h4⟩]
  have hw : ∀ t : Nat → Nat, (∀ w, 1 ≤ w → w ≤ n → t w ≤ n ∧ al (t w) w = true) → zwt (n + 1) (zvl n al sc) t = zkc sc ((List.range' 1 n).map t) := fun t ht => by
    unfold zwt zkc
    rw [zsum_map, Nat.add_sub_cancel]
    refine zls_congr (fun w hw => ?_)
    rw [List.mem_range'_1] at hw
    obtain ⟨h1, h2⟩ := ht w (by omega) (by omega)
    show (zvl n al sc (t w) w).getD 0 = _
    rw [hval _ _ (by omega) (by omega) h1 h2]
    rfl
  constructor
  · intro z hz
    obtain ⟨t, r, ht, e⟩ := h.1 z hz
    have ht2 : ∀ w, 1 ≤ w → w ≤ n → t w ≤ n ∧ al (t w) w = true := fun w h1 h2 => by
      obtain ⟨a, -, x, ex⟩ := ht w h1 (by omega)
      unfold zvl at ex
      by_cases q : 1 ≤ w ∧ w ≤ n ∧ t w ≤ n ∧ al (t w) w = true
      · exact ⟨q.2.2.1, q.2.2.2⟩
      · rw [if_neg q] at ex; cases ex
    refine ⟨(List.range' 1 n).map t, (zT_rk h6).mpr ⟨by simp, fun x hx => ?_, (zalw_map n 1).mpr (fun i h1 h2 => (ht2 i h1 (by omega)).2), r, fun i h1 h2 => ?_⟩, by rw [← hw t ht2, e]⟩
    · obtain ⟨w, hw, rfl⟩ := List.mem_map.mp hx
      rw [List.mem_range'_1] at hw
      exact (ht2 w (by omega) (by omega)).1
    · rw [List.length_map, List.length_range'] at h2
      rw [zhd_map h1 h2]
      exact (ht i h1 (by omega)).2.1
  · intro v hv
    obtain ⟨hl, hx, ha, r, hr⟩ := (zT_rk h6).mp hv
    have ev : (List.range' 1 n).map (zhd v) = v := by rw [← hl]; exact zmap_hd v
    rw [← ev] at ha
    have ha := (zalw_map n 1).mp ha
    have ht2 : ∀ w, 1 ≤ w → w ≤ n → zhd v w ≤ n ∧ al (zhd v w) w = true := fun w h1 h2 => ⟨hx _ (zhd_mem h1 (by omega)), ha w h1 (by omega)⟩
    obtain ⟨z, e, hle⟩ := h.2 (zhd v) r (fun w h1 h2 => ⟨by have := (ht2 w h1 (by omega)).1; omega, hr w h1 (by omega), _, hval _ _ h1 (by omega) (ht2 w h1 (by omega)).1 (ht2 w h1 (by omega)).2⟩)
    rw [hw _ ht2, ev] at hle
    exact ⟨z, e, hle⟩
