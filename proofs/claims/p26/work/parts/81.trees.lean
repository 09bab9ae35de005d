/-! TREES, as the law looks at them. -/
theorem zt_each {n : Nat} {ok : List Nat → Nat → Bool} : ∀ (m : Nat) (v u : List Nat), u ∈ zt n ok m v → ∀ i, v.length ≤ i → i < u.length → ok (u.take i) (u.getD i 0) = true
  | 0, v, u, h, i, h1, h2 => by
    rw [List.mem_singleton.mp h] at h2
    omega
  | m + 1, v, u, h, i, h1, h2 => by
    obtain ⟨a, -, hk, hu⟩ := zt_mem.mp h
    by_cases e : i = v.length
    · obtain ⟨s, es, -, -⟩ := zt_pre m u (v ++ [a]) hu
      rw [e, es, List.append_assoc]
      simpa using hk
    · exact zt_each m (v ++ [a]) u hu i (by simp; omega) h2
theorem zt_make {n : Nat} {ok ok' : List Nat → Nat → Bool} : ∀ (m : Nat) (v u : List Nat), u ∈ zt n ok m v → (∀ i, v.length ≤ i → i < u.length → ok' (u.take i) (u.getD i 0) = true) → u ∈ zt n ok' m v
  | 0, v, u, h, _ => h
  | m + 1, v, u, h, hq => by
    obtain ⟨a, ha, hk, hu⟩ := zt_mem.mp h
    refine zt_mem.mpr ⟨a, ha, ?_, zt_make m (v ++ [a]) u hu (fun i h1 h2 => hq i (by simp at h1; omega) h2)⟩
    obtain ⟨s, es, -, -⟩ := zt_pre m u (v ++ [a]) hu
    have := hq v.length (Nat.le_refl _) (by rw [es]; simp)
    rw [es, List.append_assoc] at this
    simpa using this
section TR
variable {n : Nat} {al : Nat → Nat → Bool} {v : List Nat}
theorem t_ok {cr : Bool} (hv : v ∈ zT n al cr) {w : Nat} (h1 : 1 ≤ w) (h2 : w ≤ n) : zokf al cr (v.take (w - 1)) (zhd v w) = true := zt_each n [] v hv (w - 1) (Nat.zero_le _) (by rw [(zt_all hv).1]; omega)
theorem t_al {cr : Bool} (hv : v ∈ zT n al cr) {w : Nat} (h1 : 1 ≤ w) (h2 : w ≤ n) : al (zhd v w) w = true := by
  have h := t_ok hv h1 h2
  have hl := (zt_all hv).1
  unfold zokf at h
  simp only [Bool.and_eq_true] at h
  have h := h.1.1
  rw [List.length_take, hl, show min (w - 1) n + 1 = w by omega] at h
  exact h
theorem t_sub (hv : v ∈ zT n al false) : v ∈ zT n al true := zt_make n [] v hv (fun i h1 h2 => by
  have h := zt_each n [] v hv i h1 h2
  unfold zokf at h ⊢
  simp only [Bool.and_eq_true] at h ⊢
  exact ⟨h.1, rfl⟩)
theorem t_len : (zT n al false).length ≤ (zT n al true).length := zt_le (fun v a h => by
  unfold zokf at h ⊢
  simp only [Bool.and_eq_true] at h ⊢
  exact ⟨h.1, rfl⟩) n []
theorem t_xs0 : ∀ (n : Nat), zxs v n = 0 → ∀ w, w < n → (List.range' 1 w).countP (fun o => zcr (zhd v (w + 1)) (w + 1) (zhd v o) o) = 0
  | 0, _, w, hw => absurd hw (Nat.not_lt_zero w)
  | n + 1, h, w, hw => by
    have h : zxs v n + (List.range' 1 n).countP (fun o => zcr (zhd v (n + 1)) (n + 1) (zhd v o) o) = 0 := h
    by_cases e : w = n
    · subst e; omega
    · exact t_xs0 n (by omega) w (by omega)
theorem t_nocross (hv : v ∈ zT n al true) (h0 : zxs v n = 0) : v ∈ zT n al false := zt_make n [] v hv (fun i _ h2 => by
  have h := zt_each n [] v hv i (Nat.zero_le _) h2
  have hl := (zt_all hv).1
  have hi : (v.take i).length = i := by rw [List.length_take]; omega
  unfold zokf at h ⊢
  simp only [Bool.and_eq_true] at h ⊢
  refine ⟨h.1, ?_⟩
  rw [Bool.false_or, Bool.not_eq_true']
  unfold zcrs
  rw [List.any_eq_false, hi]
  intro o ho hc
  have hz := t_xs0 n h0 i (by omega)
  rw [List.countP_eq_zero] at hz
  refine hz o ho ?_
  rw [List.mem_range'_1] at ho
  have e1 : zhd v (i + 1) = v.getD i 0 := rfl
  have e2 : zhd (v.take i) o = zhd v o := by
    unfold zhd
    rw [List.getD_eq_getElem?_getD, List.getD_eq_getElem?_getD, List.getElem?_take, if_pos (by omega)]
  rw [e1, ← e2]
  exact hc)
theorem t_hd_le {cr : Bool} (hv : v ∈ zT n al cr) {w : Nat} (h1 : 1 ≤ w) (h2 : w ≤ n) : zhd v w ≤ n := by
  obtain ⟨hl, hx⟩ := zt_all hv
  refine hx _ ?_
  unfold zhd
  rw [List.getD_eq_getElem?_getD, List.getElem?_eq_getElem (by omega)]
  exact List.getElem_mem _
theorem t_sumS (f : Nat → Nat → Int) {w : Nat} (hw : w < v.length) : zsum f 1 (v.take (w + 1)) = zsum f 1 (v.take w) + f (zhd v (w + 1)) (w + 1) := by
  have e : v.take (w + 1) = v.take w ++ [zhd v (w + 1)] := by
    rw [List.take_add_one, List.getElem?_eq_getElem hw]
    unfold zhd
    rw [List.getD_eq_getElem?_getD, Nat.add_sub_cancel, List.getElem?_eq_getElem hw]
    rfl
  rw [e, zsum_snoc, List.length_take, show 1 + min w v.length = w + 1 by omega]
end TR
theorem t_sc {n : Nat} {mk : Nat → Nat → Int32} {wt : Nat → Int} {kd : Nat → Nat} {cr cr' : Bool} {u v : List Nat} (h6 : n ≤ 6) (hu : u ∈ zT n (zal mk n) cr) (hv : v ∈ zT n (zal mk n) cr') (h : zmk wt kd u ≤ zmk wt kd v) : zsum (zsc wt kd) 1 v ≤ zsum (zsc wt kd) 1 u := by
  obtain ⟨hl, hx⟩ := zt_all hu
  obtain ⟨hl2, hx2⟩ := zt_all hv
  have h3 := zc8_lt (v := u) (by omega) (fun h hh => by have := hx h hh; omega)
  have h4 := zc8_lt (v := v) (by omega) (fun h hh => by have := hx2 h hh; omega)
  unfold zmk zkM at h
  omega
theorem zcq_mono {p q : Int → Bool} {f : Nat → Int} (h : ∀ x, p x = true → q x = true) : ∀ c, zcq p f c ≤ zcq q f c
  | 0 => Nat.le_refl _
  | c + 1 => by
    show zcq p f c + (if p (f c) = true then 1 else 0) ≤ zcq q f c + (if q (f c) = true then 1 else 0)
    have := zcq_mono (f := f) h c
    by_cases e : p (f c) = true
    · rw [if_pos e, if_pos (h _ e)]; omega
    · rw [if_neg e]; omega
section TV
variable {T : yT} {s : Nat}
theorem y_zb (g : yOk 512 T) (hs : s < yk T.1) : ∀ h w, h ≤ yn T.1 s → 1 ≤ w → w ≤ yn T.1 s → -8000 ≤ zsc (ywt T.1) (ykd T.1 s) h w ∧ zsc (ywt T.1) (ykd T.1 s) h w ≤ 8000 := fun h w hh h1 h2 => by
  obtain ⟨h6, k0, k1, -, -⟩ := g.1 s hs
  have hw := g.2.2.2.2.1
  have hb1 : zbk (ykd T.1 s) h w < 28 := by
    unfold zbk
    have := k1 w h1 h2
    rcases Nat.eq_zero_or_pos h with rfl | q
    · rw [k0]; omega
    · have := k1 h q hh; omega
  have hb2 : zbd h w < 28 := by
    unfold zbd
    split <;> split <;> omega
  have a1 := hw _ hb1
  have a2 := hw _ hb2
  unfold zsc
  omega
theorem y_scb (g : yOk 512 T) (hs : s < yk T.1) {cr : Bool} {v : List Nat} (hv : v ∈ yTs T.1 s cr) : -48000 ≤ ysc T.1 s v ∧ ysc T.1 s v ≤ 48000 := (zT_sum (y_n6 g hs) (y_zb g hs) hv).2.2
theorem yRk_mem {cr : Bool} {r : Nat} {v : List Nat} (h : yRk T.1 s cr r v) : v ∈ yTs T.1 s cr := by
  obtain ⟨i, hi, rfl, -⟩ := h
  exact zT_at hi
theorem yRk_0 {cr : Bool} {v : List Nat} (h : yRk T.1 s cr 0 v) : zBt (yTs T.1 s cr) (ywt T.1) (ykd T.1 s) v := by
  refine ⟨yRk_mem h, fun u hu => ?_⟩
  obtain ⟨i, hi, -, hc⟩ := h
  obtain ⟨j, hj, e⟩ := List.getElem_of_mem hu
  have := zcq_0' _ hc j hj
  have hj' : (yTs T.1 s cr).getD j [] = u := by
    rw [List.getD_eq_getElem?_getD, List.getElem?_eq_getElem hj, e]
    rfl
  rw [hj'] at this
  have := of_decide_eq_false this
  omega
theorem yRk_le {cr : Bool} {r : Nat} {u v : List Nat} (hu : yRk T.1 s cr r u) (hv : yRk T.1 s cr (r + 1) v) : zmk (ywt T.1) (ykd T.1 s) u ≤ zmk (ywt T.1) (ykd T.1 s) v := by
  obtain ⟨i, hi, -, hc⟩ := hu
  obtain ⟨j, hj, -, hd⟩ := hv
  refine Decidable.byContradiction fun q => ?_
  have := zcq_mono (p := fun x => decide (x < zmk (ywt T.1) (ykd T.1 s) v)) (q := fun x => decide (x < zmk (ywt T.1) (ykd T.1 s) u)) (f := fun i => zmk (ywt T.1) (ykd T.1 s) ((yTs T.1 s cr).getD i [])) (fun x hx => decide_eq_true (by have := of_decide_eq_true hx; omega)) (yTs T.1 s cr).length
  omega
/-- no tree, or the best one -/
theorem yb_case (g : yOk 512 T) (hs : s < yk T.1) (cr : Bool) : ((yTs T.1 s cr).length = 0 ∧ yb T.1 s cr = none) ∨ ∃ v, 0 < (yTs T.1 s cr).length ∧ zBt (yTs T.1 s cr) (ywt T.1) (ykd T.1 s) v ∧ yb T.1 s cr = some v := by
  rcases Nat.eq_zero_or_pos (yTs T.1 s cr).length with q | q
  · exact Or.inl ⟨q, yb_no (List.length_eq_zero_iff.mp q)⟩
  · obtain ⟨v, -, hv⟩ := yr_ok (V := T.1) (s := s) (cr := cr) (r := 0) (y_n6 g hs) q
    exact Or.inr ⟨v, q, yRk_0 hv, yb_ok (y_n6 g hs) (yRk_0 hv)⟩
theorem yr_0 (g : yOk 512 T) (hs : s < yk T.1) {cr : Bool} {v : List Nat} (hl : 0 < (yTs T.1 s cr).length) (hv : zBt (yTs T.1 s cr) (ywt T.1) (ykd T.1 s) v) : yr T.1 s cr 0 = some v := by
  obtain ⟨u, e, hu⟩ := yr_ok (V := T.1) (s := s) (cr := cr) (r := 0) (y_n6 g hs) hl
  rw [zBt_eq (y_n6 g hs) hv (yRk_0 hu)]
  exact e
theorem zms_le (rh : Nat → Int32) (v : List Nat) : ∀ n, zms rh v n ≤ n
  | 0 => Nat.le_refl _
  | n + 1 => by
    show zms rh v n + (if rh (n + 1) = nI (zhd v (n + 1)) then 1 else 0) ≤ n + 1
    have := zms_le rh v n
    split <;> omega
theorem zxs_le (v : List Nat) : ∀ n, zxs v n ≤ n * n
  | 0 => Nat.le_refl _
  | n + 1 => by
    show zxs v n + (List.range' 1 n).countP (fun o => zcr (zhd v (n + 1)) (n + 1) (zhd v o) o) ≤ (n + 1) * (n + 1)
    have h1 := zxs_le v n
    have h2 : (List.range' 1 n).countP (fun o => zcr (zhd v (n + 1)) (n + 1) (zhd v o) o) ≤ n := by
      refine Nat.le_trans List.countP_le_length ?_
      rw [List.length_range']
      exact Nat.le_refl _
    have h3 : (n + 1) * (n + 1) = n * n + 2 * n + 1 := by rw [Nat.add_mul, Nat.mul_add]; omega
    omega
end TV
