/-! MENDS: it answers 1. -/
noncomputable def yMd (V : yV) (s : Nat) : yV := match yb V s true with
  | none => V
  | some v => yV_w V (yNw V s v) (fun g => ysm V g + yNw V s v g) (yst V + 1)
noncomputable def ymd (T : yT) (s : Nat) : yT := (yMd T.1 s, ykeep T true)
/-- mended i times -/
noncomputable def ytm (s : Nat) : Nat → yT → yT
  | 0, T => T
  | i + 1, T => ymd (ytm s i T) s
/-- each word's right head stands ahead of it -/
def yR (V : yV) (s : Nat) : Prop := ∀ w, 1 ≤ w → w ≤ yn V s → ∃ h, h < w ∧ yrh V s w = nI h
theorem yMd_w (V : yV) (s : Nat) : ∃ wt sm st, yMd V s = yV_w V wt sm st := by
  unfold yMd
  cases yb V s true with
  | none => exact ⟨ywt V, ysm V, yst V, rfl⟩
  | some v => exact ⟨_, _, _, rfl⟩
theorem ytm_w (s : Nat) (T : yT) : ∀ i, ∃ wt sm st, (ytm s i T).1 = yV_w T.1 wt sm st
  | 0 => ⟨ywt T.1, ysm T.1, yst T.1, rfl⟩
  | i + 1 => by
    obtain ⟨a, b, c, e⟩ := ytm_w s T i
    obtain ⟨a2, b2, c2, e2⟩ := yMd_w (ytm s i T).1 s
    refine ⟨a2, b2, c2, ?_⟩
    show yMd (ytm s i T).1 s = _
    rw [e2, e]
    rfl
theorem ytm_1 (s : Nat) {T T' : yT} (h : T.1 = T'.1) : ∀ i, (ytm s i T).1 = (ytm s i T').1
  | 0 => h
  | i + 1 => by
    show yMd (ytm s i T).1 s = yMd (ytm s i T').1 s
    rw [ytm_1 s h i]
section ME
variable {N j : Nat} {T : yT} {s : Nat}
theorem ytm_k (i : Nat) : yk (ytm s i T).1 = yk T.1 := by obtain ⟨a, b, c, e⟩ := ytm_w s T i; rw [e]; rfl
theorem ytm_n (i : Nat) : yn (ytm s i T).1 = yn T.1 := by obtain ⟨a, b, c, e⟩ := ytm_w s T i; rw [e]; rfl
theorem ytm_rh (i : Nat) : yrh (ytm s i T).1 = yrh T.1 := by obtain ⟨a, b, c, e⟩ := ytm_w s T i; rw [e]; rfl
theorem ytm_Ts (i : Nat) (t : Nat) (cr : Bool) : yTs (ytm s i T).1 t cr = yTs T.1 t cr := by obtain ⟨a, b, c, e⟩ := ytm_w s T i; rw [e]; rfl
theorem yR_zrg {V : yV} (h6 : yn V s ≤ 6) (hR : yR V s) {x : Nat} (h1 : 1 ≤ x) (h2 : x ≤ yn V s) : ∃ h, h < x ∧ yrh V s x = nI h ∧ zrg (yrh V s) x = h := by
  obtain ⟨h, hh, e⟩ := hR x h1 h2
  refine ⟨h, hh, e, ?_⟩
  unfold zrg
  rw [if_neg (by omega), e, if_neg (nI_nem1 (by omega)), nI_clamp (by omega)]
theorem yR_rt {V : yV} (h6 : yn V s ≤ 6) (hR : yR V s) : yrt V s = true := by
  rw [yrt_iff]
  have key : ∀ k x, x ≤ k → x ≤ yn V s → zits (zrg (yrh V s)) k x = 0 := by
    intro k
    induction k with
    | zero => intro x hx _; exact Nat.le_zero.mp hx
    | succ k ih =>
      intro x hx hn
      show zits (zrg (yrh V s)) k (zrg (yrh V s) x) = 0
      rcases Nat.eq_zero_or_pos x with rfl | h1
      · rw [zrg_0]; exact ih 0 (by omega) (by omega)
      · obtain ⟨h, hh, -, e⟩ := yR_zrg h6 hR h1 hn
        rw [e]
        exact ih h (by omega) (by omega)
  exact fun x h1 h2 => key _ x h2 h2
theorem b_mend (g : yOk 512 T) (hs : s < yk T.1) (hR : yR T.1 s) {v : List Nat} (ev : yb T.1 s true = some v) : y_X6_mend T (nI s) = some (.inr (nI (zmn (zrg (yrh T.1 s)) (zhd v) (yn T.1 s))), ymd T s) := by
  have hr := yR_rt (y_n6 g hs) hR
  unfold y_X6_mend e_mend ymd yMd
  rw [yg_t g, eS_ok (yk5 g) hs, if_neg (by rw [hr]; decide), ev]
  rfl
theorem b_mend_no (g : yOk 512 T) (hs : s < yk T.1) (ev : yb T.1 s true = none) : y_X6_mend T (nI s) = some (.inl 3, T) := by
  unfold y_X6_mend e_mend
  rw [yg_t g, eS_ok (yk5 g) hs, ev]
  cases yrt T.1 s <;> rfl
theorem b_mend_out (g : yOk 512 T) {p : Int32} (hp : p < 0 ∨ nI (yk T.1) ≤ p) : y_X6_mend T p = some (.inl 1, T) := by
  unfold y_X6_mend e_mend
  rw [yg_t g, eS_no hp]
theorem y_bk (g : yOk 512 T) (hs : s < yk T.1) {h w : Nat} (hh : h ≤ yn T.1 s) (h1 : 1 ≤ w) (h2 : w ≤ yn T.1 s) : zbk (ykd T.1 s) h w < 20 := by
  obtain ⟨h6, k0, k1, -, -⟩ := g.1 s hs
  unfold zbk
  have := k1 w h1 h2
  rcases Nat.eq_zero_or_pos h with rfl | q
  · rw [k0]; omega
  · have := k1 h q hh; omega
theorem o_mend (g : yI j T) (hj : j ≤ 512) (hs : s < yk T.1) (hR : yR T.1 s) (hl : 0 < (yTs T.1 s true).length) : yI (j + 1) (ymd T s) := by
  have g5 := g.k hj
  have h6 := y_n6 g5 hs
  rcases yb_case g5 hs true with ⟨q, -⟩ | ⟨v, -, hv, ev⟩
  · omega
  have e : ymd T s = (yV_w T.1 (yNw T.1 s v) (fun g => ysm T.1 g + yNw T.1 s v g) (yst T.1 + 1), ykeep T true) := by
    unfold ymd yMd
    rw [ev]
  rw [e]
  have hb : ∀ i, 1 ≤ i → i ≤ yn T.1 s → zbk (ykd T.1 s) (zrg (yrh T.1 s) i) i < 20 ∧ zbk (ykd T.1 s) (zhd v i) i < 20 ∧ zrg (yrh T.1 s) i ≠ i ∧ zhd v i ≠ i := fun i h1 h2 => by
    obtain ⟨h, hh, -, ez⟩ := yR_zrg h6 hR h1 h2
    rw [ez]
    exact ⟨y_bk g5 hs (by omega) h1 h2, y_bk g5 hs (t_hd_le hv.1 h1 h2) h1 h2, by omega, (zal_iff.mp (t_al hv.1 h1 h2)).1⟩
  obtain ⟨⟨k1, k2, k3⟩, k4⟩ := g
  refine ⟨⟨k1, k2, yW3_len, show yst T.1 + 1 ≤ j + 1 by have := k3.2.1; omega, fun f hf => ?_, fun e he => ?_⟩, k4⟩
  · have h1 := zmd_b (wt := ywt T.1) hb (yn T.1 s) (Nat.le_refl _) f
    have h2 := k3.2.2.1 f hf
    show -(100 + 6 * ((j + 1 : Nat) : Int)) ≤ zmd (ykd T.1 s) (zrg (yrh T.1 s)) (zhd v) (ywt T.1) (yn T.1 s) f ∧ zmd (ykd T.1 s) (zrg (yrh T.1 s)) (zhd v) (ywt T.1) (yn T.1 s) f ≤ 100 + 6 * ((j + 1 : Nat) : Int)
    omega
  · obtain ⟨q1, q2⟩ := yW3_keep k3 e he
    refine ⟨by omega, fun f hf => ?_⟩
    have := q2 f hf
    omega
theorem o_ytm (g : yI j T) (hs : s < yk T.1) (hR : yR T.1 s) (hl : 0 < (yTs T.1 s true).length) : ∀ i, j + i ≤ 512 → yI (j + i) (ytm s i T)
  | 0, _ => g
  | i + 1, hi => by
    have ih := o_ytm g hs hR hl i (by omega)
    refine o_mend (j := j + i) ih (by omega) (by rw [ytm_k]; exact hs) ?_ (by rw [ytm_Ts]; exact hl)
    intro w h1 h2
    rw [ytm_n] at h2
    rw [ytm_rh]
    exact hR w h1 h2
theorem yR_ytm (hR : yR T.1 s) (i : Nat) : yR (ytm s i T).1 s := fun w h1 h2 => by
  rw [ytm_n] at h2
  rw [ytm_rh]
  exact hR w h1 h2
/-- a step: how many heads are mended -/
theorem b_ytm (g : yI j T) (hs : s < yk T.1) (hR : yR T.1 s) (hl : 0 < (yTs T.1 s true).length) {i : Nat} (hi : j + i ≤ 512) : ∃ a b, a + b = yn T.1 s ∧ y_X6_matched (ytm s i T) (nI s) = some (.inr (nI b), ytm s i T) ∧ y_X6_mend (ytm s i T) (nI s) = some (.inr (nI a), ytm s (i + 1) T) ∧ yst (ytm s (i + 1) T).1 = yst (ytm s i T).1 + 1 := by
  have gi := (o_ytm g hs hR hl i hi).k hi
  have hs' : s < yk (ytm s i T).1 := by rw [ytm_k]; exact hs
  have h6 := y_n6 gi hs'
  have hRi := yR_ytm hR i
  rcases yb_case gi hs' true with ⟨q, -⟩ | ⟨v, -, hv, ev⟩
  · rw [ytm_Ts] at q; omega
  refine ⟨zmn (zrg (yrh (ytm s i T).1 s)) (zhd v) (yn (ytm s i T).1 s), zms (yrh (ytm s i T).1 s) v (yn (ytm s i T).1 s), ?_, a_matched gi hs' ev, b_mend gi hs' hRi ev, ?_⟩
  · have key : ∀ m, m ≤ yn (ytm s i T).1 s → zmn (zrg (yrh (ytm s i T).1 s)) (zhd v) m + zms (yrh (ytm s i T).1 s) v m = m := by
      intro m
      induction m with
      | zero => intro _; rfl
      | succ m ih =>
        intro hm
        have ih := ih (by omega)
        obtain ⟨h, hh, e1, e2⟩ := yR_zrg h6 hRi (x := m + 1) (by omega) hm
        have hd := t_hd_le hv.1 (w := m + 1) (by omega) hm
        show (zmn _ _ m + (if zrg (yrh (ytm s i T).1 s) (m + 1) = zhd v (m + 1) then 0 else 1)) + (zms _ _ m + (if yrh (ytm s i T).1 s (m + 1) = nI (zhd v (m + 1)) then 1 else 0)) = m + 1
        rw [e2, e1]
        by_cases q : h = zhd v (m + 1)
        · rw [if_pos q, if_pos (by rw [q])]; omega
        · rw [if_neg q, if_neg (nI_ne (by omega) (by omega) q)]; omega
    rw [key _ (Nat.le_refl _), ytm_n]
  · show yst (yMd (ytm s i T).1 s) = _
    unfold yMd
    rw [ev]
    rfl
theorem yst_ytm (g : yI j T) (hs : s < yk T.1) (hR : yR T.1 s) (hl : 0 < (yTs T.1 s true).length) : ∀ i, j + i ≤ 512 → yst (ytm s i T).1 = yst T.1 + i
  | 0, _ => rfl
  | i + 1, hi => by
    obtain ⟨a, b, -, -, -, e⟩ := b_ytm g hs hR hl (i := i) (by omega)
    rw [e, yst_ytm g hs hR hl i (by omega)]
    omega
/-- the state after i mendings, with m entries of its history at most -/
noncomputable def yX0 (s : Nat) (T : yT) (i m : Nat) : yT := ((ytm s i T).1, (ytm s i T).2.take m)
noncomputable def yLn (s : Nat) (T : yT) (i m : Nat) : Nat := ((ytm s i T).2.take m).length
theorem yLn_le (i m : Nat) : yLn s T i m ≤ m := by
  unfold yLn
  rw [List.length_take]
  omega
theorem yMd_back (V : yV) : yV_w (yMd V s) (ywt V) (ysm V) (yst V) = V := by
  obtain ⟨a, b, c, e⟩ := yMd_w V s
  rw [e]
  rfl
theorem yX0_2 (i m : Nat) (hm : m ≤ 19) : (yX0 s T (i + 1) (m + 1)).2 = (ywt (ytm s i T).1, ysm (ytm s i T).1, yst (ytm s i T).1, true) :: (ytm s i T).2.take m := by
  show (((ywt (ytm s i T).1, ysm (ytm s i T).1, yst (ytm s i T).1, true) : zE) :: (ytm s i T).2.take 19).take (m + 1) = _
  rw [List.take_succ_cons, List.take_take, show min m 19 = m by omega]
theorem yLn_s (i m : Nat) (hm : m ≤ 19) : yLn s T (i + 1) (m + 1) = yLn s T i m + 1 := by
  show (yX0 s T (i + 1) (m + 1)).2.length = _
  rw [yX0_2 i m hm, List.length_cons]
  rfl
theorem yLn_add (i m : Nat) : ∀ k, m + k ≤ 20 → yLn s T (i + k) (m + k) = yLn s T i m + k
  | 0, _ => rfl
  | k + 1, h => by
    show yLn s T ((i + k) + 1) ((m + k) + 1) = _
    rw [yLn_s _ _ (by omega), yLn_add i m k (by omega)]
    omega
theorem b_back (i m : Nat) (hm : m ≤ 19) (g : yOk 512 (yX0 s T (i + 1) (m + 1))) : y_X6_rollBack (yX0 s T (i + 1) (m + 1)) = some (.inr (nI (yLn s T i m)), yX0 s T i m) := by
  have h := b_roll g (yX0_2 (s := s) (T := T) i m hm)
  rw [h]
  show some ((Sum.inr (nI (yLn s T i m)) : Nat ⊕ Int32), (yV_w (yMd (ytm s i T).1 s) (ywt (ytm s i T).1) (ysm (ytm s i T).1) (yst (ytm s i T).1), (ytm s i T).2.take m)) = _
  rw [yMd_back]
  rfl
theorem b_back0 (i : Nat) (g : yOk 512 (ytm s (i + 1) T)) : y_X6_rollBack (ytm s (i + 1) T) = some (.inr (nI (yLn s T i 19)), yX0 s T i 19) := by
  have h := b_roll g (e := (ywt (ytm s i T).1, ysm (ytm s i T).1, yst (ytm s i T).1, true)) (H := (ytm s i T).2.take 19) rfl
  rw [h]
  show some ((Sum.inr (nI (yLn s T i 19)) : Nat ⊕ Int32), (yV_w (yMd (ytm s i T).1 s) (ywt (ytm s i T).1) (ysm (ytm s i T).1) (yst (ytm s i T).1), (ytm s i T).2.take 19)) = _
  rw [yMd_back]
  rfl
end ME
section MF
variable {N j : Nat} {T : yT} {s : Nat}
/-- mended once more, the same weights -/
theorem k_e336 (g : yI j T) (hj : j + 4 ≤ 512) (hk : 1 ≤ yk T.1) (hs : s < yk T.1) (hR : yR T.1 s) (hl : 0 < (yTs T.1 s true).length) (y : Int32) {D : Nat} (h1 : 1 ≤ D) (hD : D ≤ 4) {bh : Int64} (hb : bh = y_wh (ytm s D T).1) : ∀ (d f k : Nat), k + d = D → d < f → ∃ T', f_L_mends_336 N f y (nI s) 1 (nI D) bh (nI k) (ytm s k T) = some (1, T') ∧ yI (j + 4) T' ∧ 1 ≤ yk T'.1
  | d, 0, k, _, hf => absurd hf (Nat.not_lt_zero d)
  | 0, f + 1, k, hkd, _ => by
    refine ⟨_, ?_, yI_mono (o_ytm g hs hR hl k (by omega)) (by omega), by rw [ytm_k]; exact hk⟩
    rw [f_L_mends_336, if_pos (nI_le (by omega) (by omega))]
    rfl
  | d + 1, f + 1, k, hkd, hf => by
    obtain ⟨r, hr, er⟩ := k_some N (y >>> ((9 : Int32) &&& 31)) (n := 2) (by decide) (by decide)
    rw [f_L_mends_336, if_neg (nI_ge (by omega) (by omega)), if_neg i1_ne0, zbindS (show f_L_some N (y >>> ((9 : Int32) &&& 31)) (2 : Int32) = _ from er)]
    by_cases z : r = 0
    · obtain ⟨a, b, hab, -, em, -⟩ := b_ytm g hs hR hl (i := k) (by omega)
      have h6 := y_n6 (g.k (by omega)) hs
      have e386 : ∀ T2, f_L_mends_386 N (fun y1 y2 y4 y8 y10 y13 T => f_L_mends_336 N f y1 y2 y4 y8 y10 y13 T) y (nI s) (nI D) bh (nI k) T2 = f_L_mends_336 N f y (nI s) 1 (nI D) bh (nI (k + 1)) T2 := fun T2 => by
        unfold f_L_mends_386 f_L_mends_391
        rw [nI_1]
      rw [if_pos (show nI r = 0 by rw [z]; rfl), zbpS em, zxR, if_neg (nI_pos (by omega)), show nI D - (1 : Int32) = nI (D - 1) from by
        obtain ⟨D', rfl⟩ : ∃ a, D = a + 1 := ⟨D - 1, by omega⟩
        rw [← nI_1, Int32.add_sub_cancel]
        rfl]
      by_cases q : k < D - 1
      · rw [if_pos (nI_lt q (by omega)), e386]
        exact k_e336 g hj hk hs hR hl y h1 hD hb d f (k + 1) (by omega) (by omega)
      · have gk := o_ytm g hs hR hl (k + 1) (by omega)
        rw [if_neg (nI_nlt (by omega) (by omega)), zbpS (k_weights (gk.k (by omega))), if_pos (by rw [hb, show k + 1 = D by omega]), e386]
        exact k_e336 g hj hk hs hR hl y h1 hD hb d f (k + 1) (by omega) (by omega)
    · refine ⟨_, ?_, yI_mono (o_ytm g hs hR hl k (by omega)) (by omega), by rw [ytm_k]; exact hk⟩
      rw [if_neg (nI_nz (by omega) z)]
      rfl
theorem k_e311 (g : yI j T) (hj : j + 4 ≤ 512) (hk : 1 ≤ yk T.1) (hs : s < yk T.1) (hR : yR T.1 s) (hl : 0 < (yTs T.1 s true).length) (y : Int32) {D : Nat} (h1 : 1 ≤ D) (hD : D ≤ 4) (c : Nat) : ∃ T', f_L_mends_311 N y (nI s) 1 (y_ah T.1) (nI D) (y_wh (ytm s D T).1) (T.1, T.2.take c) = some (1, T') ∧ yI (j + 4) T' ∧ 1 ≤ yk T'.1 := by
  have g2 := o_take g c
  have ka : f_L_all N ((T.1, T.2.take c) : yT) = some (y_ah T.1, (T.1, T.2.take c)) := k_all (g2.k (by omega))
  unfold f_L_mends_311
  rw [if_neg i1_ne0, zbpS ka, if_pos rfl]
  unfold f_L_mends_331
  exact k_e336 (T := (T.1, T.2.take c)) g2 hj hk hs hR hl y h1 hD (by rw [ytm_1 s (T := (T.1, T.2.take c)) (T' := T) rfl D]) D 6 0 (by omega) (by omega)
theorem k_e274 (g : yI j T) (hj : j + 4 ≤ 512) (hs : s < yk T.1) (hR : yR T.1 s) (hl : 0 < (yTs T.1 s true).length) (y : Int32) (was bh : Int64) {i : Nat} (hi : i ≤ 3) : ∀ (a f : Nat), a ≤ i → a < f → f_L_mends_274 N f y (nI s) 1 was (nI (i + 1)) bh (nI (yLn s T i 19)) (nI (i + 1 - a)) (yX0 s T a (a + (19 - i))) = f_L_mends_311 N y (nI s) 1 was (nI (i + 1)) bh (yX0 s T 0 (0 + (19 - i)))
  | a, 0, _, hf => absurd hf (Nat.not_lt_zero a)
  | 0, f + 1, ha, _ => by
    rw [f_L_mends_274, if_pos (show nI (i + 1) ≤ nI (i + 1 - 0) from nI_le (by omega) (by omega))]
  | a + 1, f + 1, ha, hf => by
    have ga := (o_take (o_ytm g hs hR hl (a + 1) (by omega)) (a + 1 + (19 - i))).k (by omega)
    have e := b_back (s := s) (T := T) a (a + (19 - i)) (by omega) (by rw [show a + (19 - i) + 1 = a + 1 + (19 - i) by omega]; exact ga)
    rw [show a + (19 - i) + 1 = a + 1 + (19 - i) by omega] at e
    have hle := yLn_add (s := s) (T := T) a (a + (19 - i)) (i - a) (by omega)
    rw [show a + (i - a) = i by omega, show a + (19 - i) + (i - a) = 19 by omega] at hle
    rw [f_L_mends_274, if_neg (nI_ge (by omega) (by omega)), if_neg i1_ne0, zbpS e, zxR, if_pos (show nI (yLn s T a (a + (19 - i))) = nI (yLn s T i 19) - nI (i + 1 - (a + 1)) from by
      rw [hle, show i + 1 - (a + 1) = i - a by omega, ← nI_add, Int32.add_sub_cancel])]
    unfold f_L_mends_303
    rw [nI_1, show i + 1 - (a + 1) + 1 = i + 1 - a by omega]
    exact k_e274 g hj hs hR hl y was bh hi a f (by omega) (by omega)
theorem k_e217 (g : yI j T) (hj : j + 4 ≤ 512) (hk : 1 ≤ yk T.1) (hs : s < yk T.1) (hR : yR T.1 s) (hl : 0 < (yTs T.1 s true).length) (y : Int32) {D : Nat} (h1 : 1 ≤ D) (hD : D ≤ 4) : ∃ T', f_L_mends_217 N y (nI s) 1 (y_ah T.1) (nI (yst T.1)) (nI D) (ytm s D T) = some (1, T') ∧ yI (j + 4) T' ∧ 1 ≤ yk T'.1 := by
  obtain ⟨i, rfl⟩ : ∃ i, D = i + 1 := ⟨D - 1, by omega⟩
  have gD := (o_ytm g hs hR hl (i + 1) (by omega)).k (by omega)
  have gi := (o_take (o_ytm g hs hR hl i (by omega)) 19).k (by omega)
  have es := a_steps gi
  have est : yst (((ytm s i T).1, (ytm s i T).2.take 19) : yT).1 = yst T.1 + i := yst_ytm g hs hR hl i (by omega)
  rw [est] at es
  have hlen := yLn_le (s := s) (T := T) i 19
  have hle := yLn_add (s := s) (T := T) 0 (19 - i) i (by omega)
  rw [show 0 + i = i by omega, show 19 - i + i = 19 by omega] at hle
  have hst := g.1.2.2.2.1
  unfold f_L_mends_217
  rw [zbpS (k_weights gD), zbpS (b_back0 i gD), zxR, if_neg i1_ne0, zbpS (show y_X6_steps (yX0 s T i 19) = _ from es), zxR, if_pos (show nI (yst T.1 + i) = nI (yst T.1) + nI (i + 1) - (1 : Int32) from by rw [nI_add, show yst T.1 + (i + 1) = (yst T.1 + i) + 1 by omega, ← nI_1, Int32.add_sub_cancel]), show nI (i + 1) - (1 : Int32) = nI i from by rw [← nI_1, Int32.add_sub_cancel], if_neg (nI_nlt (show i ≤ yLn s T i 19 by omega) (by omega)), if_neg (show ¬ (20 : Int32) ≤ nI (yLn s T i 19) from nI_ge (b := 20) (by omega) (by decide))]
  unfold f_L_mends_269
  have k := k_e274 (N := N) g hj hs hR hl y (y_ah T.1) (y_wh (ytm s (i + 1) T).1) (i := i) (by omega) i 6 (Nat.le_refl _) (by omega)
  rw [show i + (19 - i) = 19 by omega, show i + 1 - i = 1 by omega] at k
  refine (show _ = _ from k) ▸ ?_
  exact k_e311 g hj hk hs hR hl y (D := i + 1) h1 hD (0 + (19 - i))
theorem k_e150 (g : yI j T) (hj : j + 4 ≤ 512) (hs : s < yk T.1) (hR : yR T.1 s) (hl : 0 < (yTs T.1 s true).length) (y : Int32) (was : Int64) : ∀ (d f i : Nat) (df : Int32), i + d = 4 → d < f → (i = 0 → ¬ df ≤ 0) → ∃ D, 1 ≤ D ∧ D ≤ 4 ∧ f_L_mends_150 N f y (nI s) (nI (yn T.1 s)) 1 was (nI (yst T.1)) (nI i) df (nI i) (ytm s i T) = f_L_mends_217 N y (nI s) 1 was (nI (yst T.1)) (nI D) (ytm s D T)
  | d, 0, i, df, _, hf, _ => absurd hf (Nat.not_lt_zero d)
  | 0, f + 1, i, df, hi, _, _ => by
    refine ⟨i, by omega, by omega, ?_⟩
    rw [f_L_mends_150, if_pos (show (4 : Int32) ≤ nI i from nI_le (a := 4) (by omega) (by omega))]
  | d + 1, f + 1, i, df, hi, hf, h0 => by
    have h6 := y_n6 (g.k (by omega)) hs
    by_cases q : df ≤ 0
    · refine ⟨i, Nat.pos_of_ne_zero (fun z => h0 z q), by omega, ?_⟩
      rw [f_L_mends_150, if_neg (show ¬ (4 : Int32) ≤ nI i from nI_ge (b := 4) (by omega) (by decide)), if_pos q]
    · obtain ⟨a, b, hab, e1, e2, -⟩ := b_ytm g hs hR hl (i := i) (by omega)
      have e3 := a_steps ((o_ytm g hs hR hl (i + 1) (by omega)).k (by omega))
      rw [yst_ytm g hs hR hl (i + 1) (by omega)] at e3
      obtain ⟨D, D1, D2, D3⟩ := k_e150 g hj hs hR hl y was d f (i + 1) (nI a) (by omega) (by omega) (fun z => by omega)
      refine ⟨D, D1, D2, ?_⟩
      rw [f_L_mends_150, if_neg (show ¬ (4 : Int32) ≤ nI i from nI_ge (b := 4) (by omega) (by decide)), if_neg q, if_neg i1_ne0, zbpS e1, zxR, zbpS e2, zxR, if_pos (show nI a = nI (yn T.1 s) - nI b from by rw [← hab, ← nI_add, Int32.add_sub_cancel]), zbpS e3, zxR, if_pos (show nI (yst T.1 + (i + 1)) = nI (yst T.1) + (nI i + 1) from by rw [nI_1, nI_add])]
      unfold f_L_mends_209
      rw [nI_1]
      exact D3
theorem k_e84 (g : yI j T) (hj : j + 4 ≤ 512) (hk : 1 ≤ yk T.1) (hs : s < yk T.1) (hR : yR T.1 s) (y : Int32) : ∃ T', f_L_mends_84 N y (nI s) (nI (yn T.1 s)) 1 T = some (1, T') ∧ yI (j + 4) T' ∧ 1 ≤ yk T'.1 := by
  have g5 := g.k (by omega)
  have h6 := y_n6 g5 hs
  have hlen := yTs_len (V := T.1) (s := s) h6 true
  unfold f_L_mends_84
  rw [zbpS (k_all g5), zbpS (a_steps g5), zxR, zbpS (a_treesT g5 hs), zxR]
  rcases yb_case g5 hs true with ⟨q, ev⟩ | ⟨v, hl, hv, ev⟩
  · refine ⟨T, ?_, yI_mono g (by omega), hk⟩
    rw [if_pos (show nI (yTs T.1 s true).length = 0 by rw [q]; rfl), if_neg i1_ne0, zbpS ((kc_5 (nI s) 0 0 0 (b_mend_no g5 hs ev)).trans yC3), if_pos rfl, zbpS (k_all g5), if_pos rfl]
    rfl
  · rw [if_neg (nI_nz (by omega) (by omega))]
    obtain ⟨D, D1, D2, D3⟩ := k_e150 (N := N) g hj hs hR hl y (y_ah T.1) 4 6 0 1 (by omega) (by omega) (fun _ => by decide)
    rw [show (f_L_mends_150 N 6 y (nI s) (nI (yn T.1 s)) 1 (y_ah T.1) (nI (yst T.1)) (0 : Int32) (1 : Int32) (0 : Int32) T) = _ from D3]
    exact k_e217 g hj hk hs hR hl y D1 D2
theorem k_e21 (hj : j + 4 ≤ 512) (y : Int32) : ∀ (d f w : Nat) (T : yT), yI j T → 1 ≤ yk T.1 → s < yk T.1 → w + d = yn T.1 s + 1 → 1 ≤ w → d < f → (∀ x, 1 ≤ x → x < w → ∃ h, h < x ∧ yrh T.1 s x = nI h) → ∃ T', f_L_mends_21 N f y (nI s) (nI (yn T.1 s)) 1 (nI w) T = some (1, T') ∧ yI (j + 4) T' ∧ 1 ≤ yk T'.1
  | d, 0, w, T, _, _, _, _, _, hf, _ => absurd hf (Nat.not_lt_zero d)
  | 0, f + 1, w, T, g, hk, hs, hw, h1, _, hR => by
    have h6 := y_n6 (g.k (by omega)) hs
    rw [f_L_mends_21, if_pos (nI_lt (by omega) (by omega))]
    exact k_e84 g hj hk hs (fun x x1 x2 => hR x x1 (by omega)) y
  | d + 1, f + 1, w, T, g, hk, hs, hw, h1, hf, hR => by
    have g5 := g.k (by omega)
    have h6 := y_n6 g5 hs
    obtain ⟨h, hh, e⟩ := k_some N (y >>> (((2 : Int32) * nI w) &&& 31)) (n := w) h1 (by omega)
    have g1 := o_corr g hs (h := h) (w := w) (by omega) h1 (by omega) (by omega)
    have hR1 : ∀ x, 1 ≤ x → x < w + 1 → ∃ a, a < x ∧ yrh (y_corr T s h w).1 s x = nI a := fun x x1 x2 => by
      show ∃ a, a < x ∧ zuf (yrh T.1) s (zuf (yrh T.1 s) w (nI h)) s x = nI a
      rw [zuf_s]
      by_cases q : x = w
      · rw [q, zuf_s]; exact ⟨h, hh, rfl⟩
      · rw [zuf_o _ _ q]; exact hR x x1 (by omega)
    have ih := k_e21 hj y d f (w + 1) (y_corr T s h w) g1 hk hs (show w + 1 + d = yn T.1 s + 1 by omega) (by omega) (by omega) hR1
    have had : ¬ yrh T.1 s w < (-1 : Int32) ∧ ¬ nI (yn T.1 s) < yrh T.1 s w := by
      rcases (g.1.2.1.2 s hs).1 w (by omega) with q | ⟨-, -, a, ha, q⟩
      · rw [q]
        refine ⟨by decide, fun z => ?_⟩
        rw [Int32.lt_iff_toInt_lt, nI_toInt (by omega)] at z
        have e1 : (-1 : Int32).toInt = -1 := by decide
        omega
      · rw [q]
        refine ⟨fun z => ?_, nI_nlt ha (by omega)⟩
        rw [Int32.lt_iff_toInt_lt, nI_toInt (by omega)] at z
        have e1 : (-1 : Int32).toInt = -1 := by decide
        omega
    rw [f_L_mends_21, if_neg (nI_nlt (by omega) (by omega)), if_neg i1_ne0, zbindS e, zbpS (b_corr g5 hs (h := h) (w := w) (by omega) h1 (by omega) (by omega)), zxR, if_neg had.1, if_neg had.2, if_neg (g.2 s hs w (by omega))]
    unfold f_L_mends_76
    rw [nI_1]
    exact ih
theorem k_mends (g : yI j T) (hj : j + 4 ≤ 512) (hk : 1 ≤ yk T.1) (y : Int32) : ∃ T', f_L_mends N T y = some (1, T') ∧ yI (j + 4) T' ∧ 1 ≤ yk T'.1 := by
  have g5 := g.k (by omega)
  have hk5 := yk5 g5
  obtain ⟨s, hs, e⟩ := k_some N y (n := yk T.1) hk (by omega)
  have h6 := y_n6 g5 hs
  unfold f_L_mends f_L_mends_0
  rw [zbpS (a_sentences g5), zxR, zbindS e, zbpS (a_words g5 hs), zxR]
  exact k_e21 hj y (yn T.1 s) 8 1 T g hk hs (by omega) (by omega) (by omega) (fun x x1 x2 => by omega)
end MF
