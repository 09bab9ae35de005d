/-! CALLS THAT CHANGE: correct, mark, addWord. -/
def zuf {α : Type} (f : Nat → α) (s : Nat) (x : α) : Nat → α := fun t => if t = s then x else f t
theorem zuf_s {α : Type} (f : Nat → α) (s : Nat) (x : α) : zuf f s x s = x := if_pos rfl
theorem zuf_o {α : Type} (f : Nat → α) {s t : Nat} (x : α) (h : t ≠ s) : zuf f s x t = f t := if_neg h
theorem zSen_c {s n : Nat} {kd : Nat → Nat} {mk : Nat → Nat → Int32} {I I' : Nat → Nat → Int32} (e1 : I' (128 + 11 * s) 3 = I (128 + 11 * s) 3) (e2 : ∀ w, I' (128 + 11 * s + 1) w = I (128 + 11 * s + 1) w) (e3 : ∀ h w, h < 7 → I' (128 + 11 * s + (4 + h)) w = I (128 + 11 * s + (4 + h)) w) (h : zSen s n kd mk I) : zSen s n kd mk I' := by
  obtain ⟨h6, h1, k0, k1, h2, h3, h4⟩ := h
  exact ⟨h6, e1.trans h1, k0, k1, fun w hw => (e2 w).trans (h2 w hw), fun h w hh hw => (e3 h w hh).trans (h3 h w hh hw), h4⟩
section UP
variable {N j k : Nat} {sw : Bool} {n : Nat → Nat} {kd : Nat → Nat → Nat} {mk : Nat → Nat → Nat → Int32} {rh : Nat → Nat → Int32} {wt sm : Nat → Int} {st : Nat} {H : List zE} {nx fs : Nat} {M : ZM}
theorem q_changed7 : ∀ (d f i : Nat) (M : ZM), i + d = 10 → d < f → zRf sw k (zR M) → ∃ M', f_X7_changed_7 N (zKs k) (zln k) f 112 (nI i) M = some M' ∧ zR M' = zR M ∧ zJ M' = zJ M ∧ zD M' = zD M ∧ ∀ a x, zI M' a x = if a = 124 ∧ i ≤ x ∧ x < 10 then 0 else zI M a x
  | d, 0, i, M, _, hf, _ => absurd hf (Nat.not_lt_zero d)
  | 0, f + 1, i, M, hd, _, hR => by
    refine ⟨M, ?_, rfl, rfl, rfl, fun a x => by rw [if_neg (by omega)]⟩
    rw [f_X7_changed_7, if_pos (show (10 : Int32) ≤ nI i from nI_le (a := 10) (by omega) (by omega))]
  | d + 1, f + 1, i, M, hd, hf, hR => by
    obtain ⟨M', e, r, J, D, h⟩ := q_changed7 d f (i + 1) (zsI M 124 i 0) (by omega) (by omega) hR
    refine ⟨M', ?_, r, J, D, fun a x => ?_⟩
    · rw [f_X7_changed_7, if_neg (show ¬ (10 : Int32) ≤ nI i from nI_ge (b := 10) (by omega) (by omega)), zgK (k112 k), zbindS (hR.at 112 17 124 (zrm 33 rfl)), zgok (k124 k) (l124 k) (show i < 10 by omega) (by decide), zlS, nI_clamp (by omega), nI_1]
      exact e
    · rw [h a x, zI_sI]
      by_cases q : a = 124 ∧ i + 1 ≤ x ∧ x < 10
      · rw [if_pos q, if_pos (by omega)]
      · rw [if_neg q]
        by_cases q2 : a = 124 ∧ x = i
        · rw [if_pos q2, if_pos (by omega)]
        · rw [if_neg q2, if_neg (by omega)]
theorem q_changed (hN : 10000000 ≤ N) (hR : zRf sw k (zR M)) : ∃ M', f_X7_changed N (zKs k) (zln k) 112 M = some M' ∧ zR M' = zR M ∧ zJ M' = zJ M ∧ zD M' = zD M ∧ (∀ a i, ¬ (a = 112 ∧ i = 13) → a ≠ 124 → zI M' a i = zI M a i) ∧ zI M' 112 13 = -1 ∧ ∀ i, i < 10 → zI M' 124 i = 0 := by
  obtain ⟨M', e, r, J, D, h⟩ := q_changed7 (N := N) (k := k) (sw := sw) 10 N 0 (zsI M 112 13 (-1)) (by omega) (by omega) hR
  refine ⟨M', ?_, r, J, D, fun a i h1 h2 => ?_, ?_, fun i hi => ?_⟩
  · unfold f_X7_changed f_X7_changed_0
    rw [zgK (k112 k), zlS]
    exact e
  · rw [h, if_neg (fun q => h2 q.1), zI_sI, if_neg h1]
  · rw [h, if_neg (by omega), zI_sI, if_pos ⟨rfl, rfl⟩]
  · rw [h, if_pos (by omega)]
theorem zChk_new (h1 : zI M 112 13 = -1) (h2 : ∀ i, i < 10 → zI M 124 i = 0) : zChk k n kd mk wt M := ⟨fun s cr hs => Or.inl (h2 _ (zwh_lt hs cr)), Or.inl h1⟩
/-- a call that changes -/
theorem zfin_u {fL : Option (Int32 × ZM)} {fX : ZM → Option (Int32 × ZM)} {v : Int32} {Mc M2 : ZM} {k' : Nat} (e1 : fL = some (0, zsJ Mc 126 0 v.toInt64)) (e2 : fX (zsJ Mc 126 0 v.toInt64) = some (v, M2)) (t : zI M2 112 19 = 0) (o : zJ M2 126 0 = v.toInt64) (h : zInv (j + 1) k' M2) : ∃ k1 M1 bv M2, fL = some (k1, M1) ∧ fX M1 = some (bv, M2) ∧ f_X7_thrown N (zKs k) (zln k) 112 M2 = some k1 ∧ (k1 = 0 → zJ M2 126 0 = bv.toInt64) ∧ zInv (j + 1) k' M2 := ⟨0, _, v, M2, e1, e2, by rw [q_thrown, t], fun _ => o, h⟩
/-- other sentences stay -/
theorem zA1_at {n' : Nat → Nat} {kd' : Nat → Nat → Nat} {mk' : Nat → Nat → Nat → Int32} {rh' : Nat → Nat → Int32} {I I' : Nat → Nat → Int32} {s : Nat} (h : zA1 k n kd mk rh I) (e : ∀ a i, (a < 48 ∨ 128 ≤ a) → (a < 128 + 11 * s ∨ 139 + 11 * s ≤ a) → I' a i = I a i) (eo : ∀ t, t ≠ s → n' t = n t ∧ kd' t = kd t ∧ mk' t = mk t ∧ rh' t = rh t) (hs : zSen s (n' s) (kd' s) (mk' s) I' ∧ ∀ w, w < 7 → I' (128 + 11 * s + 2) w = rh' s w) : zA1 k n' kd' mk' rh' I' := by
  refine ⟨(e 0 1 (by omega) (by omega)).trans h.1, fun t ht => ?_⟩
  by_cases q : t = s
  · subst q; exact hs
  · obtain ⟨q1, q2, q3, q4⟩ := eo t q
    rw [q1, q2, q3, q4]
    have h1 := h.2 t ht
    exact ⟨zSen_c (e _ _ (by omega) (by omega)) (fun w => e _ _ (by omega) (by omega)) (fun h w hh => e _ _ (by omega) (by omega)) h1.1, fun w hw => (e _ _ (by omega) (by omega)).trans (h1.2 w hw)⟩
theorem zW1_c {I I' : Nat → Nat → Int32} {J J' : Nat → Nat → Int64} (e : ∀ a i, a < 48 → I' a i = I a i) (g : ∀ a i, a < 48 → J' a i = J a i) (h : zW1 wt sm st H nx I J) : zW1 wt sm st H nx I' J' := by
  obtain ⟨h1, h2, h3, h4, h5, h6⟩ := h
  refine ⟨fun f hf => ⟨(e _ _ (by omega)).trans (h1 f hf).1, (g _ _ (by omega)).trans (h1 f hf).2⟩, (e _ _ (by omega)).trans h2, (e _ _ (by omega)).trans h3, (e _ _ (by omega)).trans h4, h5, fun i x hx => ?_⟩
  have hl := zrp_lt nx i
  obtain ⟨h7, h8⟩ := h6 i x hx
  exact ⟨fun f hf => ⟨(e _ _ (by omega)).trans (h7 f hf).1, (g _ _ (by omega)).trans (h7 f hf).2⟩, (e _ _ (by omega)).trans h8⟩
theorem zW2_c {I I' : Nat → Nat → Int32} {J J' : Nat → Nat → Int64} (e : ∀ a i, (117 ≤ a ∧ a ≤ 120) ∨ (a = 112 ∧ 7 ≤ i ∧ i ≤ 9) → I' a i = I a i) (g : ∀ i, J' 118 i = J 118 i) (h : zW2 wt sm st H fs I J) : zW2 wt sm st H fs I' J' := by
  obtain ⟨h1, h2, h3, h4, h5, h6⟩ := h
  refine ⟨fun f hf => ⟨(e _ _ (by omega)).trans (h1 f hf).1, (g _).trans (h1 f hf).2⟩, (e _ _ (by omega)).trans h2, (e _ _ (by omega)).trans h3, (e _ _ (by omega)).trans h4, h5, fun i x hx => ?_⟩
  obtain ⟨h7, h8⟩ := h6 i x hx
  exact ⟨by rw [e _ _ (by omega)]; exact h7, fun f hf => (e _ _ (by omega)).trans (h8 f hf)⟩
theorem c_correct (p1 p2 p3 : Int32) (h : zInv j k M) : zC17 N (zInv (j + 1)) k M p1 p2 p3 := by
  obtain ⟨sw, n, kd, mk, rh, wt, sm, st, H, nx, fs, h, hc⟩ := h
  obtain ⟨hk0, hk5⟩ := zCo_k h
  rcases zix1 p1 hk5 with hp | ⟨s, hs, rfl⟩
  · refine zfin_thr (fX := fun M => f_X7_correct N (zKs k) (zln k) 112 p1 p2 p3 M) h hc i1_ne0 (L_correct_1 ?_) ?_
    · unfold f_X6_correct f_X6_correct_0
      rw [zgK (k0 k), zbindS (s_find_no h.1 hk5 hp), zxL]
    · show f_X7_correct N (zKs k) (zln k) 112 p1 p2 p3 M = _
      unfold f_X7_correct f_X7_correct_0
      rw [zbpS (q_arc_nos hk0 hp), zgK (k112 k), if_pos rfl]
  · obtain ⟨hn1, hn2, hn6⟩ := zCo_n h hs
    rcases zix4 p2 p3 hn6 with hp | ⟨a, w, ha, h1, h2, rfl, rfl⟩
    · refine zfin_thr (fX := fun M => f_X7_correct N (zKs k) (zln k) 112 (nI s) p2 p3 M) h hc i1_ne0 (L_correct_1 ?_) ?_
      · unfold f_X6_correct f_X6_correct_0
        rw [zgK (k0 k), zbindS (s_find_ok h.1 hk5 hs), zxR, zbindS (s_arc_no hs hn1 hn6 hp), zxL]
      · show f_X7_correct N (zKs k) (zln k) 112 (nI s) p2 p3 M = _
        unfold f_X7_correct f_X7_correct_0
        rw [zbpS (q_arc_no h.1 hk0 hk5 hs hn2 hn6 hp), zgK (k112 k), if_pos rfl]
    · by_cases e : a = w
      · refine zfin_thr (fX := fun M => f_X7_correct N (zKs k) (zln k) 112 (nI s) (nI a) (nI w) M) h hc i2_ne0 (L_correct_2 ?_) ?_
        · unfold f_X6_correct f_X6_correct_0
          rw [zgK (k0 k), zbindS (s_find_ok h.1 hk5 hs), zxR, zbindS ((s_arc_ok hs hn1 hn6 ha h1 h2).trans (if_pos e)), zxL]
        · show f_X7_correct N (zKs k) (zln k) 112 (nI s) (nI a) (nI w) M = _
          unfold f_X7_correct f_X7_correct_0
          rw [zbpS ((q_arc_ok h.1 hk0 hk5 hs hn2 hn6 ha h1 h2).trans (if_pos e)), zgK (k112 k), if_pos rfl]
      · -- it is told
        have hs5 : s < 5 := by omega
        have hrw := (h.2.1.2 s hs).2 w (by omega)
        have hrm := (h.2.2.1.2.1 s hs).2 w h1 h2
        obtain ⟨Mc, eMc⟩ : ∃ Mc, Mc = zsI M (128 + 11 * s + 2) w (nI a) := ⟨_, rfl⟩
        obtain ⟨M1, eM1⟩ : ∃ M1, M1 = zsJ Mc 126 0 (rh s w).toInt64 := ⟨_, rfl⟩
        obtain ⟨M2, eM2⟩ : ∃ M2, M2 = zsI (zsI M1 112 19 0) 116 (7 * s + w) (nI a) := ⟨_, rfl⟩
        have hI1 : ∀ b i, ¬ (b = 128 + 11 * s + 2 ∧ i = w) → zI M1 b i = zI M b i := fun b i q => by rw [eM1, zI_sJ, eMc, zI_sI, if_neg q]
        have hI2 : ∀ b i, ¬ (b = 128 + 11 * s + 2 ∧ i = w) → ¬ (b = 112 ∧ i = 19) → ¬ (b = 116 ∧ i = 7 * s + w) → zI M2 b i = zI M b i := fun b i q q2 q3 => by rw [eM2, zI_sI, if_neg q3, zI_sI, if_neg q2]; exact hI1 b i q
        have hJ2 : ∀ b i, b ≠ 126 → zJ M2 b i = zJ M b i := fun b i q => by rw [eM2, zJ_sI, zJ_sI, eM1, zJ_sJ, if_neg (fun z => q z.1), eMc]; rfl
        have hR2 : zR M2 = zR M := by rw [eM2, eM1, eMc]; rfl
        have hw2 : zI M2 (128 + 11 * s + 2) w = nI a := by rw [eM2, zI_sI, if_neg (by omega), zI_sI, if_neg (by omega), eM1, zI_sJ, eMc, zI_sI, if_pos ⟨rfl, rfl⟩]
        refine zfin_u (fX := fun M => f_X7_correct N (zKs k) (zln k) 112 (nI s) (nI a) (nI w) M) (v := rh s w) (Mc := Mc) (M2 := M2) (L_correct_ok ?_) ?_ (by rw [eM2, zI_sI, if_neg (by omega), zI_sI, if_pos ⟨rfl, rfl⟩]) (by rw [eM2, zJ_sI, zJ_sI, eM1, zJ_sJ, if_pos ⟨rfl, rfl⟩]) ⟨sw, n, kd, mk, zuf rh s (zuf (rh s) w (nI a)), wt, sm, st, H, nx, fs, zCo_up ⟨by rw [hR2]; exact h.1, ?_, ?_, ?_, zW1_c (fun b i q => hI2 b i (by omega) (by omega) (by omega)) (fun b i q => hJ2 b i (by omega)) h.2.2.2.2.1, zW2_c (fun b i q => hI2 b i (by omega) (by omega) (by omega)) (fun i => hJ2 118 i (by decide)) h.2.2.2.2.2.1, h.2.2.2.2.2.2⟩, ?_⟩
        · have ech : f_X2_changeRightHead N (zKs k) (zln k) (128 + 11 * s) (nI a) (nI w) M = some (rh s w, Mc) := by
            unfold f_X2_changeRightHead f_X2_changeRightHead_0
            rw [zbindS (s_rightHead h.1 hs (show w < 7 by omega)), hrw, zgK (ks0 hs), zbindS (s_isPlace N (show w < 7 by omega)), if_neg one_ne0, zbindS ((h.1.2.2.1 s hs).2.2.1), zgok (ks2 hs) (zln_sen k s 2 hs (by decide) (by decide)) (show w < 7 by omega) (by decide), zlS, nI_clamp (by omega), ← eMc]
          unfold f_X6_correct f_X6_correct_0
          rw [zgK (k0 k), zbindS (s_find_ok h.1 hk5 hs), zxR, zbindS ((s_arc_ok hs hn1 hn6 ha h1 h2).trans (if_neg e)), zxR, zbpS ech, zgK (ks0 hs)]
        · show f_X7_correct N (zKs k) (zln k) 112 (nI s) (nI a) (nI w) (zsJ Mc 126 0 (rh s w).toInt64) = _
          rw [← eM1]
          have hR1 : zRf sw k (zR M1) := by rw [eM1, eMc]; exact h.1
          unfold f_X7_correct f_X7_correct_0
          rw [zbpS ((q_arc_ok hR1 (by rw [hI1 _ _ (by omega)]; exact hk0) hk5 hs (by rw [hI1 _ _ (by omega)]; exact hn2) hn6 ha h1 h2).trans (if_neg e)), zgK (k112 k), if_neg one_ne0, zR_sI, zbindS (hR1.at 112 4 116 (zrm 25 rfl)), q_at, zgok (k116 k) (l116 k) (show 7 * s + w < 35 by omega) (by decide), zlS, nI_clamp (by omega), ← eM2, show zI (zsI M1 112 19 0) 116 (7 * s + w) = rh s w from by rw [zI_sI, if_neg (by omega), hI1 _ _ (by omega)]; exact hrm]
        · refine zA1_at (s := s) h.2.1 (fun b i q1 q2 => hI2 b i (by omega) (by omega) (by omega)) (fun t ht => ⟨rfl, rfl, rfl, zuf_o _ _ ht⟩) ⟨zSen_c (hI2 _ _ (by omega) (by omega) (by omega)) (fun x => hI2 _ _ (by omega) (by omega) (by omega)) (fun y x hy => hI2 _ _ (by omega) (by omega) (by omega)) (h.2.1.2 s hs).1, fun x hx => ?_⟩
          rw [zuf_s]
          by_cases q : x = w
          · rw [q, zuf_s]; exact hw2
          · rw [zuf_o _ _ q, hI2 _ _ (by omega) (by omega) (by omega)]; exact (h.2.1.2 s hs).2 x hx
        · obtain ⟨a1, a2, a3⟩ := h.2.2.1
          refine ⟨(hI2 _ _ (by omega) (by omega) (by omega)).trans a1, fun t ht => ⟨zSenM_congr (fun b i q => hI2 b i (by omega) (by omega) (by omega)) (a2 t ht).1, fun x x1 x2 => ?_⟩, fun t t1 t2 => ⟨(hI2 _ _ (by omega) (by omega) (by omega)).trans (a3 t t1 t2).1, fun i hi => (hI2 _ _ (by omega) (by omega) (by omega)).trans ((a3 t t1 t2).2 i hi)⟩⟩
          have hnt := (zCo_n h ht).2.2
          by_cases q : t = s
          · subst q
            rw [zuf_s]
            by_cases q2 : x = w
            · rw [q2, zuf_s, eM2, zI_sI, if_pos ⟨rfl, rfl⟩]
            · rw [zuf_o _ _ q2, hI2 _ _ (by omega) (by omega) (by omega)]; exact (a2 t ht).2 x x1 x2
          · rw [zuf_o _ _ q, hI2 _ _ (by omega) (by omega) (by omega)]; exact (a2 t ht).2 x x1 x2
        · obtain ⟨b1, b2⟩ := h.2.2.2.1
          refine ⟨b1, fun t ht => ⟨fun x hx => ?_, (b2 t ht).2⟩⟩
          by_cases q : t = s
          · subst q
            rw [zuf_s]
            by_cases q2 : x = w
            · rw [q2, zuf_s]
              exact Or.inr ⟨h1, h2, a, ha, rfl⟩
            · rw [zuf_o _ _ q2]; exact (b2 t ht).1 x hx
          · rw [zuf_o _ _ q]; exact (b2 t ht).1 x hx
        · refine ⟨fun t cr ht => ?_, ?_⟩
          · rcases hc.1 t cr ht with q | ⟨q1, q2⟩
            · exact Or.inl ((hI2 _ _ (by omega) (by omega) (by omega)).trans q)
            · exact Or.inr ⟨q1, zFil_congr (hI2 _ _ (by omega) (by omega) (by omega)) (hI2 _ _ (by omega) (by omega) (by omega)) (hJ2 _ _ (by decide)) q2⟩
          · rcases hc.2 with q | ⟨t, cr, q1, q2, q3⟩
            · exact Or.inl ((hI2 _ _ (by omega) (by omega) (by omega)).trans q)
            · exact Or.inr ⟨t, cr, q1, (hI2 _ _ (by omega) (by omega) (by omega)).trans q2, zSrt_congr (fun i => hJ2 _ _ (by decide)) q3⟩
end UP
