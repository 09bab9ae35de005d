/-! CROSSINGS AND MATCHED. -/
def zxs (v : List Nat) : Nat → Nat
  | 0 => 0
  | w + 1 => zxs v w + (List.range' 1 w).countP (fun o => zcr (zhd v (w + 1)) (w + 1) (zhd v o) o)
def zms (rh : Nat → Int32) (v : List Nat) : Nat → Nat
  | 0 => 0
  | w + 1 => zms rh v w + (if rh (w + 1) = nI (zhd v (w + 1)) then 1 else 0)
section CX
variable {N j k s n : Nat} {sw : Bool} {kd : Nat → Nat} {mk : Nat → Nat → Int32} {wt : Nat → Int} {M : ZM}
theorem s_cx31 (hN : 10000000 ≤ N) (h6 : n ≤ 6) {v : List Nat} {key : Int64} (hkey : ∀ w, 1 ≤ w → w ≤ n → f_X6_headIn N key (nI w) = some (nI (zhd v w)) ∧ zhd v w < 7) (kh : Nat → Int64 → Int32 → Int32 → ZM → Option ((Nat ⊕ Int32) × ZM)) (S : Nat) {w : Nat} (hw1 : 1 ≤ w) (hw : w ≤ n) : ∀ (d f o acc : Nat), o + d = w → 1 ≤ o → d < f → f_X6_crossings_31 N (zKs k) (zln k) kh f S key (nI acc) (nI w) (nI o) M = kh S key (nI (acc + (List.range' o d).countP (fun o => zcr (zhd v w) w (zhd v o) o))) (nI (w + 1)) M
  | d, 0, o, acc, _, _, hf => absurd hf (Nat.not_lt_zero d)
  | 0, f + 1, o, acc, hd, h1, _ => by
    rw [f_X6_crossings_31, if_pos (nI_le (by omega) (by omega)), show nI w + 1 = nI (w + 1) from nI_1 w]
    rfl
  | d + 1, f + 1, o, acc, hd, h1, hf => by
    obtain ⟨e1, l1⟩ := hkey w hw1 hw
    obtain ⟨e2, l2⟩ := hkey o h1 (by omega)
    rw [f_X6_crossings_31, if_neg (nI_ge (by omega) (by omega)), zbindS e1, zbindS e2, zbindS (s_doCross N l1 (show w < 7 by omega) l2 (show o < 7 by omega)), List.range'_succ, List.countP_cons]
    unfold f_X6_crossings_63
    rw [show nI o + 1 = nI (o + 1) from nI_1 o]
    cases hc : zcr (zhd v w) w (zhd v o) o with
    | true =>
      rw [cond_true, if_neg one_ne0, show nI acc + 1 = nI (acc + 1) from nI_1 acc, if_pos rfl]
      refine (s_cx31 hN h6 hkey kh S hw1 hw d f (o + 1) (acc + 1) (by omega) (by omega) (by omega)).trans ?_
      congr 2
      omega
    | false =>
      rw [cond_false, if_pos rfl, if_neg (by decide), Nat.add_zero]
      exact s_cx31 hN h6 hkey kh S hw1 hw d f (o + 1) acc (by omega) (by omega) (by omega)
theorem s_cx19 (hN : 10000000 ≤ N) (hs : s < k) (hn : zI M (128 + 11 * s) 3 = nI n) (h6 : n ≤ 6) {v : List Nat} {key : Int64} (hkey : ∀ w, 1 ≤ w → w ≤ n → f_X6_headIn N key (nI w) = some (nI (zhd v w)) ∧ zhd v w < 7) : ∀ (d f w : Nat), w + d = n → d < f → f_X6_crossings_19 N (zKs k) (zln k) f (128 + 11 * s) key (nI (zxs v w)) (nI (w + 1)) M = some (Sum.inr (nI (zxs v n)), M)
  | d, 0, w, _, hf => absurd hf (Nat.not_lt_zero d)
  | 0, f + 1, w, hd, _ => by
    have e : w = n := by omega
    subst e
    rw [f_X6_crossings_19, zbindS (s_size hs hn), zgK (ks0 hs), if_pos (nI_lt (Nat.lt_succ_self w) (by omega))]
  | d + 1, f + 1, w, hd, hf => by
    rw [f_X6_crossings_19, zbindS (s_size hs hn), zgK (ks0 hs), if_neg (nI_nlt (by omega) (by omega))]
    refine (s_cx31 (N := N) (k := k) hN h6 hkey (fun y2 y3 y5 y6 M => f_X6_crossings_19 N (zKs k) (zln k) f y2 y3 y5 y6 M) (128 + 11 * s) (w := w + 1) (by omega) (by omega) w N 1 (zxs v w) (by omega) (Nat.le_refl 1) (by omega)).trans ?_
    exact s_cx19 hN hs hn h6 hkey d f (w + 1) (by omega) (by omega)
theorem q_cx26 (hN : 10000000 ≤ N) (hs5 : s < 5) (h6 : n ≤ 6) {v : List Nat} {key : Int64} : ∀ (d f w : Nat) (M : ZM), w + d = n → d < f → zRf sw k (zR M) → zI M 113 s = nI n → (∀ (M : ZM), zRf sw k (zR M) → zI M 113 s = nI n → ∀ i, 1 ≤ i → i ≤ n → f_X7_headIn N (zKs k) (zln k) 112 (nI s) key (nI i) M = some (nI (zhd v i))) → (∀ i, 1 ≤ i → i ≤ w → zI M 125 i = nI (zhd v i)) → ∃ M', f_X7_crossings_26 N (zKs k) (zln k) f 112 (nI s) key (nI (w + 1)) M = f_X7_crossings_64 N (zKs k) (zln k) N 112 (nI s) (0 : Int32) (1 : Int32) M' ∧ zR M' = zR M ∧ zJ M' = zJ M ∧ zD M' = zD M ∧ (∀ a i, a ≠ 125 → zI M' a i = zI M a i) ∧ ∀ i, 1 ≤ i → i ≤ n → zI M' 125 i = nI (zhd v i)
  | d, 0, w, M, _, hf, _, _, _, _ => absurd hf (Nat.not_lt_zero d)
  | 0, f + 1, w, M, hd, _, hR, hn, _, hh => by
    have e : w = n := by omega
    subst e
    refine ⟨M, ?_, rfl, rfl, rfl, fun _ _ _ => rfl, hh⟩
    rw [f_X7_crossings_26, zgK (k112 k), zbindS (hR.at 112 1 113 (zrm 22 rfl)), zgok (k113 k) (l113 k) hs5 (by decide), nI_clamp (by omega), hn, if_pos (nI_lt (Nat.lt_succ_self w) (by omega))]
  | d + 1, f + 1, w, M, hd, hf, hR, hn, hk, hh => by
    obtain ⟨M', e, r, J, D, o, h'⟩ := q_cx26 hN hs5 h6 d f (w + 1) (zsI M 125 (w + 1) (nI (zhd v (w + 1)))) (by omega) (by omega) hR (by rw [zI_sI, if_neg (by omega)]; exact hn) hk (fun i h1 h2 => by
      rw [zI_sI]
      by_cases q : i = w + 1
      · rw [if_pos ⟨rfl, q⟩, q]
      · rw [if_neg (fun z => q z.2)]; exact hh i h1 (by omega))
    refine ⟨M', ?_, r, J, D, fun a i ha => (o a i ha).trans (by rw [zI_sI, if_neg (fun z => ha z.1)]), h'⟩
    rw [f_X7_crossings_26, zgK (k112 k), zbindS (hR.at 112 1 113 (zrm 22 rfl)), zgok (k113 k) (l113 k) hs5 (by decide), nI_clamp (show s < 2 ^ 31 by omega), hn, if_neg (nI_nlt (by omega) (by omega)), zbindS (hR.at 112 18 125 (zrm 34 rfl)), zbindS (hk M hR hn (w + 1) (by omega) (by omega)), zgok (k125 k) (l125 k) (show w + 1 < 7 by omega) (by decide), zlS, nI_clamp (show w + 1 < 2 ^ 31 by omega), show nI (w + 1) + 1 = nI (w + 1 + 1) from nI_1 _]
    exact e
theorem q_cx78 (h6 : n ≤ 6) {v : List Nat} (hR : zRf sw k (zR M)) (hh : ∀ i, 1 ≤ i → i ≤ n → zI M 125 i = nI (zhd v i) ∧ zhd v i < 7) (kh : Nat → Int32 → Int32 → Int32 → ZM → Option (Int32 × ZM)) {w : Nat} (hw1 : 1 ≤ w) (hw : w ≤ n) : ∀ (d f o acc : Nat), o + d = w → 1 ≤ o → d < f → f_X7_crossings_78 N (zKs k) (zln k) kh f 112 (nI s) (nI acc) (nI w) (nI o) M = kh 112 (nI s) (nI (acc + (List.range' o d).countP (fun o => zcr (zhd v w) w (zhd v o) o))) (nI (w + 1)) M
  | d, 0, o, acc, _, _, hf => absurd hf (Nat.not_lt_zero d)
  | 0, f + 1, o, acc, hd, h1, _ => by
    rw [f_X7_crossings_78, if_pos (nI_le (by omega) (by omega)), show nI w + 1 = nI (w + 1) from nI_1 w]
    rfl
  | d + 1, f + 1, o, acc, hd, h1, hf => by
    obtain ⟨e1, l1⟩ := hh w hw1 hw
    obtain ⟨e2, l2⟩ := hh o h1 (by omega)
    rw [f_X7_crossings_78, if_neg (nI_ge (by omega) (by omega)), zbindS (q_doCross hR l1 (show w < 7 by omega) l2 (show o < 7 by omega) e1 e2), zgK (k112 k), List.range'_succ, List.countP_cons]
    unfold f_X7_crossings_103
    rw [show nI o + 1 = nI (o + 1) from nI_1 o]
    cases hc : zcr (zhd v w) w (zhd v o) o with
    | true =>
      rw [cond_true, if_neg one_ne0, show nI acc + 1 = nI (acc + 1) from nI_1 acc, if_pos rfl]
      refine (q_cx78 h6 hR hh kh hw1 hw d f (o + 1) (acc + 1) (by omega) (by omega) (by omega)).trans ?_
      congr 2
      omega
    | false =>
      rw [cond_false, if_pos rfl, if_neg (by decide), Nat.add_zero, show nI acc + 0 = nI acc from by rw [show (0 : Int32) = nI 0 from rfl, nI_add]; rfl]
      exact q_cx78 h6 hR hh kh hw1 hw d f (o + 1) acc (by omega) (by omega) (by omega)
theorem q_cx64 (hN : 10000000 ≤ N) (hs5 : s < 5) (h6 : n ≤ 6) {v : List Nat} (hR : zRf sw k (zR M)) (hn : zI M 113 s = nI n) (hh : ∀ i, 1 ≤ i → i ≤ n → zI M 125 i = nI (zhd v i) ∧ zhd v i < 7) : ∀ (d f w : Nat), w + d = n → d < f → f_X7_crossings_64 N (zKs k) (zln k) f 112 (nI s) (nI (zxs v w)) (nI (w + 1)) M = some (nI (zxs v n), M)
  | d, 0, w, _, hf => absurd hf (Nat.not_lt_zero d)
  | 0, f + 1, w, hd, _ => by
    have e : w = n := by omega
    subst e
    rw [f_X7_crossings_64, zgK (k112 k), zbindS (hR.at 112 1 113 (zrm 22 rfl)), zgok (k113 k) (l113 k) hs5 (by decide), nI_clamp (by omega), hn, if_pos (nI_lt (Nat.lt_succ_self w) (by omega))]
  | d + 1, f + 1, w, hd, hf => by
    rw [f_X7_crossings_64, zgK (k112 k), zbindS (hR.at 112 1 113 (zrm 22 rfl)), zgok (k113 k) (l113 k) hs5 (by decide), nI_clamp (by omega), hn, if_neg (nI_nlt (by omega) (by omega))]
    refine (q_cx78 (N := N) (k := k) (s := s) h6 hR hh (fun y0 y1 y4 y5 M => f_X7_crossings_64 N (zKs k) (zln k) f y0 y1 y4 y5 M) (w := w + 1) (by omega) (by omega) w N 1 (zxs v w) (by omega) (Nat.le_refl 1) (by omega)).trans ?_
    exact q_cx64 hN hs5 h6 hR hn hh d f (w + 1) (by omega) (by omega)
theorem s_mt19 (hR : zRf sw k (zR M)) (hs : s < k) (hn : zI M (128 + 11 * s) 3 = nI n) (h6 : n ≤ 6) {rh : Nat → Int32} (hrh : ∀ w, w < 7 → zI M (128 + 11 * s + 2) w = rh w) {v : List Nat} {key : Int64} (hkey : ∀ w, 1 ≤ w → w ≤ n → f_X6_headIn N key (nI w) = some (nI (zhd v w))) : ∀ (d f w : Nat), w + d = n → d < f → f_X6_matched_19 N (zKs k) (zln k) f (128 + 11 * s) key (nI (zms rh v w)) (nI (w + 1)) M = some (Sum.inr (nI (zms rh v n)), M)
  | d, 0, w, _, hf => absurd hf (Nat.not_lt_zero d)
  | 0, f + 1, w, hd, _ => by
    have e : w = n := by omega
    subst e
    rw [f_X6_matched_19, zbindS (s_size hs hn), zgK (ks0 hs), if_pos (nI_lt (Nat.lt_succ_self w) (by omega))]
  | d + 1, f + 1, w, hd, hf => by
    have ih := s_mt19 hR hs hn h6 hrh hkey d f (w + 1) (by omega) (by omega)
    have ez : zms rh v (w + 1) = zms rh v w + (if rh (w + 1) = nI (zhd v (w + 1)) then 1 else 0) := rfl
    rw [f_X6_matched_19, zbindS (s_size hs hn), zgK (ks0 hs), if_neg (nI_nlt (by omega) (by omega)), zbindS (s_rightHead hR hs (show w + 1 < 7 by omega)), hrh _ (show w + 1 < 7 by omega), zbindS (hkey (w + 1) (by omega) (by omega))]
    unfold f_X6_matched_46
    rw [show nI (w + 1) + 1 = nI (w + 1 + 1) from nI_1 _]
    by_cases q : rh (w + 1) = nI (zhd v (w + 1))
    · rw [if_pos q] at ez ⊢
      rw [show nI (zms rh v w) + 1 = nI (zms rh v w + 1) from nI_1 _, ← ez]
      exact ih
    · have ez : zms rh v (w + 1) = zms rh v w := by rw [ez, if_neg q]; rfl
      rw [if_neg q, ← ez]
      exact ih
theorem q_mt29 (hR : zRf sw k (zR M)) (hs5 : s < 5) (hn : zI M 113 s = nI n) (h6 : n ≤ 6) {rh : Nat → Int32} (hrh : ∀ w, 1 ≤ w → w ≤ n → zI M 116 (7 * s + w) = rh w) {v : List Nat} {key : Int64} (hkey : ∀ w, 1 ≤ w → w ≤ n → f_X7_headIn N (zKs k) (zln k) 112 (nI s) key (nI w) M = some (nI (zhd v w))) : ∀ (d f w : Nat), w + d = n → d < f → f_X7_matched_29 N (zKs k) (zln k) f 112 (nI s) key (nI (zms rh v w)) (nI (w + 1)) M = some (nI (zms rh v n), M)
  | d, 0, w, _, hf => absurd hf (Nat.not_lt_zero d)
  | 0, f + 1, w, hd, _ => by
    have e : w = n := by omega
    subst e
    rw [f_X7_matched_29, zgK (k112 k), zbindS (hR.at 112 1 113 (zrm 22 rfl)), zgok (k113 k) (l113 k) hs5 (by decide), nI_clamp (by omega), hn, if_pos (nI_lt (Nat.lt_succ_self w) (by omega))]
  | d + 1, f + 1, w, hd, hf => by
    have ih := q_mt29 hR hs5 hn h6 hrh hkey d f (w + 1) (by omega) (by omega)
    have ez : zms rh v (w + 1) = zms rh v w + (if rh (w + 1) = nI (zhd v (w + 1)) then 1 else 0) := rfl
    rw [f_X7_matched_29, zgK (k112 k), zbindS (hR.at 112 1 113 (zrm 22 rfl)), zgok (k113 k) (l113 k) hs5 (by decide), nI_clamp (show s < 2 ^ 31 by omega), hn, if_neg (nI_nlt (by omega) (by omega)), zbindS (hR.at 112 4 116 (zrm 25 rfl)), q_at, zgok (k116 k) (l116 k) (show 7 * s + (w + 1) < 35 by omega) (by decide), nI_clamp (show 7 * s + (w + 1) < 2 ^ 31 by omega), hrh _ (by omega) (by omega), zbindS (hkey (w + 1) (by omega) (by omega))]
    unfold f_X7_matched_70
    rw [show nI (w + 1) + 1 = nI (w + 1 + 1) from nI_1 _]
    by_cases q : rh (w + 1) = nI (zhd v (w + 1))
    · rw [if_pos q] at ez ⊢
      rw [show nI (zms rh v w) + 1 = nI (zms rh v w + 1) from nI_1 _, ← ez]
      exact ih
    · have ez : zms rh v (w + 1) = zms rh v w := by rw [ez, if_neg q]; rfl
      rw [if_neg q, show nI (zms rh v w) + 0 = nI (zms rh v w) from by rw [show (0 : Int32) = nI 0 from rfl, nI_add]; rfl, ← ez]
      exact ih
end CX
section CY
variable {N j k : Nat} {M : ZM}
theorem c_crossings (hN : 10000000 ≤ N) (hj : j ≤ 512) (p1 : Int32) (h : zInv j k M) : zC14 N (zInv (j + 1)) k M p1 := by
  obtain ⟨sw, n, kd, mk, rh, wt, sm, st, H, nx, fs, h, hc⟩ := h
  obtain ⟨hk0, hk5⟩ := zCo_k h
  rcases zix1 p1 hk5 with hp | ⟨s, hs, rfl⟩
  · refine zfin_thr (fX := fun M => f_X7_crossings N (zKs k) (zln k) 112 p1 M) h hc i1_ne0 (L_crossings_1 ?_) ?_
    · unfold f_X6_crossings f_X6_crossings_0
      rw [zgK (k0 k), zbindS (s_find_no h.1 hk5 hp), zxL]
    · show f_X7_crossings N (zKs k) (zln k) 112 p1 M = _
      unfold f_X7_crossings f_X7_crossings_0
      rw [zbpS (q_asksTree_no hk0 hp), zgK (k112 k), if_pos rfl]
  · obtain ⟨hn1, hn2, h6⟩ := zCo_n h hs
    obtain ⟨hcap, hsc⟩ := zT_cap hj h hs true
    obtain ⟨Mc, gc, q⟩ := s_bestKey hN (zCo_cl hj h hs) true
    rw [cond_true] at q
    rcases q with ⟨hT, ec⟩ | ⟨v, hv, ec⟩
    · refine zfin_no (fX := fun M => f_X7_crossings N (zKs k) (zln k) 112 (nI s) M) (Mc := Mc) h hc i2_ne0 (zCf1_scr gc) (L_crossings_3 ?_) (fun sw1 M1 h1 c1 => ?_)
      · unfold f_X6_crossings f_X6_crossings_0
        rw [zgK (k0 k), zbindS (s_find_ok h.1 hk5 hs), zxR, zbpS ec, zxL]
      · obtain ⟨M2, g2, c2, q⟩ := q_asksTree hN hj h1 c1 hs true
        rw [cond_true] at q
        rcases q with ⟨-, q1, q2⟩ | ⟨v, hv, -⟩
        · refine ⟨M2, ?_, g2, c2, q2⟩
          show f_X7_crossings N (zKs k) (zln k) 112 (nI s) M1 = _
          unfold f_X7_crossings f_X7_crossings_0
          rw [zbpS q1, zgK (k112 k), if_pos rfl]
        · exact absurd hT (zBt_mem hv)
    · have hx := (zt_all hv.1).2
      have hl := (zt_all hv.1).1
      have h7 : ∀ w, 1 ≤ w → w ≤ n s → zhd v w < 7 := fun w h1 h2 => by
        have := hx _ (zhd_mem h1 (by omega))
        omega
      refine zfin_ok (fX := fun M => f_X7_crossings N (zKs k) (zln k) 112 (nI s) M) (v := nI (zxs v (n s))) (Mc := Mc) h hc (zCf1_scr gc) (L_crossings_ok ?_) (fun sw1 M1 h1 c1 => ?_)
      · have hnc : zI Mc (128 + 11 * s) 3 = nI (n s) := by rw [gc.2.1 _ _ (by omega)]; exact hn1
        have hkey : ∀ w, 1 ≤ w → w ≤ n s → f_X6_headIn N (lI (zkc (zsc wt (kd s)) v)) (nI w) = some (nI (zhd v w)) ∧ zhd v w < 7 := fun w a b => ⟨s_headKey hN h6 hsc hv.1 a b, h7 w a b⟩
        unfold f_X6_crossings f_X6_crossings_0
        rw [zgK (k0 k), zbindS (s_find_ok h.1 hk5 hs), zxR, zbpS ec, zxR]
        rcases Nat.eq_zero_or_pos (n s) with q | q
        · obtain ⟨f, ef⟩ : ∃ f, N = f + 1 := ⟨N - 1, by omega⟩
          rw [show f_X6_crossings_19 N (zKs k) (zln k) N (128 + 11 * s) (lI (zkc (zsc wt (kd s)) v)) (0 : Int32) (2 : Int32) Mc = f_X6_crossings_19 N (zKs k) (zln k) (f + 1) (128 + 11 * s) (lI (zkc (zsc wt (kd s)) v)) (0 : Int32) (2 : Int32) Mc by rw [← ef]]
          rw [f_X6_crossings_19, zbindS (s_size hs hnc), zgK (ks0 hs), q, if_pos (show nI 0 < (2 : Int32) by decide +kernel)]
          rfl
        · exact s_cx19 (N := N) hN hs hnc h6 hkey (n s - 1) N 1 (by omega) (by omega)
      · obtain ⟨M2, g2, c2, q⟩ := q_asksTree hN hj h1 c1 hs true
        rw [cond_true] at q
        rcases q with ⟨q0, -⟩ | ⟨u, hu, q1, q2, q3, q4⟩
        · exact absurd q0 (zBt_mem hv)
        · have hs5 := (zCo_M hj h1 hs).1
          have hwh := zwh_lt hs5 true
          have hR2 : zRf sw1 k (zR M2) := by rw [g2.1]; exact h1.1
          have hn3 : zI M2 113 s = nI (n s) := by rw [g2.2.1 113 s (by omega) (by omega)]; exact (zCo_n h1 hs).2.1
          rw [zBt_eq h6 hu hv] at q3
          obtain ⟨M3, e3, r3, J3, D3, o3, h3⟩ := q_cx26 (N := N) (k := k) (sw := sw1) (s := s) (v := v) (key := zkm wt (kd s) v) hN hs5 h6 (n s) N 0 M2 (by omega) (by omega) hR2 hn3 (fun M hR hn i a b => q_headKey hR hs5 hn h6 hsc hv.1 a b) (fun i a b => by omega)
          have e4 := q_cx64 (N := N) (k := k) (sw := sw1) (M := M3) (s := s) hN hs5 h6 (v := v) (by rw [r3]; exact hR2) (by rw [o3 _ _ (by decide)]; exact hn3) (fun i a b => ⟨h3 i a b, h7 i a b⟩) (n s) N 0 (by omega) (by omega)
          refine ⟨M3, ?_, zMf_trans g2 ⟨r3, fun a i q r => o3 a i (by omega), fun a i _ _ => by rw [J3], D3⟩, ?_, (o3 _ _ (by decide)).trans q2⟩
          · show f_X7_crossings N (zKs k) (zln k) 112 (nI s) M1 = _
            unfold f_X7_crossings f_X7_crossings_0
            rw [zbpS q1, zgK (k112 k), if_neg one_ne0, zbindS (hR2.at 112 15 122 (zrm 31 rfl)), zbpS q4, zgok (k122 k) (l122 k) hwh (by decide), nI_clamp (by omega), q3]
            exact e3.trans e4
          · refine ⟨fun s' cr' hs' => ?_, ?_⟩
            · rcases c2.1 s' cr' hs' with q | ⟨q1, q2⟩
              · exact Or.inl ((o3 _ _ (by decide)).trans q)
              · exact Or.inr ⟨q1, zFil_congr (o3 _ _ (by decide)) (o3 _ _ (by decide)) (by rw [J3]) q2⟩
            · rcases c2.2 with q | ⟨s', cr', q1, q2, q3⟩
              · exact Or.inl ((o3 _ _ (by decide)).trans q)
              · exact Or.inr ⟨s', cr', q1, (o3 _ _ (by decide)).trans q2, zSrt_congr (fun i => by rw [J3]) q3⟩
theorem c_matched (hN : 10000000 ≤ N) (hj : j ≤ 512) (p1 : Int32) (h : zInv j k M) : zC18 N (zInv (j + 1)) k M p1 := by
  obtain ⟨sw, n, kd, mk, rh, wt, sm, st, H, nx, fs, h, hc⟩ := h
  obtain ⟨hk0, hk5⟩ := zCo_k h
  rcases zix1 p1 hk5 with hp | ⟨s, hs, rfl⟩
  · refine zfin_thr (fX := fun M => f_X7_matched N (zKs k) (zln k) 112 p1 M) h hc i1_ne0 (L_matched_1 ?_) ?_
    · unfold f_X6_matched f_X6_matched_0
      rw [zgK (k0 k), zbindS (s_find_no h.1 hk5 hp), zxL]
    · show f_X7_matched N (zKs k) (zln k) 112 p1 M = _
      unfold f_X7_matched f_X7_matched_0
      rw [zbpS (q_asksTree_no hk0 hp), zgK (k112 k), if_pos rfl]
  · obtain ⟨hn1, hn2, h6⟩ := zCo_n h hs
    obtain ⟨hcap, hsc⟩ := zT_cap hj h hs true
    obtain ⟨Mc, gc, q⟩ := s_bestKey hN (zCo_cl hj h hs) true
    rw [cond_true] at q
    rcases q with ⟨hT, ec⟩ | ⟨v, hv, ec⟩
    · refine zfin_no (fX := fun M => f_X7_matched N (zKs k) (zln k) 112 (nI s) M) (Mc := Mc) h hc i2_ne0 (zCf1_scr gc) (L_matched_3 ?_) (fun sw1 M1 h1 c1 => ?_)
      · unfold f_X6_matched f_X6_matched_0
        rw [zgK (k0 k), zbindS (s_find_ok h.1 hk5 hs), zxR, zbpS ec, zxL]
      · obtain ⟨M2, g2, c2, q⟩ := q_asksTree hN hj h1 c1 hs true
        rw [cond_true] at q
        rcases q with ⟨-, q1, q2⟩ | ⟨v, hv, -⟩
        · refine ⟨M2, ?_, g2, c2, q2⟩
          show f_X7_matched N (zKs k) (zln k) 112 (nI s) M1 = _
          unfold f_X7_matched f_X7_matched_0
          rw [zbpS q1, zgK (k112 k), if_pos rfl]
        · exact absurd hT (zBt_mem hv)
    · refine zfin_ok (fX := fun M => f_X7_matched N (zKs k) (zln k) 112 (nI s) M) (v := nI (zms (rh s) v (n s))) (Mc := Mc) h hc (zCf1_scr gc) (L_matched_ok ?_) (fun sw1 M1 h1 c1 => ?_)
      · obtain ⟨swc, hcc⟩ := zCo_fr h (zCf1_fr (zCf1_scr gc))
        unfold f_X6_matched f_X6_matched_0
        rw [zgK (k0 k), zbindS (s_find_ok h.1 hk5 hs), zxR, zbpS ec, zxR]
        exact s_mt19 (N := N) hcc.1 hs (zCo_n hcc hs).1 h6 (rh := rh s) (hcc.2.1.2 s hs).2 (fun w a b => s_headKey hN h6 hsc hv.1 a b) (n s) N 0 (by omega) (by omega)
      · obtain ⟨M2, g2, c2, q⟩ := q_asksTree hN hj h1 c1 hs true
        rw [cond_true] at q
        rcases q with ⟨q0, -⟩ | ⟨u, hu, q1, q2, q3, q4⟩
        · exact absurd q0 (zBt_mem hv)
        · have hs5 := (zCo_M hj h1 hs).1
          have hwh := zwh_lt hs5 true
          have h2 := zCo_mf h1 g2
          rw [zBt_eq h6 hu hv] at q3
          refine ⟨M2, ?_, g2, c2, q2⟩
          show f_X7_matched N (zKs k) (zln k) 112 (nI s) M1 = _
          unfold f_X7_matched f_X7_matched_0
          rw [zbpS q1, zgK (k112 k), if_neg one_ne0, zbindS (h2.1.at 112 15 122 (zrm 31 rfl)), zbpS q4, zgok (k122 k) (l122 k) hwh (by decide), nI_clamp (by omega), q3]
          exact q_mt29 (N := N) h2.1 hs5 (zCo_n h2 hs).2.1 h6 (rh := rh s) (h2.2.2.1.2.1 s hs).2 (fun w a b => q_headKey h2.1 hs5 (zCo_n h2 hs).2.1 h6 hsc hv.1 a b) (n s) N 0 (by omega) (by omega)
end CY
