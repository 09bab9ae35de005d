/-! TRIAL: every tree in its order, its key noted. -/
theorem s_doCross_0 : ∀ h, h < 7 → ∀ w, w < 7 → ∀ a, a < 7 → ∀ v, v < 7 → f_X6_doCross 0 (nI h) (nI w) (nI a) (nI v) = some (bif zcr h w a v then 1 else 0) := by decide +kernel
theorem s_doCross (N : Nat) {h w a v : Nat} (hh : h < 7) (hw : w < 7) (ha : a < 7) (hv : v < 7) : f_X6_doCross N (nI h) (nI w) (nI a) (nI v) = some (bif zcr h w a v then 1 else 0) := s_doCross_0 h hh w hw a ha v hv
def zHd (v : List Nat) (I : Nat → Nat → Int32) (p : Nat) : Prop := ∀ i, 1 ≤ i → i ≤ v.length → I p i = nI (zhd v i)
theorem zhd_mem {v : List Nat} {i : Nat} (h1 : 1 ≤ i) (h2 : i ≤ v.length) : zhd v i ∈ v := by
  unfold zhd
  rw [List.getD_eq_getElem?_getD, List.getElem?_eq_getElem (show i - 1 < v.length by omega)]
  exact List.getElem_mem _
theorem zhd_app {v : List Nat} {h i : Nat} (h1 : 1 ≤ i) (h2 : i ≤ v.length) : zhd (v ++ [h]) i = zhd v i := by
  unfold zhd
  rw [List.getD_eq_getElem?_getD, List.getD_eq_getElem?_getD, List.getElem?_append_left (by omega)]
theorem zhd_last {v : List Nat} {h : Nat} : zhd (v ++ [h]) (v.length + 1) = h := by
  unfold zhd
  rw [List.getD_eq_getElem?_getD, List.getElem?_append_right (by omega)]
  simp
section ST
variable {N k n : Nat} {sw : Bool}
theorem s_closes {M : ZM} (hR : zRf sw k (zR M)) {v : List Nat} (hv : ∀ x ∈ v, x ≤ 6) (hl : v.length ≤ 5) (hH : zHd v (zI M) 111) : ∀ (d f p c : Nat), d + c = 7 → d < f → p ≤ 6 → f_X4_closesCircle_5 N (zKs k) (zln k) f 109 (nI (v.length + 1)) (nI p) (nI c) M = some (bif zch v d p == v.length + 1 then 1 else 0)
  | d, 0, p, c, _, hf, _ => absurd hf (Nat.not_lt_zero d)
  | d, f + 1, p, c, hd, hf, hp => by
    have fin : ∀ q : Nat, q ≤ 6 → f_X4_closesCircle_47 N (zKs k) (zln k) (nI (v.length + 1)) (nI q) M = some (bif q == v.length + 1 then 1 else 0) := by
      intro q hq
      unfold f_X4_closesCircle_47
      by_cases e : q = v.length + 1
      · rw [if_pos (by rw [e]), e, beq_self_eq_true]; rfl
      · rw [if_neg (fun h => e ((nI_eq (by omega) (by omega)).mp h)), beq_eq_false_iff_ne.mpr e]; rfl
    unfold f_X4_closesCircle_5
    cases d with
    | zero =>
      rw [if_pos (show (7 : Int32) ≤ nI c from nI_le (a := 7) (by omega) (by omega))]
      exact fin p hp
    | succ d =>
      rw [if_neg (show ¬ (7 : Int32) ≤ nI c from nI_ge (b := 7) (by omega) (by omega))]
      by_cases e0 : p = 0
      · subst e0
        rw [if_pos (show nI 0 ≤ 0 by decide +kernel), show zch v (d + 1) 0 = 0 from if_neg (by omega)]
        exact fin 0 (by omega)
      · rw [if_neg (nI_nle (by omega) (by omega))]
        by_cases e1 : p ≤ v.length
        · rw [if_neg (show ¬ nI (v.length + 1) ≤ nI p from nI_ge (by omega) (by omega)), zgK (k109 k), zbindS (hR.at 109 1 111 (zrm 21 rfl)), zgarr (k111 k) (by decide) (by decide), l111, if_neg (show ¬ Int32.ofNat 7 ≤ nI p from nI_ge (b := 7) (by omega) (by omega)), zgok (k111 k) (l111 k) (show p < 7 by omega) (by decide), nI_clamp (by omega), hH p (by omega) e1, show zch v (d + 1) p = zch v d (zhd v p) from if_pos ⟨by omega, e1⟩]
          unfold f_X4_closesCircle_40
          rw [show nI c + 1 = nI (c + 1) from nI_1 c]
          exact s_closes hR hv hl hH d f (zhd v p) (c + 1) (by omega) (by omega) (hv _ (zhd_mem (by omega) e1))
        · rw [if_pos (nI_le (by omega) (by omega)), show zch v (d + 1) p = p from if_neg (fun q => e1 q.2)]
          exact fin p hp
theorem s_closesCircle {M : ZM} (hN : 10000000 ≤ N) (hR : zRf sw k (zR M)) {v : List Nat} (hv : ∀ x ∈ v, x ≤ 6) (hl : v.length ≤ 5) (hH : zHd v (zI M) 111) {h : Nat} (hh : h ≤ 6) : f_X4_closesCircle N (zKs k) (zln k) 109 (nI h) (nI (v.length + 1)) M = some (bif zch v 7 h == v.length + 1 then 1 else 0) :=
  s_closes hR hv hl hH 7 N h 0 (by omega) (by omega) hh
theorem s_crosses {M : ZM} (hR : zRf sw k (zR M)) {v : List Nat} (hv : ∀ x ∈ v, x ≤ 6) (hl : v.length ≤ 5) (hH : zHd v (zI M) 111) {h : Nat} (hh : h ≤ 6) : ∀ (d f o : Nat), o + d = v.length + 1 → 1 ≤ o → d < f → f_X4_crossesEarlier_2 N (zKs k) (zln k) f 109 (nI h) (nI (v.length + 1)) (nI o) M = some (bif (List.range' o d).any (fun o => zcr h (v.length + 1) (zhd v o) o) then 1 else 0)
  | d, 0, o, _, _, hf => absurd hf (Nat.not_lt_zero d)
  | 0, f + 1, o, hd, _, _ => by
    unfold f_X4_crossesEarlier_2
    rw [if_pos (nI_le (by omega) (by omega))]
    rfl
  | d + 1, f + 1, o, hd, h1, hf => by
    unfold f_X4_crossesEarlier_2
    rw [if_neg (nI_ge (by omega) (by omega)), zgK (k109 k), zbindS (hR.at 109 1 111 (zrm 21 rfl)), zgarr (k111 k) (by decide) (by decide), l111, if_neg (show ¬ Int32.ofNat 7 ≤ nI o from nI_ge (b := 7) (by omega) (by omega)), zgok (k111 k) (l111 k) (show o < 7 by omega) (by decide), nI_clamp (by omega), hH o h1 (by omega), zbindS (s_doCross N (show h < 7 by omega) (show v.length + 1 < 7 by omega) (show zhd v o < 7 by have := hv _ (zhd_mem h1 (show o ≤ v.length by omega)); omega) (show o < 7 by omega))]
    rw [List.range'_succ, List.any_cons]
    cases hc : zcr h (v.length + 1) (zhd v o) o with
    | true =>
      rw [cond_true, if_neg one_ne0, Bool.true_or]
      rfl
    | false =>
      rw [cond_false, if_pos rfl, Bool.false_or, show nI o + 1 = nI (o + 1) from nI_1 o]
      exact s_crosses hR hv hl hH hh d f (o + 1) (by omega) (by omega) (by omega)
theorem s_crossesEarlier {M : ZM} (hN : 10000000 ≤ N) (hR : zRf sw k (zR M)) {v : List Nat} (hv : ∀ x ∈ v, x ≤ 6) (hl : v.length ≤ 5) (hH : zHd v (zI M) 111) {h : Nat} (hh : h ≤ 6) : f_X4_crossesEarlier N (zKs k) (zln k) 109 (nI h) (nI (v.length + 1)) M = some (bif zcrs v h then 1 else 0) :=
  s_crosses hR hv hl hH hh v.length N 1 (by omega) (by omega) (by omega)
theorem s_note {M : ZM} (hR : zRf sw k (zR M)) {c : Nat} (hc : zI M 109 2 = nI c) (hlt : c < 16807) (key : Int64) : f_X4_note N (zKs k) (zln k) 109 key M = some (zsI (zsJ M 110 c key) 109 2 (nI (c + 1))) := by
  unfold f_X4_note f_X4_note_0
  rw [zgK (k109 k), hc, if_neg (nI_pos (by omega)), zbindS (hR.at 109 0 110 (zrm 20 rfl)), zgarr (k110 k) (by decide) (by decide), l110, if_neg (show ¬ Int32.ofNat 16807 ≤ nI c from nI_ge (b := 16807) hlt (by omega)), zgok (k110 k) (l110 k) hlt (by decide), nI_clamp (by omega), zlS, zlS, zI_sJ, hc, show nI c + 1 = nI (c + 1) from nI_1 c]
end ST
