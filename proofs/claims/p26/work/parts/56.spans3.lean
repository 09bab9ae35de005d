/-! SPANS in memory. -/
def zoI : Option Int → Int64
  | none => zNK
  | some z => lI z
theorem zoI_max {a b : Option Int} (ha : zob 100000000000000 a) (hb : zob 100000000000000 b) : (if zoI b < zoI a then zoI a else zoI b) = zoI (zomax a b) := by
  cases a with
  | none => exact if_neg (fun q => by
      have h1 := zNK_le (zoI b)
      rw [Int64.lt_iff_toInt_lt] at q
      rw [Int64.le_iff_toInt_le] at h1
      have q : (zoI b).toInt < zNK.toInt := q
      omega)
  | some x =>
    have h1 := ha x rfl
    cases b with
    | none => exact if_pos (by
        show zNK < lI x
        rw [Int64.lt_iff_toInt_lt, lI_toInt (by omega) (by omega), show zNK.toInt = -9223372036854775808 by decide +kernel]
        omega)
    | some y =>
      have h2 := hb y rfl
      show (if lI y < lI x then lI x else lI y) = lI (if y < x then x else y)
      by_cases q : y < x
      · rw [if_pos q, if_pos ((lI_lt (by omega) (by omega) (by omega) (by omega)).mpr q)]
      · rw [if_neg q, if_neg (fun z => q ((lI_lt (by omega) (by omega) (by omega) (by omega)).mp z))]
theorem zoI_ne {z : Int} (h : -1000000000000000 ≤ z) (h2 : z ≤ 1000000000000000) : ¬ lI z = (-9223372036854775808 : Int64) := by
  rw [← lI_nkey, lI_eq (by omega) (by omega) (by omega) (by omega)]
  omega
theorem s_join (N : Nat) {a b : Option Int} (ha : zob 100000000000000 a) (hb : zob 100000000000000 b) : f_X3_join N (zoI a) (zoI b) = some (zoI (zoadd a b)) := by
  unfold f_X3_join f_X3_join_0
  cases a with
  | none => exact if_pos rfl
  | some x =>
    have h1 := ha x rfl
    refine (if_neg (zoI_ne (z := x) (by omega) (by omega))).trans ?_
    cases b with
    | none => exact if_pos rfl
    | some y =>
      have h2 := hb y rfl
      refine (if_neg (zoI_ne (z := y) (by omega) (by omega))).trans ?_
      show some (lI x + lI y) = some (lI (x + y))
      rw [lI_add]
def zSF (M M' : ZM) : Prop := zR M' = zR M ∧ zI M' = zI M ∧ zD M' = zD M ∧ ∀ a i, (a < 59 ∨ 89 < a) → zJ M' a i = zJ M a i
theorem zSF_refl (M : ZM) : zSF M M := ⟨rfl, rfl, rfl, fun _ _ _ => rfl⟩
theorem zSF_trans {M M1 M2 : ZM} (h1 : zSF M M1) (h2 : zSF M1 M2) : zSF M M2 := ⟨h2.1.trans h1.1, h2.2.1.trans h1.2.1, h2.2.2.1.trans h1.2.2.1, fun a i h => (h2.2.2.2 a i h).trans (h1.2.2.2 a i h)⟩
theorem zSF_set {a : Nat} (h : 59 ≤ a) (h2 : a ≤ 89) (M : ZM) (i : Nat) (v : Int64) : zSF M (zsJ M a i v) := ⟨rfl, rfl, rfl, fun b j hb => by rw [zJ_sJ, if_neg (by omega)]⟩
section SP
variable {N k n : Nat} {sw : Bool} {al : Nat → Nat → Bool} {sc : Nat → Nat → Int}
theorem zvl_kk {h w : Nat} (hh : h ≤ n) (hw : w ≤ n) : zkk al sc h w = zoI (zvl n al sc h w) := by
  unfold zkk zvl
  by_cases q : 1 ≤ w ∧ al h w = true
  · rw [if_pos q, if_pos ⟨q.1, hw, hh, q.2⟩]; rfl
  · rw [if_neg q, if_neg (fun z => q ⟨z.1, z.2.2.2⟩)]; rfl
theorem zvl_b (hn : n ≤ 6) (hsc : ∀ h w, h ≤ n → 1 ≤ w → w ≤ n → -8000 ≤ sc h w ∧ sc h w ≤ 8000) (h w : Nat) : zob 1000000000 (zvl n al sc h w) := fun z e => by
  unfold zvl at e
  by_cases q : 1 ≤ w ∧ w ≤ n ∧ h ≤ n ∧ al h w = true
  · rw [if_pos q] at e
    have hb := hsc h w q.2.2.1 q.1 q.2.1
    have := zkf_b hb.1 hb.2 (show h ≤ 6 by omega) q.1 (show w ≤ 6 by omega)
    rw [← Option.some.inj e]
    exact this
  · rw [if_neg q] at e; cases e
/-- the tables' entries -/
def zV (n : Nat) (al : Nat → Nat → Bool) (sc : Nat → Nat → Int) (kd l r : Nat) : Option Int := zEV (zvl n al sc) 14 kd l r
theorem zV_b (hn : n ≤ 6) (hsc : ∀ h w, h ≤ n → 1 ≤ w → w ≤ n → -8000 ≤ sc h w ∧ sc h w ≤ 8000) (kd l r : Nat) : zob 20000000000000 (zV n al sc kd l r) := zob_mono (zEV_b (zvl_b hn hsc) 14 kd l r) (by decide +kernel)
theorem zV_00 (l : Nat) : zV n al sc 0 l l = some 0 := if_pos (Nat.le_refl l)
theorem zV_11 (l : Nat) : zV n al sc 1 l l = some 0 := if_pos (Nat.le_refl l)
theorem zV_0 {l r : Nat} (h : l < r) (h6 : r ≤ 6) : zV n al sc 0 l r = zosum ((List.range' l (r - l)).map fun c => zoadd (zV n al sc 2 l (c + 1)) (zV n al sc 0 (c + 1) r)) := by
  refine (if_neg (by omega)).trans ?_
  congr 1
  refine zmc (fun c h1 h2 => ?_)
  show zoadd (zEV _ 13 2 l (c + 1)) (zEV _ 13 0 (c + 1) r) = _
  unfold zEV
  rw [zES_fuel 13 14 2 l (c + 1) (by omega) (by unfold zme; rw [if_neg (by decide)]; omega) (by unfold zme; rw [if_neg (by decide)]; omega), zES_fuel 13 14 0 (c + 1) r (by omega) (by unfold zme; rw [if_pos (by decide)]; omega) (by unfold zme; rw [if_pos (by decide)]; omega)]
  rfl
theorem zV_1 {l r : Nat} (h : l < r) (h6 : r ≤ 6) : zV n al sc 1 l r = zosum ((List.range' l (r - l)).map fun c => zoadd (zV n al sc 1 l c) (zV n al sc 3 c r)) := by
  refine (if_neg (by omega)).trans ?_
  congr 1
  refine zmc (fun c h1 h2 => ?_)
  show zoadd (zEV _ 13 1 l c) (zEV _ 13 3 c r) = _
  unfold zEV
  rw [zES_fuel 13 14 1 l c (by omega) (by unfold zme; rw [if_pos (by decide)]; omega) (by unfold zme; rw [if_pos (by decide)]; omega), zES_fuel 13 14 3 c r (by omega) (by unfold zme; rw [if_neg (by decide)]; omega) (by unfold zme; rw [if_neg (by decide)]; omega)]
  rfl
theorem zV_in {l r : Nat} (h6 : r ≤ 6) : ((List.range' l (r - l)).map fun c => zoadd (zEV (zvl n al sc) 13 0 l c) (zEV (zvl n al sc) 13 1 (c + 1) r)) = (List.range' l (r - l)).map fun c => zoadd (zV n al sc 0 l c) (zV n al sc 1 (c + 1) r) := zmc (fun c h1 h2 => by
  show zoadd (zEV _ 13 0 l c) (zEV _ 13 1 (c + 1) r) = _
  unfold zEV
  rw [zES_fuel 13 14 0 l c (by omega) (by unfold zme; rw [if_pos (by decide)]; omega) (by unfold zme; rw [if_pos (by decide)]; omega), zES_fuel 13 14 1 (c + 1) r (by omega) (by unfold zme; rw [if_pos (by decide)]; omega) (by unfold zme; rw [if_pos (by decide)]; omega)]
  rfl)
theorem zV_2 {l r : Nat} (h6 : r ≤ 6) : zV n al sc 2 l r = zoadd (zosum ((List.range' l (r - l)).map fun c => zoadd (zV n al sc 0 l c) (zV n al sc 1 (c + 1) r))) (zvl n al sc l r) := by
  rw [← zV_in h6]
  rfl
theorem zV_3 {l r : Nat} (h6 : r ≤ 6) : zV n al sc 3 l r = zoadd (zosum ((List.range' l (r - l)).map fun c => zoadd (zV n al sc 0 l c) (zV n al sc 1 (c + 1) r))) (zvl n al sc r l) := by
  rw [← zV_in h6]
  rfl
theorem s_open23 (hn : n ≤ 6) (hsc : ∀ h w, h ≤ n → 1 ≤ w → w ≤ n → -8000 ≤ sc h w ∧ sc h w ≤ 8000) {M : ZM} (hR : zRf sw k (zR M)) (hA : zArcs n al sc M) {l r : Nat} (hlr : l < r) (hr : r ≤ n) (h0 : ∀ c, l ≤ c → c < r → zJ M (59 + l) c = zoI (zV n al sc 0 l c)) (h1 : ∀ c, l < c → c ≤ r → zJ M (67 + c) r = zoI (zV n al sc 1 c r)) : ∀ (d f c : Nat) (o : Option Int), c + d = r → l ≤ c → d < f → zob 100000000000000 o → f_X3_fillOpen_23 N (zKs k) (zln k) f 57 48 (nI l) (nI r) (zoI o) (nI c) M = some (zsJ (zsJ M (75 + l) r (zoI (zoadd (((List.range' c d).map fun c => zoadd (zV n al sc 0 l c) (zV n al sc 1 (c + 1) r)).foldl zomax o) (zvl n al sc l r)))) (83 + l) r (zoI (zoadd (((List.range' c d).map fun c => zoadd (zV n al sc 0 l c) (zV n al sc 1 (c + 1) r)).foldl zomax o) (zvl n al sc r l))))
  | d, 0, c, o, _, _, hf, _ => absurd hf (Nat.not_lt_zero d)
  | 0, f + 1, c, o, hd, hlc, _, ho => by
    have hv1 := zob_mono (zvl_b (al := al) hn hsc l r) (show (1000000000 : Int) ≤ 100000000000000 by decide)
    have hv2 := zob_mono (zvl_b (al := al) hn hsc r l) (show (1000000000 : Int) ≤ 100000000000000 by decide)
    have hg1 : f_X0_get N (zKs k) (zln k) 48 (nI l) (nI r) M = some (zoI (zvl n al sc l r)) := by rw [s_aget hR (show l < 7 by omega) (show r < 7 by omega), hA.2 l r (by omega) hr, zvl_kk (by omega) hr]
    have hg2 : ∀ x, f_X0_get N (zKs k) (zln k) 48 (nI r) (nI l) (zsJ M (75 + l) r x) = some (zoI (zvl n al sc r l)) := fun x => by rw [s_aget (M := zsJ M (75 + l) r x) hR (show r < 7 by omega) (show l < 7 by omega), zJ_sJ, if_neg (by omega), hA.2 r l hr (by omega), zvl_kk hr (by omega)]
    show _ = some (zsJ (zsJ M (75 + l) r (zoI (zoadd o (zvl n al sc l r)))) (83 + l) r (zoI (zoadd o (zvl n al sc r l))))
    rw [f_X3_fillOpen_23, if_pos (nI_le (by omega) (by omega)), zgK (k57 k), zbindS (hR.at 57 2 74 (zrm 14 rfl)), zgok (k74 k) (l74 k) (show l < 7 by omega) (by decide), nI_clamp (show l < 2 ^ 31 by omega), zbindS (hR.row 74 7 75 (by simp [ztabs]) (show l < 7 by omega)), zbindS hg1, zgK (k48 k), zbindS (s_join N ho hv1), zgok (kr75 k (show l < 7 by omega)) (lr75 k (show l < 7 by omega)) (show r < 7 by omega) (by decide), zlS, nI_clamp (show r < 2 ^ 31 by omega), zR_sJ, zbindS (hR.at 57 3 82 (zrm 15 rfl)), zgok (k82 k) (l82 k) (show l < 7 by omega) (by decide), zbindS (hR.row 82 7 83 (by simp [ztabs]) (show l < 7 by omega)), zbindS (hg2 _), zbindS (s_join N ho hv2), zgok (kr83 k (show l < 7 by omega)) (lr83 k (show l < 7 by omega)) (show r < 7 by omega) (by decide), zlS]
  | d + 1, f + 1, c, o, hd, hlc, hf, ho => by
    have hb : ∀ kd l r, zob 20000000000000 (zV n al sc kd l r) := zV_b hn hsc
    have ht : zob 100000000000000 (zoadd (zV n al sc 0 l c) (zV n al sc 1 (c + 1) r)) := zob_mono (zob_add (hb 0 l c) (hb 1 (c + 1) r)) (by decide)
    have ho2 : zob 100000000000000 (zomax o (zoadd (zV n al sc 0 l c) (zV n al sc 1 (c + 1) r))) := fun z e => by
      rcases zomax_of e with q | q
      · exact ho z q
      · exact ht z q
    have ih := s_open23 hn hsc hR hA hlr hr h0 h1 d f (c + 1) _ (by omega) (by omega) (by omega) ho2
    rw [f_X3_fillOpen_23, if_neg (nI_ge (by omega) (by omega)), zgK (k57 k), zbindS (hR.at 57 0 58 (zrm 12 rfl)), zgok (k58 k) (l58 k) (show l < 7 by omega) (by decide), nI_clamp (show l < 2 ^ 31 by omega), zbindS (hR.row 58 7 59 (by simp [ztabs]) (show l < 7 by omega)), zgok (kr59 k (show l < 7 by omega)) (lr59 k (show l < 7 by omega)) (show c < 7 by omega) (by decide), zbindS (hR.at 57 1 66 (zrm 13 rfl)), show nI c + (1 : Int32) = nI (c + 1) from nI_1 c, zgok (k66 k) (l66 k) (show c + 1 < 7 by omega) (by decide), nI_clamp (show c + 1 < 2 ^ 31 by omega), zbindS (hR.row 66 7 67 (by simp [ztabs]) (show c + 1 < 7 by omega)), zgok (kr67 k (show c + 1 < 7 by omega)) (lr67 k (show c + 1 < 7 by omega)) (show r < 7 by omega) (by decide), nI_clamp (show c < 2 ^ 31 by omega), nI_clamp (show r < 2 ^ 31 by omega), h0 c hlc (by omega), h1 (c + 1) (by omega) (by omega), zbindS (s_join N (zob_mono (hb 0 l c) (by decide)) (zob_mono (hb 1 (c + 1) r) (by decide))), zoI_max ho ht]
    exact ih
theorem s_open (hN : 10000000 ≤ N) (hn : n ≤ 6) (hsc : ∀ h w, h ≤ n → 1 ≤ w → w ≤ n → -8000 ≤ sc h w ∧ sc h w ≤ 8000) {M : ZM} (hR : zRf sw k (zR M)) (hA : zArcs n al sc M) {l r : Nat} (hlr : l < r) (hr : r ≤ n) (h0 : ∀ c, l ≤ c → c < r → zJ M (59 + l) c = zoI (zV n al sc 0 l c)) (h1 : ∀ c, l < c → c ≤ r → zJ M (67 + c) r = zoI (zV n al sc 1 c r)) : f_X3_fillOpen N (zKs k) (zln k) 57 48 (nI l) (nI r) M = some (zsJ (zsJ M (75 + l) r (zoI (zV n al sc 2 l r))) (83 + l) r (zoI (zV n al sc 3 l r))) := by
  have h := s_open23 (N := N) hn hsc hR hA hlr hr h0 h1 (r - l) N l none (by omega) (Nat.le_refl l) (by omega) (fun z e => by cases e)
  rw [zV_2 (by omega), zV_3 (by omega)]
  unfold f_X3_fillOpen f_X3_fillOpen_0
  rw [zbindS (s_isPlace N (show l < 7 by omega)), if_neg one_ne0, zbindS (s_isPlace N (show r < 7 by omega)), if_neg one_ne0]
  exact h
theorem s_whole27 (hn : n ≤ 6) (hsc : ∀ h w, h ≤ n → 1 ≤ w → w ≤ n → -8000 ≤ sc h w ∧ sc h w ≤ 8000) {M : ZM} (hR : zRf sw k (zR M)) {l r : Nat} (hlr : l < r) (hr : r ≤ n) (h0 : ∀ c, l < c → c ≤ r → zJ M (59 + c) r = zoI (zV n al sc 0 c r)) (h1 : ∀ c, l ≤ c → c < r → zJ M (67 + l) c = zoI (zV n al sc 1 l c)) (h2 : ∀ c, l < c → c ≤ r → zJ M (75 + l) c = zoI (zV n al sc 2 l c)) (h3 : ∀ c, l ≤ c → c < r → zJ M (83 + c) r = zoI (zV n al sc 3 c r)) : ∀ (d f c : Nat) (o p : Option Int), c + d = r → l ≤ c → d < f → zob 100000000000000 o → zob 100000000000000 p → f_X3_fillWhole_27 N (zKs k) (zln k) f 57 (nI l) (nI r) (zoI o) (zoI p) (nI c) M = some (zsJ (zsJ M (59 + l) r (zoI (((List.range' c d).map fun c => zoadd (zV n al sc 2 l (c + 1)) (zV n al sc 0 (c + 1) r)).foldl zomax o))) (67 + l) r (zoI (((List.range' c d).map fun c => zoadd (zV n al sc 1 l c) (zV n al sc 3 c r)).foldl zomax p)))
  | d, 0, c, o, p, _, _, hf, _, _ => absurd hf (Nat.not_lt_zero d)
  | 0, f + 1, c, o, p, hd, hlc, _, ho, hp => by
    show _ = some (zsJ (zsJ M (59 + l) r (zoI o)) (67 + l) r (zoI p))
    rw [f_X3_fillWhole_27, if_pos (nI_le (by omega) (by omega)), zgK (k57 k), zbindS (hR.at 57 0 58 (zrm 12 rfl)), zgok (k58 k) (l58 k) (show l < 7 by omega) (by decide), nI_clamp (show l < 2 ^ 31 by omega), zbindS (hR.row 58 7 59 (by simp [ztabs]) (show l < 7 by omega)), zgok (kr59 k (show l < 7 by omega)) (lr59 k (show l < 7 by omega)) (show r < 7 by omega) (by decide), zlS, nI_clamp (show r < 2 ^ 31 by omega), zR_sJ, zbindS (hR.at 57 1 66 (zrm 13 rfl)), zgok (k66 k) (l66 k) (show l < 7 by omega) (by decide), zbindS (hR.row 66 7 67 (by simp [ztabs]) (show l < 7 by omega)), zgok (kr67 k (show l < 7 by omega)) (lr67 k (show l < 7 by omega)) (show r < 7 by omega) (by decide), zlS]
  | d + 1, f + 1, c, o, p, hd, hlc, hf, ho, hp => by
    have hb : ∀ kd l r, zob 20000000000000 (zV n al sc kd l r) := zV_b hn hsc
    have ht : zob 100000000000000 (zoadd (zV n al sc 2 l (c + 1)) (zV n al sc 0 (c + 1) r)) := zob_mono (zob_add (hb 2 l (c + 1)) (hb 0 (c + 1) r)) (by decide)
    have hu : zob 100000000000000 (zoadd (zV n al sc 1 l c) (zV n al sc 3 c r)) := zob_mono (zob_add (hb 1 l c) (hb 3 c r)) (by decide)
    have ho2 : zob 100000000000000 (zomax o (zoadd (zV n al sc 2 l (c + 1)) (zV n al sc 0 (c + 1) r))) := fun z e => by
      rcases zomax_of e with q | q
      · exact ho z q
      · exact ht z q
    have hp2 : zob 100000000000000 (zomax p (zoadd (zV n al sc 1 l c) (zV n al sc 3 c r))) := fun z e => by
      rcases zomax_of e with q | q
      · exact hp z q
      · exact hu z q
    have ih := s_whole27 hn hsc hR hlr hr h0 h1 h2 h3 d f (c + 1) _ _ (by omega) (by omega) (by omega) ho2 hp2
    rw [f_X3_fillWhole_27, if_neg (nI_ge (by omega) (by omega)), zgK (k57 k), zbindS (hR.at 57 2 74 (zrm 14 rfl)), zgok (k74 k) (l74 k) (show l < 7 by omega) (by decide), nI_clamp (show l < 2 ^ 31 by omega), zbindS (hR.row 74 7 75 (by simp [ztabs]) (show l < 7 by omega)), show nI c + (1 : Int32) = nI (c + 1) from nI_1 c, zgok (kr75 k (show l < 7 by omega)) (lr75 k (show l < 7 by omega)) (show c + 1 < 7 by omega) (by decide), zbindS (hR.at 57 0 58 (zrm 12 rfl)), zgok (k58 k) (l58 k) (show c + 1 < 7 by omega) (by decide), nI_clamp (show c + 1 < 2 ^ 31 by omega), zbindS (hR.row 58 7 59 (by simp [ztabs]) (show c + 1 < 7 by omega)), zgok (kr59 k (show c + 1 < 7 by omega)) (lr59 k (show c + 1 < 7 by omega)) (show r < 7 by omega) (by decide), nI_clamp (show r < 2 ^ 31 by omega), h2 (c + 1) (by omega) (by omega), h0 (c + 1) (by omega) (by omega), zbindS (s_join N (zob_mono (hb 2 l (c + 1)) (by decide)) (zob_mono (hb 0 (c + 1) r) (by decide))), zbindS (hR.at 57 1 66 (zrm 13 rfl)), zgok (k66 k) (l66 k) (show l < 7 by omega) (by decide), zbindS (hR.row 66 7 67 (by simp [ztabs]) (show l < 7 by omega)), zgok (kr67 k (show l < 7 by omega)) (lr67 k (show l < 7 by omega)) (show c < 7 by omega) (by decide), zbindS (hR.at 57 3 82 (zrm 15 rfl)), zgok (k82 k) (l82 k) (show c < 7 by omega) (by decide), nI_clamp (show c < 2 ^ 31 by omega), zbindS (hR.row 82 7 83 (by simp [ztabs]) (show c < 7 by omega)), zgok (kr83 k (show c < 7 by omega)) (lr83 k (show c < 7 by omega)) (show r < 7 by omega) (by decide), h1 c hlc (by omega), h3 c hlc (by omega), zbindS (s_join N (zob_mono (hb 1 l c) (by decide)) (zob_mono (hb 3 c r) (by decide))), zoI_max ho ht, zoI_max hp hu]
    exact ih
theorem s_whole (hN : 10000000 ≤ N) (hn : n ≤ 6) (hsc : ∀ h w, h ≤ n → 1 ≤ w → w ≤ n → -8000 ≤ sc h w ∧ sc h w ≤ 8000) {M : ZM} (hR : zRf sw k (zR M)) {l r : Nat} (hlr : l < r) (hr : r ≤ n) (h0 : ∀ c, l < c → c ≤ r → zJ M (59 + c) r = zoI (zV n al sc 0 c r)) (h1 : ∀ c, l ≤ c → c < r → zJ M (67 + l) c = zoI (zV n al sc 1 l c)) (h2 : ∀ c, l < c → c ≤ r → zJ M (75 + l) c = zoI (zV n al sc 2 l c)) (h3 : ∀ c, l ≤ c → c < r → zJ M (83 + c) r = zoI (zV n al sc 3 c r)) : f_X3_fillWhole N (zKs k) (zln k) 57 (nI l) (nI r) M = some (zsJ (zsJ M (59 + l) r (zoI (zV n al sc 0 l r))) (67 + l) r (zoI (zV n al sc 1 l r))) := by
  have h := s_whole27 (N := N) hn hsc hR hlr hr h0 h1 h2 h3 (r - l) N l none none (by omega) (Nat.le_refl l) (by omega) (fun z e => by cases e) (fun z e => by cases e)
  rw [zV_0 hlr (by omega), zV_1 hlr (by omega)]
  unfold f_X3_fillWhole f_X3_fillWhole_0
  rw [zbindS (s_isPlace N (show l < 7 by omega)), if_neg one_ne0, zbindS (s_isPlace N (show r < 7 by omega)), if_neg one_ne0]
  exact h
/-- the tables are filled for all spans shorter than L, and for those of this length to the left of l -/
def zTb (n : Nat) (al : Nat → Nat → Bool) (sc : Nat → Nat → Int) (L l : Nat) (M : ZM) : Prop := ∀ a b, a ≤ b → b ≤ n → (a = b ∨ b < a + L ∨ (b = a + L ∧ a < l)) → zJ M (59 + a) b = zoI (zV n al sc 0 a b) ∧ zJ M (67 + a) b = zoI (zV n al sc 1 a b) ∧ (a < b → zJ M (75 + a) b = zoI (zV n al sc 2 a b) ∧ zJ M (83 + a) b = zoI (zV n al sc 3 a b))
theorem s_great51 (hN : 10000000 ≤ N) (hn : n ≤ 6) (hsc : ∀ h w, h ≤ n → 1 ≤ w → w ≤ n → -8000 ≤ sc h w ∧ sc h w ≤ 8000) {L : Nat} (hL : 1 ≤ L) (kh : Nat → Nat → Int32 → Int32 → ZM → Option (Int64 × ZM)) : ∀ (d f l : Nat) (M : ZM), l + L + d = n + 1 → d < f → zRf sw k (zR M) → zArcs n al sc M → zTb n al sc L l M → ∃ M', f_X3_greatest_51 N (zKs k) (zln k) kh f 57 48 (nI n) (nI L) (nI l) M = kh 57 48 (nI n) (nI (L + 1)) M' ∧ zSF M M' ∧ zTb n al sc (L + 1) 0 M'
  | d, 0, l, M, _, hf, _, _, _ => absurd hf (Nat.not_lt_zero d)
  | 0, f + 1, l, M, hd, _, hR, hA, hT => by
    refine ⟨M, ?_, zSF_refl M, fun a b h1 h2 h3 => hT a b h1 h2 (by omega)⟩
    rw [f_X3_greatest_51, nI_add, if_pos (nI_lt (by omega) (by omega)), show nI L + 1 = nI (L + 1) from nI_1 L]
  | d + 1, f + 1, l, M, hd, hf, hR, hA, hT => by
    obtain ⟨M1, eM1⟩ : ∃ M1, M1 = zsJ (zsJ M (75 + l) (l + L) (zoI (zV n al sc 2 l (l + L)))) (83 + l) (l + L) (zoI (zV n al sc 3 l (l + L))) := ⟨_, rfl⟩
    obtain ⟨M2, eM2⟩ : ∃ M2, M2 = zsJ (zsJ M1 (59 + l) (l + L) (zoI (zV n al sc 0 l (l + L)))) (67 + l) (l + L) (zoI (zV n al sc 1 l (l + L))) := ⟨_, rfl⟩
    have e1 := s_open hN hn hsc hR hA (l := l) (r := l + L) (by omega) (by omega) (fun c h1 h2 => (hT l c h1 (by omega) (by omega)).1) (fun c h1 h2 => (hT c (l + L) h2 (by omega) (by omega)).2.1)
    rw [← eM1] at e1
    have j1 : ∀ a i, a < 75 → zJ M1 a i = zJ M a i := fun a i h => by rw [eM1, zJ_sJ, if_neg (by omega), zJ_sJ, if_neg (by omega)]
    have j2 : ∀ a i, ¬ (i = l + L) → zJ M1 a i = zJ M a i := fun a i h => by rw [eM1, zJ_sJ, if_neg (by omega), zJ_sJ, if_neg (by omega)]
    have j75 : ∀ a, a ≤ 6 → zJ M1 (75 + a) (l + L) = if a = l then zoI (zV n al sc 2 l (l + L)) else zJ M (75 + a) (l + L) := fun a h => by
      rw [eM1, zJ_sJ, if_neg (by omega), zJ_sJ]
      by_cases q : a = l
      · rw [if_pos (by omega), if_pos q]
      · rw [if_neg (by omega), if_neg q]
    have j83 : ∀ a, zJ M1 (83 + a) (l + L) = if a = l then zoI (zV n al sc 3 l (l + L)) else zJ M (83 + a) (l + L) := fun a => by
      rw [eM1, zJ_sJ]
      by_cases q : a = l
      · rw [if_pos (by omega), if_pos q]
      · rw [if_neg (by omega), if_neg q, zJ_sJ, if_neg (by omega)]
    have s1 : zSF M M1 := by rw [eM1]; exact zSF_trans (zSF_set (by omega) (by omega) M _ _) (zSF_set (by omega) (by omega) _ _ _)
    have hR1 : zRf sw k (zR M1) := by rw [s1.1]; exact hR
    have e2 := s_whole (al := al) hN hn hsc hR1 (l := l) (r := l + L) (by omega) (by omega) (fun c h1 h2 => (j1 _ _ (by omega)).trans (hT c (l + L) h2 (by omega) (by omega)).1) (fun c h1 h2 => (j1 _ _ (by omega)).trans (hT l c h1 (by omega) (by omega)).2.1) (fun c h1 h2 => by
        by_cases q : c = l + L
        · rw [q, j75 l (by omega), if_pos rfl]
        · rw [j2 _ _ q]
          exact ((hT l c (by omega) (by omega) (by omega)).2.2 h1).1) (fun c h1 h2 => by
        rw [j83 c]
        by_cases q : c = l
        · rw [if_pos q, q]
        · rw [if_neg q]
          exact ((hT c (l + L) (by omega) (by omega) (by omega)).2.2 (by omega)).2)
    rw [← eM2] at e2
    have s2 : zSF M1 M2 := by rw [eM2]; exact zSF_trans (zSF_set (by omega) (by omega) M1 _ _) (zSF_set (by omega) (by omega) _ _ _)
    have s12 := zSF_trans s1 s2
    have hA2 : zArcs n al sc M2 := ⟨by rw [s12.2.1]; exact hA.1, fun h w hh hw => (s12.2.2.2 (50 + h) w (by omega)).trans (hA.2 h w hh hw)⟩
    have m2 : ∀ a i, 75 ≤ a → zJ M2 a i = zJ M1 a i := fun a i h => by rw [eM2, zJ_sJ, if_neg (by omega), zJ_sJ, if_neg (by omega)]
    have m59 : ∀ a b, a ≤ 6 → zJ M2 (59 + a) b = if a = l ∧ b = l + L then zoI (zV n al sc 0 l (l + L)) else zJ M (59 + a) b := fun a b h => by
      rw [eM2, zJ_sJ, if_neg (by omega), zJ_sJ]
      by_cases q : a = l ∧ b = l + L
      · rw [if_pos (by omega), if_pos q]
      · rw [if_neg (by omega), if_neg q]; exact j1 _ _ (by omega)
    have m67 : ∀ a b, a ≤ 6 → zJ M2 (67 + a) b = if a = l ∧ b = l + L then zoI (zV n al sc 1 l (l + L)) else zJ M (67 + a) b := fun a b h => by
      rw [eM2, zJ_sJ]
      by_cases q : a = l ∧ b = l + L
      · rw [if_pos (by omega), if_pos q]
      · rw [if_neg (by omega), if_neg q, zJ_sJ, if_neg (by omega)]; exact j1 _ _ (by omega)
    have hT2 : zTb n al sc L (l + 1) M2 := by
      intro a b h1 h2 h3
      rw [m59 a b (by omega), m67 a b (by omega), m2 (75 + a) b (by omega), m2 (83 + a) b (by omega)]
      by_cases q : a = l ∧ b = l + L
      · rw [if_pos q, if_pos q, q.2, j75 a (by omega), j83 a, if_pos q.1, if_pos q.1, q.1]
        exact ⟨rfl, rfl, fun _ => ⟨rfl, rfl⟩⟩
      · rw [if_neg q, if_neg q]
        have h4 := hT a b h1 h2 (by omega)
        refine ⟨h4.1, h4.2.1, fun h5 => ?_⟩
        by_cases q2 : b = l + L
        · have q3 : a ≠ l := fun z => q ⟨z, q2⟩
          rw [q2, j75 a (by omega), j83 a, if_neg q3, if_neg q3, ← q2]
          exact h4.2.2 h5
        · rw [j2 _ _ q2, j2 _ _ q2]
          exact h4.2.2 h5
    obtain ⟨M3, e3, r1, r2⟩ := s_great51 hN hn hsc hL kh d f (l + 1) M2 (by omega) (by omega) (by rw [s12.1]; exact hR) hA2 hT2
    refine ⟨M3, ?_, zSF_trans s12 r1, r2⟩
    rw [f_X3_greatest_51, nI_add, if_neg (nI_nlt (by omega) (by omega)), zbindS e1, zgK (k57 k), zbindS e2, show nI l + 1 = nI (l + 1) from nI_1 l]
    exact e3
theorem s_great43 (hN : 10000000 ≤ N) (hn : n ≤ 6) (hsc : ∀ h w, h ≤ n → 1 ≤ w → w ≤ n → -8000 ≤ sc h w ∧ sc h w ≤ 8000) : ∀ (d f L : Nat) (M : ZM), L + d = n + 1 → 1 ≤ L → d < f → zRf sw k (zR M) → zArcs n al sc M → zTb n al sc L 0 M → ∃ M', f_X3_greatest_43 N (zKs k) (zln k) f 57 48 (nI n) (nI L) M = some (zoI (zV n al sc 0 0 n), M') ∧ zSF M M'
  | d, 0, L, M, _, _, hf, _, _, _ => absurd hf (Nat.not_lt_zero d)
  | 0, f + 1, L, M, hd, hL, _, hR, hA, hT => by
    refine ⟨M, ?_, zSF_refl M⟩
    rw [f_X3_greatest_43, if_pos (nI_lt (by omega) (by omega)), if_neg (nI_pos (by omega)), zgK (k57 k), zbindS (hR.at 57 0 58 (zrm 12 rfl)), zgokL (i := 0) (n := 0) rfl (k58 k) (l58 k) (by decide) (by decide), zcl0, zbindS (hR.row 58 7 59 (by simp [ztabs]) (show 0 < 7 by decide)), zgok (kr59 k (show 0 < 7 by decide)) (lr59 k (show 0 < 7 by decide)) (show n < 7 by omega) (by decide), nI_clamp (show n < 2 ^ 31 by omega), (hT 0 n (by omega) (Nat.le_refl n) (by omega)).1]
  | d + 1, f + 1, L, M, hd, hL, hf, hR, hA, hT => by
    obtain ⟨M1, e1, s1, t1⟩ := s_great51 hN hn hsc hL (fun y0 y1 y2 y3 M => f_X3_greatest_43 N (zKs k) (zln k) f y0 y1 y2 y3 M) (n + 1 - L) N 0 M (by omega) (by omega) hR hA hT
    obtain ⟨M2, e2, s2⟩ := s_great43 hN hn hsc d f (L + 1) M1 (by omega) (by omega) (by omega) (by rw [s1.1]; exact hR) ⟨by rw [s1.2.1]; exact hA.1, fun h w hh hw => (s1.2.2.2 (50 + h) w (by omega)).trans (hA.2 h w hh hw)⟩ t1
    refine ⟨M2, ?_, zSF_trans s1 s2⟩
    rw [f_X3_greatest_43, if_neg (nI_nlt (by omega) (by omega))]
    exact e1.trans e2
theorem s_great12 (hN : 10000000 ≤ N) (hn : n ≤ 6) (hsc : ∀ h w, h ≤ n → 1 ≤ w → w ≤ n → -8000 ≤ sc h w ∧ sc h w ≤ 8000) : ∀ (d f p : Nat) (M : ZM), p + d = n + 1 → d < f → zRf sw k (zR M) → zArcs n al sc M → (∀ a, a < p → zJ M (59 + a) a = 0 ∧ zJ M (67 + a) a = 0) → ∃ M', f_X3_greatest_12 N (zKs k) (zln k) f 57 48 (nI n) (nI p) M = some (zoI (zV n al sc 0 0 n), M') ∧ zSF M M'
  | d, 0, p, M, _, hf, _, _, _ => absurd hf (Nat.not_lt_zero d)
  | 0, f + 1, p, M, hd, _, hR, hA, hT => by
    rw [f_X3_greatest_12, if_pos (nI_lt (by omega) (by omega))]
    exact s_great43 hN hn hsc n N 1 M (by omega) (Nat.le_refl 1) (by omega) hR hA (fun a b h1 h2 h3 => by
      have e : a = b := by omega
      subst e
      rw [zV_00, zV_11]
      exact ⟨(hT a (by omega)).1, (hT a (by omega)).2, fun q => absurd q (Nat.lt_irrefl a)⟩)
  | d + 1, f + 1, p, M, hd, hf, hR, hA, hT => by
    obtain ⟨M1, eM1⟩ : ∃ M1, M1 = zsJ (zsJ M (59 + p) p 0) (67 + p) p 0 := ⟨_, rfl⟩
    have s1 : zSF M M1 := by rw [eM1]; exact zSF_trans (zSF_set (by omega) (by omega) M _ _) (zSF_set (by omega) (by omega) _ _ _)
    obtain ⟨M2, e2, s2⟩ := s_great12 hN hn hsc d f (p + 1) M1 (by omega) (by omega) (by rw [s1.1]; exact hR) ⟨by rw [s1.2.1]; exact hA.1, fun h w hh hw => (s1.2.2.2 (50 + h) w (by omega)).trans (hA.2 h w hh hw)⟩ (fun a ha => by
      rw [eM1, zJ_sJ, zJ_sJ, zJ_sJ, zJ_sJ]
      by_cases q : a = p
      · rw [if_neg (by omega), if_pos (by omega), if_pos (by omega)]
        exact ⟨rfl, rfl⟩
      · rw [if_neg (by omega), if_neg (by omega), if_neg (by omega), if_neg (by omega)]
        exact hT a (by omega))
    refine ⟨M2, ?_, zSF_trans s1 s2⟩
    rw [f_X3_greatest_12, if_neg (nI_nlt (by omega) (by omega)), zgK (k57 k), zbindS (hR.at 57 0 58 (zrm 12 rfl)), zgok (k58 k) (l58 k) (show p < 7 by omega) (by decide), nI_clamp (show p < 2 ^ 31 by omega), zbindS (hR.row 58 7 59 (by simp [ztabs]) (show p < 7 by omega)), zgok (kr59 k (show p < 7 by omega)) (lr59 k (show p < 7 by omega)) (show p < 7 by omega) (by decide), zlS, zR_sJ, zbindS (hR.at 57 1 66 (zrm 13 rfl)), zgok (k66 k) (l66 k) (show p < 7 by omega) (by decide), zbindS (hR.row 66 7 67 (by simp [ztabs]) (show p < 7 by omega)), zgok (kr67 k (show p < 7 by omega)) (lr67 k (show p < 7 by omega)) (show p < 7 by omega) (by decide), zlS, ← eM1, show nI p + 1 = nI (p + 1) from nI_1 p]
    exact e2
theorem s_spans (hN : 10000000 ≤ N) (hn : n ≤ 6) (hsc : ∀ h w, h ≤ n → 1 ≤ w → w ≤ n → -8000 ≤ sc h w ∧ sc h w ≤ 8000) {M : ZM} (hR : zRf sw k (zR M)) (hA : zArcs n al sc M) : ∃ M', f_X3_greatest N (zKs k) (zln k) 57 48 M = some (zoI (zV n al sc 0 0 n), M') ∧ zSF M M' := by
  obtain ⟨M', e, s⟩ := s_great12 (N := N) (k := k) (sw := sw) hN hn hsc (n + 1) N 0 M (by omega) (by omega) hR hA (fun a ha => absurd ha (Nat.not_lt_zero a))
  refine ⟨M', ?_, s⟩
  unfold f_X3_greatest f_X3_greatest_0
  rw [zbindS s_asize, zgK (k48 k), hA.1, if_neg (show ¬ (6 : Int32) < nI n from nI_nlt (a := 6) (b := n) hn (by omega))]
  exact e
end SP
