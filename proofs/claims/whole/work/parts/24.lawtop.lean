/-! THE LAW, from its entry (by program: wip/whole/gen/genlaw.py). -/
theorem zlt5 {a i : Nat} (ha : a ≤ 2560) (hi : i ≤ 2560) : (Int32.ofNat a - 5 < nI i) ↔ a < i + 5 := by
  have e1 : (Int32.ofNat a).toInt = (a : Int) := nI_toInt (n := a) (by omega)
  have e2 : (nI i).toInt = (i : Int) := nI_toInt (by omega)
  have e3 : (5 : Int32).toInt = 5 := by decide
  rw [Int32.lt_iff_toInt_lt, Int32.toInt_sub, e1, e2, e3]
  have e4 : ((a : Int) - 5).bmod (2 ^ 32) = (a : Int) - 5 := Int.bmod_eq_of_le (by omega) (by omega)
  rw [e4]
  omega
set_option maxRecDepth 100000 in
set_option maxHeartbeats 16000000 in
theorem law_loop {p : Program} {l : Launch} {e : Env} {s : State} {m : MethodId} {below : List Frame} {meth : Method} {c : Code} {D : va_G} {cy : Nat → ClassId} (hlt : l.stackTraces = false) {b Lx : Nat} {xs : Nat → Int32} (hLx : Lx ≤ 2560) (C0 : lw_At p s m meth c b Lx xs) (hK : va_K D vwCl (ztys cy) s) (hE0 : zEnv (fun q => s.heap.size ≤ q) s s.heap) (N : Nat) {I : Nat → Nat → ZM → Prop} (hOK : zOK N I) :
    ∀ (n j : Nat), Lx < 5 * j + 5 * n → 5 * j ≤ Lx → ∀ (k : Nat) (M : ZM) (ad : Nat → Nat) (L : List Nat) (H : Heap) (locs : List Loc) (ls : Array Slot), I j k M → zSh ad L (zKs k) → (∀ a, a ∈ L ↔ a < 128 + 11 * k) → (∀ a ∈ L, s.heap.size ≤ ad a) → zWd D cy ad L (zKs k) (zln k) M H → va_S (zA ad L s.heap.size) s.heap H locs → lv_has ls 9 [(0, .ref b), (1, .ref (ad 0)), (2, .ref (ad 112)), (3, .ref (ad 126)), (4, .ref (ad 127)), (5, .int (nI (5 * j)))] → W p l e room_1 s m #[Value.ref b] below meth c H locs (128 + 12 * j) (36312 + 80 * j) (lw_Z below #[Value.ref b] s) (F0 m 28 ls []) := by
  intro n
  induction n with
  | zero => intro j hj h5; exact absurd hj (by omega)
  | succ n ih =>
    intro j hj h5 k M ad L H locs ls hI hL hmL hsz hW hS hl
    obtain ⟨hx, hb, hr, hml, hown, hts, hX, hbl, hlocks, hgv⟩ := id C0
    have hts2 : ∀ w ∈ wsL_law, w.before #[Value.ref b] s = true := fun w hw => hts w (wsL_law_in w hw)
    have hbA : ¬ zA ad L s.heap.size b := fun q => absurd (zA_hi hsz b q) (by omega)
    have hE : zEnv (zA ad L s.heap.size) s s.heap := zEnv_narrow hE0 (zA_hi hsz)
    have C1 : zCx p s m c meth #[Value.ref b] cL_law 9 wsL_law RL (some .boolean) D cy ad L (zKs k) := ⟨hx, hb, hr, hml, hown, hts2, hlocks, hK, hL, hE⟩
    refine lv_iload hx hb dL_law_28 (lv_at hl 5 rfl) ?_
    refine lv_aload_n hx hb dL_law_30 rfl (lv_at hl 0 rfl) ?_
    refine va_slen hx hb hX hbl hbA hS dL_law_31 ?_
    refine lv_iconst (v := 5) hx hb dL_law_32 (by decide) ?_
    refine lv_isub hx hb dL_law_33 ?_
    refine lv_icmp_gt (tgt := 1745) hx hb dL_law_34 (by decide) (fun c1 => ?_) (fun c1 => ?_)
    · refine lv_iconst (v := 1) hx hb dL_law_1745 (by decide) ?_
      refine va_forget (fun q hq => zA_hi hsz _ (hS.2.2 q hq)) ?_
      refine W.widen (k := 601024) (n := 7293034) (by omega) (by omega) ?_
      exact W.base (lw_ret (Drawn.sameBut.refl s.drawn lw_cs) hx hb hr hlocks dL_law_1746)
    have h9 : 5 * j + 5 ≤ Lx := by
      rcases Nat.lt_or_ge Lx (5 * j + 5) with q | q
      · exact absurd ((zlt5 hLx (by omega)).mpr q) c1
      · exact q
    have hcc : 128 + 12 * j + 12 ≤ 601024 := by omega
    have hss : 36312 + 80 * j + 80 ≤ 7293034 := by omega
    have hk : ∀ (k : Nat) (M : ZM) (ad : Nat → Nat) (L : List Nat) (H : Heap) (locs : List Loc) (ls : Array Slot), I (j + 1) k M → zSh ad L (zKs k) → (∀ a, a ∈ L ↔ a < 128 + 11 * k) → (∀ a ∈ L, s.heap.size ≤ ad a) → zWd D cy ad L (zKs k) (zln k) M H → va_S (zA ad L s.heap.size) s.heap H locs → lv_has ls 9 [(0, .ref b), (1, .ref (ad 0)), (2, .ref (ad 112)), (3, .ref (ad 126)), (4, .ref (ad 127)), (5, .int (nI (5 * j)))] → W p l e room_1 s m #[Value.ref b] below meth c H locs (128 + 12 * j + 12) (36312 + 80 * j + 80) (lw_Z below #[Value.ref b] s) (F0 m 1739 ls []) := by
      intro k M ad L H locs ls hI hL hmL hsz hW hS hl
      refine lv_iinc (v := nI (5 * (j + 1))) (lv' := [(5, .int (nI (5 * (j + 1)))), (0, .ref b), (1, .ref (ad 0)), (2, .ref (ad 112)), (3, .ref (ad 126)), (4, .ref (ad 127))]) hx hb dL_law_1739 hl (k := 5) rfl (by rw [show Int32.ofInt 5 = nI 5 from by decide +kernel, nI_add]; rfl) (by decide) rfl (fun ls hl => ?_)
      refine lv_goto (tgt := 28) hx hb dL_law_1742 (by decide) ?_
      rw [show 128 + 12 * j + 12 = 128 + 12 * (j + 1) by omega, show 36312 + 80 * j + 80 = 36312 + 80 * (j + 1) by omega]
      exact ih (j + 1) (by omega) (by omega) k M ad L H locs ls hI hL hmL hsz hW hS (lv_sub hl [1, 2, 3, 4, 5, 0] rfl)
    have hi1 : vp_in (nI (5 * j) + (1 : Int32)) Lx := by rw [show nI (5 * j) + (1 : Int32) = nI (5 * j + 1) from nI_add _ 1]; exact vp_in_nI (by omega) (by omega)
    have hi2 : vp_in (nI (5 * j) + (2 : Int32)) Lx := by rw [show nI (5 * j) + (2 : Int32) = nI (5 * j + 2) from nI_add _ 2]; exact vp_in_nI (by omega) (by omega)
    have hi3 : vp_in (nI (5 * j) + (3 : Int32)) Lx := by rw [show nI (5 * j) + (3 : Int32) = nI (5 * j + 3) from nI_add _ 3]; exact vp_in_nI (by omega) (by omega)
    have hi4 : vp_in (nI (5 * j) + (4 : Int32)) Lx := by rw [show nI (5 * j) + (4 : Int32) = nI (5 * j + 4) from nI_add _ 4]; exact vp_in_nI (by omega) (by omega)
    have hk2 : ∀ {M : ZM}, I (j + 1) k M → ∀ {H : Heap} {locs : List Loc} {ls : Array Slot}, zWd D cy ad L (zKs k) (zln k) M H → va_S (zA ad L s.heap.size) s.heap H locs → lv_has ls 9 [(0, .ref b), (1, .ref (ad 0)), (2, .ref (ad 112)), (3, .ref (ad 126)), (4, .ref (ad 127)), (5, .int (nI (5 * j)))] → W p l e room_1 s m #[Value.ref b] below meth c H locs (128 + 12 * j + 12) (36312 + 80 * j + 80) (lw_Z below #[Value.ref b] s) (F0 m 1739 ls []) := fun {M} hI {H} {locs} {ls} hW hS hl => hk k M ad L H locs ls hI hL hmL hsz hW hS hl
    refine lv_aload_n hx hb dL_law_37 rfl (lv_at hl 0 rfl) ?_
    refine lv_iload hx hb dL_law_38 (lv_at hl 5 rfl) ?_
    refine va_sld hx hb hX hbl hbA hS (vp_in_nI (by omega) (by omega)) dL_law_40 ?_
    refine lv_bipush (v := 31) hx hb dL_law_41 (by decide) ?_
    refine lv_iand hx hb dL_law_43 ?_
    generalize xs (nI (5 * j)).toNatClampNeg &&& 31 = v
    rcases Decidable.em (v.toInt < 0 ∨ 22 < v.toInt) with hv | hv
    · refine lv_tableOut hx hb dL_law_44 hv (tgt := 1739) (by decide) ?_
      refine W.widen (k := 128 + 12 * j + 12) (n := 36312 + 80 * j + 80) (by omega) (by omega) ?_
      exact hk2 (hOK j k M (by omega) hI).2.2.1 hW hS hl
    have hv0 : ¬ v.toInt < 0 := fun q => hv (Or.inl q)
    have hv1 : ¬ 22 < v.toInt := fun q => hv (Or.inr q)
    obtain ⟨hk5, hcl, hnext, c0, c1, c2, c3, c4, c5, c6, c7, c8, c9, c10, c11, c12, c13, c14, c15, c16, c17, c18, c19, c20, c21, c22⟩ := hOK j k M (by omega) hI
    have hvs : v.toInt = 0 ∨ v.toInt = 1 ∨ v.toInt = 2 ∨ v.toInt = 3 ∨ v.toInt = 4 ∨ v.toInt = 5 ∨ v.toInt = 6 ∨ v.toInt = 7 ∨ v.toInt = 8 ∨ v.toInt = 9 ∨ v.toInt = 10 ∨ v.toInt = 11 ∨ v.toInt = 12 ∨ v.toInt = 13 ∨ v.toInt = 14 ∨ v.toInt = 15 ∨ v.toInt = 16 ∨ v.toInt = 17 ∨ v.toInt = 18 ∨ v.toInt = 19 ∨ v.toInt = 20 ∨ v.toInt = 21 ∨ v.toInt = 22 := by omega
    rcases hvs with hv | hv | hv | hv | hv | hv | hv | hv | hv | hv | hv | hv | hv | hv | hv | hv | hv | hv | hv | hv | hv | hv | hv
    · refine lv_tableIn hx hb dL_law_44 hv0 hv1 (off := 108) (by rw [hv]; rfl) (tgt := 152) (by decide) ?_
      rcases c0 with ⟨bv, M2, g1, g2, g3, h2, h3, hI2⟩ | ⟨M1, bv, M2, hk4, g1, g2, g3, g4, g5, g6, h2, h3, h4, hI2⟩
      · exact law_c0n hlt C1 N (I := I (j + 1)) hcc hss g1 g2 g3 h2 h3 hI2 hk2 hW hS hl
      · obtain ⟨ad', had'⟩ : ∃ f : Nat → Nat, f = fun a => if a < 128 + 11 * k then ad a else H.size + (a - (128 + 11 * k)) := ⟨_, rfl⟩
        have hag : ∀ a ∈ L, ad a = ad' a := fun a ha => by rw [had']; exact (if_pos ((hmL a).mp ha)).symm
        have hnew : ∀ i, i < 11 → ad' (128 + 11 * k + i) = H.size + i := fun i hi => by
          rw [had']
          show (if 128 + 11 * k + i < 128 + 11 * k then _ else _) = _
          rw [if_neg (by omega), show 128 + 11 * k + i - (128 + 11 * k) = i by omega]
        have hW' := zWd_ad hag (fun a ha i r hr => (hmL r).mpr (hcl a i r ((hmL a).mp ha) hr)) hW
        have hsz' : ∀ a ∈ L, s.heap.size ≤ ad' a := fun a ha => by rw [← hag a ha]; exact hsz a ha
        have hS' : va_S (zA ad' L s.heap.size) s.heap H locs := ⟨hS.1, fun q h1 h2 => hS.2.1 q h1 (fun z => h2 (Or.inr (zA_hi hsz q z))), fun q hq => Or.inr (zA_hi hsz _ (hS.2.2 q hq))⟩
        have C2 : zCx p s m c meth #[Value.ref b] cL_law 9 wsL_law RL (some .boolean) D cy ad' L (zKs k) := ⟨hx, hb, hr, hml, hown, hts2, hlocks, hK, zSh_ad hag hL, zEnv_narrow hE0 (zA_hi hsz')⟩
        rw [hag 0 ((hmL 0).mpr (by omega)), hag 112 ((hmL 112).mpr (by omega)), hag 126 ((hmL 126).mpr (by omega)), hag 127 ((hmL 127).mpr (by omega))] at hl
        exact law_c0y C2 N (I := I (j + 1)) hcc hss g1 g2 g3 g4 g5 g6 h2 h3 h4 hI2 hsz' (fun {L} {M} hI hL {H} {locs} {ls} hmL hsz hW hS hl => hk (k + 1) M ad' L H locs ls hI hL hmL hsz hW hS hl) hmL hnew hW' hS' hl
    · refine lv_tableIn hx hb dL_law_44 hv0 hv1 (off := 152) (by rw [hv]; rfl) (tgt := 196) (by decide) ?_
      obtain ⟨k1, M1, bv, M2, h1, h2, h3, h4, hI2⟩ := c1 (xs (nI (5 * j) + (1 : Int32)).toNatClampNeg) (xs (nI (5 * j) + (2 : Int32)).toNatClampNeg)
      exact law_c1 hlt C1 hX hbl hbA N (I := I (j + 1) k) (zKs_0 k) (zKs_112 k) (zok_126 k) (zok_127 k) hcc hss hi1 rfl hi2 rfl h1 h2 h3 h4 hI2 hk2 hW hS hl
    · refine lv_tableIn hx hb dL_law_44 hv0 hv1 (off := 220) (by rw [hv]; rfl) (tgt := 264) (by decide) ?_
      obtain ⟨k1, bv, M2, h1, h2, h4, hI2⟩ := c2
      exact law_c2 hlt C1 hX hbl hbA N (I := I (j + 1) k) (M1 := M) (zKs_0 k) (zKs_112 k) (zok_126 k) (zok_127 k) hcc hss h1 h2 h4 hI2 hk2 hW hS hl
    · refine lv_tableIn hx hb dL_law_44 hv0 hv1 (off := 233) (by rw [hv]; rfl) (tgt := 277) (by decide) ?_
      obtain ⟨k1, M1, bv, M2, h1, h2, h3, h4, hI2⟩ := c3 (xs (nI (5 * j) + (1 : Int32)).toNatClampNeg)
      exact law_c3 hlt C1 hX hbl hbA N (I := I (j + 1) k) (zKs_0 k) (zKs_112 k) (zok_126 k) (zok_127 k) hcc hss hi1 rfl h1 h2 h3 h4 hI2 hk2 hW hS hl
    · refine lv_tableIn hx hb dL_law_44 hv0 hv1 (off := 289) (by rw [hv]; rfl) (tgt := 333) (by decide) ?_
      obtain ⟨k1, M1, bv, M2, h1, h2, h3, h4, hI2⟩ := c4 (xs (nI (5 * j) + (1 : Int32)).toNatClampNeg) (xs (nI (5 * j) + (2 : Int32)).toNatClampNeg)
      exact law_c4 hlt C1 hX hbl hbA N (I := I (j + 1) k) (zKs_0 k) (zKs_112 k) (zok_126 k) (zok_127 k) hcc hss hi1 rfl hi2 rfl h1 h2 h3 h4 hI2 hk2 hW hS hl
    · refine lv_tableIn hx hb dL_law_44 hv0 hv1 (off := 357) (by rw [hv]; rfl) (tgt := 401) (by decide) ?_
      obtain ⟨k1, M1, bv, M2, h1, h2, h3, h4, hI2⟩ := c5 (xs (nI (5 * j) + (1 : Int32)).toNatClampNeg) (xs (nI (5 * j) + (2 : Int32)).toNatClampNeg)
      exact law_c5 hlt C1 hX hbl hbA N (I := I (j + 1) k) (zKs_0 k) (zKs_112 k) (zok_126 k) (zok_127 k) hcc hss hi1 rfl hi2 rfl h1 h2 h3 h4 hI2 hk2 hW hS hl
    · refine lv_tableIn hx hb dL_law_44 hv0 hv1 (off := 425) (by rw [hv]; rfl) (tgt := 469) (by decide) ?_
      obtain ⟨k1, M1, bv, M2, h1, h2, h3, h4, hI2⟩ := c6 (xs (nI (5 * j) + (1 : Int32)).toNatClampNeg)
      exact law_c6 hlt C1 hX hbl hbA N (I := I (j + 1) k) (zKs_0 k) (zKs_112 k) (zok_126 k) (zok_127 k) hcc hss hi1 rfl h1 h2 h3 h4 hI2 hk2 hW hS hl
    · refine lv_tableIn hx hb dL_law_44 hv0 hv1 (off := 481) (by rw [hv]; rfl) (tgt := 525) (by decide) ?_
      obtain ⟨k1, M1, bv, M2, h1, h2, h3, h4, hI2⟩ := c7 (xs (nI (5 * j) + (1 : Int32)).toNatClampNeg) (xs (nI (5 * j) + (2 : Int32)).toNatClampNeg) (xs (nI (5 * j) + (3 : Int32)).toNatClampNeg) (xs (nI (5 * j) + (4 : Int32)).toNatClampNeg)
      exact law_c7 hlt C1 hX hbl hbA N (I := I (j + 1) k) (zKs_0 k) (zKs_112 k) (zok_126 k) (zok_127 k) hcc hss hi1 rfl hi2 rfl hi3 rfl hi4 rfl h1 h2 h3 h4 hI2 hk2 hW hS hl
    · refine lv_tableIn hx hb dL_law_44 hv0 hv1 (off := 589) (by rw [hv]; rfl) (tgt := 633) (by decide) ?_
      obtain ⟨k1, M1, bv, M2, h1, h2, h3, h4, hI2⟩ := c8 (xs (nI (5 * j) + (1 : Int32)).toNatClampNeg) (xs (nI (5 * j) + (2 : Int32)).toNatClampNeg) (xs (nI (5 * j) + (3 : Int32)).toNatClampNeg)
      exact law_c8 hlt C1 hX hbl hbA N (I := I (j + 1) k) (zKs_0 k) (zKs_112 k) (zok_126 k) (zok_127 k) hcc hss hi1 rfl hi2 rfl hi3 rfl h1 h2 h3 h4 hI2 hk2 hW hS hl
    · refine lv_tableIn hx hb dL_law_44 hv0 hv1 (off := 669) (by rw [hv]; rfl) (tgt := 713) (by decide) ?_
      obtain ⟨k1, M1, bv, M2, h1, h2, h3, h4, hI2⟩ := c9 (xs (nI (5 * j) + (1 : Int32)).toNatClampNeg) (xs (nI (5 * j) + (2 : Int32)).toNatClampNeg) (xs (nI (5 * j) + (3 : Int32)).toNatClampNeg) (xs (nI (5 * j) + (4 : Int32)).toNatClampNeg)
      exact law_c9 hlt C1 hX hbl hbA N (I := I (j + 1) k) (zKs_0 k) (zKs_112 k) (zok_126 k) (zok_127 k) hcc hss hi1 rfl hi2 rfl hi3 rfl hi4 rfl h1 h2 h3 h4 hI2 hk2 hW hS hl
    · refine lv_tableIn hx hb dL_law_44 hv0 hv1 (off := 761) (by rw [hv]; rfl) (tgt := 805) (by decide) ?_
      obtain ⟨k1, M1, bv, M2, h1, h2, h3, h4, hI2⟩ := c10 (xs (nI (5 * j) + (1 : Int32)).toNatClampNeg) (xs (nI (5 * j) + (2 : Int32)).toNatClampNeg)
      exact law_c10 hlt C1 hX hbl hbA N (I := I (j + 1) k) (zKs_0 k) (zKs_112 k) (zok_126 k) (zok_127 k) hcc hss hi1 rfl hi2 rfl h1 h2 h3 h4 hI2 hk2 hW hS hl
    · refine lv_tableIn hx hb dL_law_44 hv0 hv1 (off := 845) (by rw [hv]; rfl) (tgt := 889) (by decide) ?_
      obtain ⟨k1, M1, bv, M2, h1, h2, h3, h4, hI2⟩ := c11 (xs (nI (5 * j) + (1 : Int32)).toNatClampNeg) (xs (nI (5 * j) + (2 : Int32)).toNatClampNeg)
      exact law_c11 hlt C1 hX hbl hbA N (I := I (j + 1) k) (zKs_0 k) (zKs_112 k) (zok_126 k) (zok_127 k) hcc hss hi1 rfl hi2 rfl h1 h2 h3 h4 hI2 hk2 hW hS hl
    · refine lv_tableIn hx hb dL_law_44 hv0 hv1 (off := 929) (by rw [hv]; rfl) (tgt := 973) (by decide) ?_
      obtain ⟨k1, M1, bv, M2, h1, h2, h3, h4, hI2⟩ := c12 (xs (nI (5 * j) + (1 : Int32)).toNatClampNeg) (xs (nI (5 * j) + (2 : Int32)).toNatClampNeg)
      exact law_c12 hlt C1 hX hbl hbA N (I := I (j + 1) k) (zKs_0 k) (zKs_112 k) (zok_126 k) (zok_127 k) hcc hss hi1 rfl hi2 rfl h1 h2 h3 h4 hI2 hk2 hW hS hl
    · refine lv_tableIn hx hb dL_law_44 hv0 hv1 (off := 1013) (by rw [hv]; rfl) (tgt := 1057) (by decide) ?_
      obtain ⟨k1, M1, bv, M2, h1, h2, h3, h4, hI2⟩ := c13 (xs (nI (5 * j) + (1 : Int32)).toNatClampNeg) (xs (nI (5 * j) + (2 : Int32)).toNatClampNeg) (xs (nI (5 * j) + (3 : Int32)).toNatClampNeg)
      exact law_c13 hlt C1 hX hbl hbA N (I := I (j + 1) k) (zKs_0 k) (zKs_112 k) (zok_126 k) (zok_127 k) hcc hss hi1 rfl hi2 rfl hi3 rfl h1 h2 h3 h4 hI2 hk2 hW hS hl
    · refine lv_tableIn hx hb dL_law_44 hv0 hv1 (off := 1109) (by rw [hv]; rfl) (tgt := 1153) (by decide) ?_
      obtain ⟨k1, M1, bv, M2, h1, h2, h3, h4, hI2⟩ := c14 (xs (nI (5 * j) + (1 : Int32)).toNatClampNeg)
      exact law_c14 hlt C1 hX hbl hbA N (I := I (j + 1) k) (zKs_0 k) (zKs_112 k) (zok_126 k) (zok_127 k) hcc hss hi1 rfl h1 h2 h3 h4 hI2 hk2 hW hS hl
    · refine lv_tableIn hx hb dL_law_44 hv0 hv1 (off := 1165) (by rw [hv]; rfl) (tgt := 1209) (by decide) ?_
      obtain ⟨k1, M1, bv, M2, h1, h2, h3, h4, hI2⟩ := c15 (xs (nI (5 * j) + (1 : Int32)).toNatClampNeg) (xs (nI (5 * j) + (2 : Int32)).toNatClampNeg) (xs (nI (5 * j) + (3 : Int32)).toNatClampNeg)
      exact law_c15 hlt C1 hX hbl hbA N (I := I (j + 1) k) (zKs_0 k) (zKs_112 k) (zok_126 k) (zok_127 k) hcc hss hi1 rfl hi2 rfl hi3 rfl h1 h2 h3 h4 hI2 hk2 hW hS hl
    · refine lv_tableIn hx hb dL_law_44 hv0 hv1 (off := 1261) (by rw [hv]; rfl) (tgt := 1305) (by decide) ?_
      obtain ⟨k1, M1, bv, M2, h1, h2, h3, h4, hI2⟩ := c16 (xs (nI (5 * j) + (1 : Int32)).toNatClampNeg) (xs (nI (5 * j) + (2 : Int32)).toNatClampNeg) (xs (nI (5 * j) + (3 : Int32)).toNatClampNeg) (xs (nI (5 * j) + (4 : Int32)).toNatClampNeg)
      exact law_c16 hlt C1 hX hbl hbA N (I := I (j + 1) k) (zKs_0 k) (zKs_112 k) (zok_126 k) (zok_127 k) hcc hss hi1 rfl hi2 rfl hi3 rfl hi4 rfl h1 h2 h3 h4 hI2 hk2 hW hS hl
    · refine lv_tableIn hx hb dL_law_44 hv0 hv1 (off := 1369) (by rw [hv]; rfl) (tgt := 1413) (by decide) ?_
      obtain ⟨k1, M1, bv, M2, h1, h2, h3, h4, hI2⟩ := c17 (xs (nI (5 * j) + (1 : Int32)).toNatClampNeg) (xs (nI (5 * j) + (2 : Int32)).toNatClampNeg) (xs (nI (5 * j) + (3 : Int32)).toNatClampNeg)
      exact law_c17 hlt C1 hX hbl hbA N (I := I (j + 1) k) (zKs_0 k) (zKs_112 k) (zok_126 k) (zok_127 k) hcc hss hi1 rfl hi2 rfl hi3 rfl h1 h2 h3 h4 hI2 hk2 hW hS hl
    · refine lv_tableIn hx hb dL_law_44 hv0 hv1 (off := 1449) (by rw [hv]; rfl) (tgt := 1493) (by decide) ?_
      obtain ⟨k1, M1, bv, M2, h1, h2, h3, h4, hI2⟩ := c18 (xs (nI (5 * j) + (1 : Int32)).toNatClampNeg)
      exact law_c18 hlt C1 hX hbl hbA N (I := I (j + 1) k) (zKs_0 k) (zKs_112 k) (zok_126 k) (zok_127 k) hcc hss hi1 rfl h1 h2 h3 h4 hI2 hk2 hW hS hl
    · refine lv_tableIn hx hb dL_law_44 hv0 hv1 (off := 1505) (by rw [hv]; rfl) (tgt := 1549) (by decide) ?_
      obtain ⟨k1, M1, bv, M2, h1, h2, h3, h4, hI2⟩ := c19 (xs (nI (5 * j) + (1 : Int32)).toNatClampNeg)
      exact law_c19 hlt C1 hX hbl hbA N (I := I (j + 1) k) (zKs_0 k) (zKs_112 k) (zok_126 k) (zok_127 k) hcc hss hi1 rfl h1 h2 h3 h4 hI2 hk2 hW hS hl
    · refine lv_tableIn hx hb dL_law_44 hv0 hv1 (off := 1561) (by rw [hv]; rfl) (tgt := 1605) (by decide) ?_
      obtain ⟨k1, bv, M2, h1, h2, h4, hI2⟩ := c20
      exact law_c20 hlt C1 hX hbl hbA N (I := I (j + 1) k) (M1 := M) (zKs_0 k) (zKs_112 k) (zok_126 k) (zok_127 k) hcc hss h1 h2 h4 hI2 hk2 hW hS hl
    · refine lv_tableIn hx hb dL_law_44 hv0 hv1 (off := 1574) (by rw [hv]; rfl) (tgt := 1618) (by decide) ?_
      obtain ⟨k1, M1, bv, M2, h1, h2, h3, h4, hI2⟩ := c21 (xs (nI (5 * j) + (1 : Int32)).toNatClampNeg)
      exact law_c21 hlt C1 hX hbl hbA N (I := I (j + 1) k) (zKs_0 k) (zKs_112 k) (zok_126 k) (zok_127 k) hcc hss hi1 rfl h1 h2 h3 h4 hI2 hk2 hW hS hl
    · refine lv_tableIn hx hb dL_law_44 hv0 hv1 (off := 1651) (by rw [hv]; rfl) (tgt := 1695) (by decide) ?_
      obtain ⟨k1, M1, bv, M2, h1, h2, h3, h4, hI2⟩ := c22
      exact law_c22 hlt C1 hX hbl hbA N (I := I (j + 1) k) (zKs_0 k) (zKs_112 k) (zok_126 k) (zok_127 k) hcc hss h1 h2 h3 h4 hI2 hk2 hW hS hl
set_option maxRecDepth 100000 in
set_option maxHeartbeats 4000000 in
theorem whole_of (N : Nat) {I : Nat → Nat → ZM → Prop} (hOK : zOK N I) (hGo : zGo N I) {p : Program} {e : Env} {s : State} {m : MethodId} {below : List Frame} {meth : Method} {c : Code} (l : Launch) (hflags : l.flags = flags0) {b Lx : Nat} {xs : Nat → Int32} (hLx : Lx ≤ 2560) (C0 : lw_At p s m meth c b Lx xs) : W p l e room_1 s m #[Value.ref b] below meth c s.heap [] 0 0 (lw_Z below #[Value.ref b] s) (entryFrame m ([Value.ref b] : List Value).toArray 9) := by
  obtain ⟨hx, hb, hr, hml, hown, hts, hX, hbl, hlocks, hgv⟩ := id C0
  have hlt : l.stackTraces = false := by
    unfold Launch.stackTraces
    rw [hflags]
    decide +kernel
  obtain ⟨D, cy, hK⟩ := zK_start hts
  have hts2 : ∀ w ∈ wsL_law, w.before #[Value.ref b] s = true := fun w hw => hts w (wsL_law_in w hw)
  have hE0 : zEnv (fun q => s.heap.size ≤ q) s s.heap := zEnv_start hts hgv (fun a h1 h2 => absurd h1 (by omega))
  obtain ⟨M1, M2, e1, e2, hI⟩ := hGo
  obtain ⟨ad, hadd⟩ : ∃ f : Nat → Nat, f = fun a => s.heap.size + a := ⟨_, rfl⟩
  have had : ∀ a, ad a = s.heap.size + a := fun a => by rw [hadd]
  have hL : zSh ad [] (fun _ => 0) := ⟨List.nodup_nil, fun a h => absurd rfl h, fun a h => absurd h List.not_mem_nil⟩
  have hW : zWd D cy ad [] (fun _ => 0) (fun _ => 0) zMz s.heap := fun k q h => by cases h
  have hS : va_S (zA ad [] s.heap.size) s.heap s.heap [] := va_S.rf
  have hinX6 : ∀ w ∈ wsX60, w ∈ wsL_law := inlX6
  have hinX7 : ∀ w ∈ wsX70, w ∈ wsL_law := inlX7
  have hm : ∀ a, a ∈ ([] : List Nat) ↔ a ∈ ([] : List Nat) ∨ (0 ≤ a ∧ a < 0 + 0) := zmem_0
  have hl := lv_entry ([.ref b]) (n := 9) (Nat.le_of_ble_eq_true rfl)
  rw [lg_entry_eq]
  generalize (lg_sl ([.ref b]) ++ List.replicate (9 - (lg_sl ([.ref b])).length) Slot.unset).toArray = ls at hl ⊢
  have hl : lv_has ls 9 [(0, .ref b)] := hl
  refine z_new (own := RL) (C := RX6) (T := TX6) (N := 7) (ci := 6) hx hb hts2 hinX6 tyX6 tyX6_ok hown (hts (.classLink RL 8 RX6) (by decide +kernel)) (hts (.instantiable RX6 7) (by decide +kernel)) (hts (.initialized RX6) (by decide +kernel)) hK hL hW hS 0 (had 0) rfl (by decide) (zbornX6 _ _) (by decide +kernel) (by decide +kernel) dL_law_0 (fun H z0 _ hL hW hS => ?_)
  have hm := zmem_1 hm
  generalize [] ++ [0 + 0] = L1 at hm hL hW hS ⊢
  refine W.widen (k := 1) (n := 7) (by omega) (by omega) ?_
  refine lv_dup hx hb dL_law_3 rfl ?_
  have hhi : ∀ a ∈ L1, s.heap.size ≤ ad a := fun a _ => by rw [had]; omega
  refine z_calln (lo := 0 + 1) (n := 111) hS (va_runI (As := []) (rest := [.ref (ad 0)]) ⟨hx, hb, hml, hown, hts2⟩ (m_X6_init l hL N e1 H.size (fun i hi => by rw [had]; omega)) (cwI 0 hts2 gL_law_X6_init rfl rfl rfl (hts (.initialized RX6) (by decide +kernel)) (hts (.methodLink RL 88 yX6_init) (by decide +kernel)) (hts (.instanceMethod yX6_init) (by decide +kernel)) rfl (by decide +kernel) ⟨by decide +kernel, by decide +kernel⟩) (z_preS hK (zEnv_narrow hE0 (zA_hi hhi)) hW hS [.ref (ad 0)]) rfl rfl hl.1 rfl (lv_room (Nat.le_of_ble_eq_true rfl)) dL_law_4 ⟨by decide +kernel, by decide +kernel⟩) (fun L2 H locs hm2 hL hW hS => ?_)
  have hm := zmem_c hm hm2
  refine W.widen (k := 112) (n := 18490) (by omega) (by omega) ?_
  refine lv_astore_n (lv' := [(1, .ref (ad 0)), (0, .ref b)]) hx hb dL_law_7 rfl hl (by decide) rfl (fun ls hl => ?_)
  refine z_size (by have h9 := zWd_lt hW ((hm 111).mpr (Or.inr ⟨by omega, by omega⟩)); rw [had] at h9; omega) (fun hz => ?_)
  refine z_new (own := RL) (C := RX7) (T := TX7) (N := 20) (ci := 7) hx hb hts2 hinX7 tyX7 tyX7_ok hown (hts (.classLink RL 89 RX7) (by decide +kernel)) (hts (.instantiable RX7 20) (by decide +kernel)) (hts (.initialized RX7) (by decide +kernel)) hK hL hW hS 112 (by rw [had, hz]) rfl (by decide) (zbornX7 _ _) (by decide +kernel) (by decide +kernel) dL_law_8 (fun H z1 _ hL hW hS => ?_)
  have hm := zmem_1 hm
  generalize L2 ++ [0 + (0 + 1 + 111)] = L3 at hm hL hW hS ⊢
  refine W.widen (k := 113) (n := 18510) (by omega) (by omega) ?_
  refine lv_dup hx hb dL_law_11 rfl ?_
  have hhi : ∀ a ∈ L3, s.heap.size ≤ ad a := fun a _ => by rw [had]; omega
  refine z_calln (lo := 112 + 1) (n := 13) hS (va_runI (As := []) (rest := [.ref (ad 112)]) ⟨hx, hb, hml, hown, hts2⟩ (m_X7_init l hL N e2 H.size (fun i hi => by rw [had]; omega)) (cwI 0 hts2 gL_law_X7_init rfl rfl rfl (hts (.initialized RX7) (by decide +kernel)) (hts (.methodLink RL 91 yX7_init) (by decide +kernel)) (hts (.instanceMethod yX7_init) (by decide +kernel)) rfl (by decide +kernel) ⟨by decide +kernel, by decide +kernel⟩) (z_preS hK (zEnv_narrow hE0 (zA_hi hhi)) hW hS [.ref (ad 112)]) rfl rfl hl.1 rfl (lv_room (Nat.le_of_ble_eq_true rfl)) dL_law_12 ⟨by decide +kernel, by decide +kernel⟩) (fun L4 H locs hm2 hL hW hS => ?_)
  have hm := zmem_c hm hm2
  refine W.widen (k := 126) (n := 36310) (by omega) (by omega) ?_
  refine lv_astore_n (lv' := [(2, .ref (ad 112)), (1, .ref (ad 0)), (0, .ref b)]) hx hb dL_law_15 rfl hl (by decide) rfl (fun ls hl => ?_)
  refine lv_iconst (v := 1) hx hb dL_law_16 (by decide) ?_
  refine z_size (by have h9 := zWd_lt hW ((hm 125).mpr (Or.inr ⟨by omega, by omega⟩)); rw [had] at h9; omega) (fun hz => ?_)
  refine z_newa (atype := .long) hx hb (hts (.arrayClass .long) (by decide +kernel)) 12 (Or.inr (Or.inl ⟨rfl, rfl⟩)) hK hL hW hS 126 (by rw [had, hz]) (n := 1) (N' := 1) (by decide +kernel) (by decide +kernel) (by decide +kernel) (by decide +kernel) (by decide +kernel) dL_law_17 (fun H z2 _ hL hW hS => ?_)
  have hm := zmem_1 hm
  generalize L4 ++ [0 + (0 + 1 + 111 + 1 + 13)] = L5 at hm hL hW hS ⊢
  refine W.widen (k := 127) (n := 36311) (by omega) (by omega) ?_
  refine lv_astore_n (lv' := [(3, .ref (ad 126)), (2, .ref (ad 112)), (1, .ref (ad 0)), (0, .ref b)]) hx hb dL_law_19 rfl hl (by decide) rfl (fun ls hl => ?_)
  refine lv_iconst (v := 1) hx hb dL_law_20 (by decide) ?_
  refine z_size (by have h9 := zWd_lt hW ((hm 126).mpr (Or.inr ⟨by omega, by omega⟩)); rw [had] at h9; omega) (fun hz => ?_)
  refine z_newa (atype := .double) hx hb (hts (.arrayClass .double) (by decide +kernel)) 17 (Or.inr (Or.inr (Or.inr ⟨rfl, rfl⟩))) hK hL hW hS 127 (by rw [had, hz]) (n := 1) (N' := 1) (by decide +kernel) (by decide +kernel) (by decide +kernel) (by decide +kernel) (by decide +kernel) dL_law_21 (fun H z3 _ hL hW hS => ?_)
  have hm := zmem_1 hm
  generalize L5 ++ [0 + (0 + 1 + 111 + 1 + 13 + 1)] = L6 at hm hL hW hS ⊢
  refine W.widen (k := 128) (n := 36312) (by omega) (by omega) ?_
  refine lv_astore (lv' := [(4, .ref (ad 127)), (3, .ref (ad 126)), (2, .ref (ad 112)), (1, .ref (ad 0)), (0, .ref b)]) hx hb dL_law_23 hl (by decide) rfl (fun ls hl => ?_)
  refine lv_iconst (v := 0) hx hb dL_law_25 (by decide) ?_
  refine lv_istore (lv' := [(5, .int 0), (4, .ref (ad 127)), (3, .ref (ad 126)), (2, .ref (ad 112)), (1, .ref (ad 0)), (0, .ref b)]) hx hb dL_law_26 hl (by decide) rfl (fun ls hl => ?_)
  have hmL : ∀ a, a ∈ L6 ↔ a < 128 + 11 * 0 := fun a => by rw [hm a]; simp only [List.not_mem_nil, false_or]; omega
  exact law_loop hlt hLx C0 hK hE0 N hOK (Lx + 1) 0 (by omega) (by omega) 0 _ ad L6 H locs ls hI hL hmL (fun a _ => by rw [had]; omega) hW hS (lv_sub hl [5, 4, 3, 2, 1, 0] (by rw [nI_0]; rfl))
