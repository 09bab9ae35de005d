/-! Constructors, laid by program (wip/whole/gen/gena.py) -/
theorem zbornX0 {ad : Nat → Nat} (M : ZM) (r : Nat) : ∀ j, j < 2 → defaultValue (tyX0 j) = vp_V (zfl ad (zclr M r) r 0 (ztl 0)) j := by
  intro j hj
  have e1 : ∀ k, zI (zclr M r) r k = 0 := fun k => if_pos rfl
  have e2 : ∀ k, zR (zclr M r) r k = none := fun k => if_pos rfl
  have hc : j = 0 ∨ j = 1 := by omega
  rcases hc with rfl | rfl <;> simp [tyX0, defaultValue, vp_V, zfl, zfv, ztl, e1, e2, va_rf]
theorem zbornX1 {ad : Nat → Nat} (M : ZM) (r : Nat) : ∀ j, j < 5 → defaultValue (tyX1 j) = vp_V (zfl ad (zclr M r) r 0 (ztl 1)) j := by
  intro j hj
  have e1 : ∀ k, zI (zclr M r) r k = 0 := fun k => if_pos rfl
  have e2 : ∀ k, zR (zclr M r) r k = none := fun k => if_pos rfl
  have hc : j = 0 ∨ j = 1 ∨ j = 2 ∨ j = 3 ∨ j = 4 := by omega
  rcases hc with rfl | rfl | rfl | rfl | rfl <;> simp [tyX1, defaultValue, vp_V, zfl, zfv, ztl, e1, e2, va_rf]
theorem zbornX2 {ad : Nat → Nat} (M : ZM) (r : Nat) : ∀ j, j < 4 → defaultValue (tyX2 j) = vp_V (zfl ad (zclr M r) r 0 (ztl 2)) j := by
  intro j hj
  have e1 : ∀ k, zI (zclr M r) r k = 0 := fun k => if_pos rfl
  have e2 : ∀ k, zR (zclr M r) r k = none := fun k => if_pos rfl
  have hc : j = 0 ∨ j = 1 ∨ j = 2 ∨ j = 3 := by omega
  rcases hc with rfl | rfl | rfl | rfl <;> simp [tyX2, defaultValue, vp_V, zfl, zfv, ztl, e1, e2, va_rf]
theorem zbornX3 {ad : Nat → Nat} (M : ZM) (r : Nat) : ∀ j, j < 4 → defaultValue (tyX3 j) = vp_V (zfl ad (zclr M r) r 0 (ztl 3)) j := by
  intro j hj
  have e1 : ∀ k, zI (zclr M r) r k = 0 := fun k => if_pos rfl
  have e2 : ∀ k, zR (zclr M r) r k = none := fun k => if_pos rfl
  have hc : j = 0 ∨ j = 1 ∨ j = 2 ∨ j = 3 := by omega
  rcases hc with rfl | rfl | rfl | rfl <;> simp [tyX3, defaultValue, vp_V, zfl, zfv, ztl, e1, e2, va_rf]
theorem zbornX4 {ad : Nat → Nat} (M : ZM) (r : Nat) : ∀ j, j < 3 → defaultValue (tyX4 j) = vp_V (zfl ad (zclr M r) r 0 (ztl 4)) j := by
  intro j hj
  have e1 : ∀ k, zI (zclr M r) r k = 0 := fun k => if_pos rfl
  have e2 : ∀ k, zR (zclr M r) r k = none := fun k => if_pos rfl
  have hc : j = 0 ∨ j = 1 ∨ j = 2 := by omega
  rcases hc with rfl | rfl | rfl <;> simp [tyX4, defaultValue, vp_V, zfl, zfv, ztl, e1, e2, va_rf]
theorem zbornX5 {ad : Nat → Nat} (M : ZM) (r : Nat) : ∀ j, j < 8 → defaultValue (tyX5 j) = vp_V (zfl ad (zclr M r) r 0 (ztl 5)) j := by
  intro j hj
  have e1 : ∀ k, zI (zclr M r) r k = 0 := fun k => if_pos rfl
  have e2 : ∀ k, zR (zclr M r) r k = none := fun k => if_pos rfl
  have hc : j = 0 ∨ j = 1 ∨ j = 2 ∨ j = 3 ∨ j = 4 ∨ j = 5 ∨ j = 6 ∨ j = 7 := by omega
  rcases hc with rfl | rfl | rfl | rfl | rfl | rfl | rfl | rfl <;> simp [tyX5, defaultValue, vp_V, zfl, zfv, ztl, e1, e2, va_rf]
theorem zbornX6 {ad : Nat → Nat} (M : ZM) (r : Nat) : ∀ j, j < 7 → defaultValue (tyX6 j) = vp_V (zfl ad (zclr M r) r 0 (ztl 6)) j := by
  intro j hj
  have e1 : ∀ k, zI (zclr M r) r k = 0 := fun k => if_pos rfl
  have e2 : ∀ k, zR (zclr M r) r k = none := fun k => if_pos rfl
  have hc : j = 0 ∨ j = 1 ∨ j = 2 ∨ j = 3 ∨ j = 4 ∨ j = 5 ∨ j = 6 := by omega
  rcases hc with rfl | rfl | rfl | rfl | rfl | rfl | rfl <;> simp [tyX6, defaultValue, vp_V, zfl, zfv, ztl, e1, e2, va_rf]
theorem zbornX7 {ad : Nat → Nat} (M : ZM) (r : Nat) : ∀ j, j < 1 → defaultValue (tyX7 j) = vp_V (zfl ad (zclr M r) r 0 (ztl 7)) j := by
  intro j hj
  have e1 : ∀ k, zI (zclr M r) r k = 0 := fun k => if_pos rfl
  have e2 : ∀ k, zR (zclr M r) r k = none := fun k => if_pos rfl
  have hc : j = 0 := by omega
  rcases hc with rfl <;> simp [tyX7, defaultValue, vp_V, zfl, zfv, ztl, e1, e2, va_rf]
def kA_X0_init (K : Nat → Nat) (x0 : Nat) : Nat → Nat := (zmu K (x0 + 1 + 0) 7 16 12)
def lA_X0_init (len : Nat → Nat) (x0 : Nat) : Nat → Nat := (zmu len (x0 + 1 + 0) 7 7 7)
def f_X0_init (N : Nat) (K len : Nat → Nat) (x0 : Nat) (M : ZM) : Option ZM :=
zg ((zmu K (x0 + 1 + 0) 7 16 12) x0 == 1) (
zl (zsR (zclm M (x0 + 1 + 0) 7) x0 0 (some (x0 + 1 + 0))) fun M2 => (
zl (zsI M2 x0 1 (0 : Int32)) fun M4 => (
some M4)))
set_option maxRecDepth 100000 in
set_option maxHeartbeats 3000000 in
theorem m_X0_init (l : Launch) {D : va_G} {cy : Nat → ClassId} {ad : Nat → Nat} {L : List Nat} {K len : Nat → Nat} (hL : zSh ad L K) (N : Nat) {x0 : Nat} {M Mr : ZM} (h : f_X0_init N K len x0 M = some Mr) (sz : Nat) (had : ∀ i, i < 8 → ad (x0 + 1 + i) = sz + i) : Met l yX0_init wsX0_init ({ frames := 1, cells := 8, slots := 56, locals := 24 } : Room) (zPre D cy ad L K len sz [.ref (ad x0)] M) (zQn D cy ad L (x0 + 1) 8 (kA_X0_init K x0) (lA_X0_init len x0) Mr sz) 8 56 (zA ad L sz) := by
  refine z_nentry (Qf := fun sz => zQn D cy ad L (x0 + 1) 8 (kA_X0_init K x0) (lA_X0_init len x0) Mr sz) (av := [.ref (ad x0)]) (by decide) rfl rfl rfl hL (Nat.le_of_ble_eq_true rfl) (fun p e s m args below meth c hsz hin C0 H locs ls hW hS hl => ?_)
  subst hsz
  obtain ⟨hx, hb, hr, hml, hown, hts, hlocks, hK, hL, hE⟩ := id C0
  have hinX0 : ∀ w ∈ wsX00, w ∈ wsX0_init := by decide +kernel
  unfold f_X0_init at h
  have hm := zmem_0 (L := L) (lo := x0 + 1)
  refine lv_aload_n hx hb dX0_init_0 rfl (lv_at hl 0 rfl) ?_
  refine W.objInit hx hb hown (hts (.methodLink RX0 3 objectInit) (by decide +kernel)) (hts (.instanceMethod objectInit) (by decide +kernel)) (hts (.code objectInit ⟨#[0xb1]⟩ 1 none) (by decide +kernel)) rfl (by rw [hml]; exact hl.1) rfl dX0_init_1 (Nat.le_of_ble_eq_true rfl) (Nat.le_of_ble_eq_true rfl) ?_
  refine W.eq (g2 := F0 m 4 ls []) rfl ?_
  refine lv_aload_n hx hb dX0_init_4 rfl (lv_at hl 0 rfl) ?_
  refine lv_bipush (v := 7) hx hb dX0_init_5 (by decide) ?_
  refine lv_bipush (v := 7) hx hb dX0_init_7 (by decide) ?_
  refine z_size (by have := hS.1; omega) (fun hz => ?_)
  refine z_mna (ty := .long) (own := RX0) hx hb 16 12 (Or.inr ⟨rfl, rfl, rfl⟩) hown (hts (.classLink RX0 9 "[[J") (by decide +kernel)) hE.2.2.2.2.2.1.2.2 (hts (.arrayClass .long) (by decide +kernel)) hK hL hW hS (n := 7) (k := 7) (N' := 7) (K' := 7) (by decide +kernel) (by decide +kernel) (by decide +kernel) (by decide +kernel) (x0 + 1 + 0) (fun i hi => by have h9 := had (0 + i) (by omega); rw [show x0 + 1 + (0 + i) = x0 + 1 + 0 + i from by omega] at h9; omega) (by decide +kernel) (by decide +kernel) (by decide +kernel) (by decide +kernel) (by decide +kernel) dX0_init_9 (fun H _ _ hL hW hS => ?_)
  have hm := zmem_n (n := 7) hm
  generalize L ++ zrs (x0 + 1 + 0) 7 = L8 at hm hL hW hS ⊢
  refine W.widen (k := 8) (n := 56) (by omega) (by omega) ?_
  obtain ⟨g1, h⟩ := zg_some h
  refine z_putF (own := RX0) (C := RX0) (T := TX0) (N := 2) (ci := 0) (v := .ref (ad (x0 + 1 + 0))) (M' := zsR (zclm M (x0 + 1 + 0) 7) x0 0 (some (x0 + 1 + 0))) hx hb hts hinX0 tyX0 tyX0_ok nmX0 hown hK hL hW hS 0 (zK_of g1) rfl (by decide) (by decide) rfl (hts (.fieldLink RX0 11 "ArcLight$ArcKeys" "keys" "[[J") (by decide +kernel)) rfl hin rfl (ty := .array (.array (.long))) (by decide +kernel) rfl rfl (Nat.le_of_ble_eq_true rfl) dX0_init_13 (zM_R (zK_of g1) (by decide) rfl) (fun H locs hW hS => ?_)
  obtain ⟨M2, eM3, h⟩ := zl_some h
  rw [← eM3] at hW
  refine lv_aload_n hx hb dX0_init_16 rfl (lv_at hl 0 rfl) ?_
  refine lv_iconst (v := 0) hx hb dX0_init_17 (by decide) ?_
  refine z_put (own := RX0) (C := RX0) (T := TX0) (N := 2) (ci := 0) (v := .int (0 : Int32)) (M' := zsI M2 x0 1 (0 : Int32)) hx hb hts hinX0 tyX0 tyX0_ok nmX0 hown hK hL hW hS 1 (zK_of g1) rfl (by decide) (by decide) rfl (hts (.fieldLink RX0 16 "ArcLight$ArcKeys" "last" "I") (by decide +kernel)) rfl (ty := .int) (by decide +kernel) rfl rfl (Nat.le_of_ble_eq_true rfl) dX0_init_18 (zM_I (zK_of g1) (by decide) rfl) (fun H locs hW hS => ?_)
  obtain ⟨M4, eM5, h⟩ := zl_some h
  rw [← eM5] at hW
  exact z_nret hx hb hr hlocks hm had hL hW hS (Option.some.inj h) dX0_init_21
def kA_X1_init (K : Nat → Nat) (x0 : Nat) : Nat → Nat := (va_up (va_up (zmu (zmu K (x0 + 1 + 0) 7 16 12) (x0 + 1 + 8) 7 16 12) (x0 + 1 + 16) 11) (x0 + 1 + 17) 11)
def lA_X1_init (len : Nat → Nat) (x0 : Nat) : Nat → Nat := (va_up (va_up (zmu (zmu len (x0 + 1 + 0) 7 7 7) (x0 + 1 + 8) 7 7 7) (x0 + 1 + 16) 7) (x0 + 1 + 17) 7)
def f_X1_init (N : Nat) (K len : Nat → Nat) (x0 : Nat) (M : ZM) : Option ZM :=
zg ((zmu K (x0 + 1 + 0) 7 16 12) x0 == 2) (
zl (zsR (zclm M (x0 + 1 + 0) 7) x0 0 (some (x0 + 1 + 0))) fun M2 => (
zg ((zmu (zmu K (x0 + 1 + 0) 7 16 12) (x0 + 1 + 8) 7 16 12) x0 == 2) (
zl (zsR (zclm M2 (x0 + 1 + 8) 7) x0 1 (some (x0 + 1 + 8))) fun M5 => (
zg ((va_up (zmu (zmu K (x0 + 1 + 0) 7 16 12) (x0 + 1 + 8) 7 16 12) (x0 + 1 + 16) 11) x0 == 2) (
zl (zsR (zclr M5 (x0 + 1 + 16)) x0 2 (some (x0 + 1 + 16))) fun M8 => (
zg ((va_up (va_up (zmu (zmu K (x0 + 1 + 0) 7 16 12) (x0 + 1 + 8) 7 16 12) (x0 + 1 + 16) 11) (x0 + 1 + 17) 11) x0 == 2) (
zl (zsR (zclr M8 (x0 + 1 + 17)) x0 3 (some (x0 + 1 + 17))) fun M11 => (
zl (zsI M11 x0 4 (0 : Int32)) fun M13 => (
some M13)))))))))
set_option maxRecDepth 100000 in
set_option maxHeartbeats 3000000 in
theorem m_X1_init (l : Launch) {D : va_G} {cy : Nat → ClassId} {ad : Nat → Nat} {L : List Nat} {K len : Nat → Nat} (hL : zSh ad L K) (N : Nat) {x0 : Nat} {M Mr : ZM} (h : f_X1_init N K len x0 M = some Mr) (sz : Nat) (had : ∀ i, i < 18 → ad (x0 + 1 + i) = sz + i) : Met l yX1_init wsX1_init ({ frames := 1, cells := 18, slots := 126, locals := 24 } : Room) (zPre D cy ad L K len sz [.ref (ad x0)] M) (zQn D cy ad L (x0 + 1) 18 (kA_X1_init K x0) (lA_X1_init len x0) Mr sz) 18 126 (zA ad L sz) := by
  refine z_nentry (Qf := fun sz => zQn D cy ad L (x0 + 1) 18 (kA_X1_init K x0) (lA_X1_init len x0) Mr sz) (av := [.ref (ad x0)]) (by decide) rfl rfl rfl hL (Nat.le_of_ble_eq_true rfl) (fun p e s m args below meth c hsz hin C0 H locs ls hW hS hl => ?_)
  subst hsz
  obtain ⟨hx, hb, hr, hml, hown, hts, hlocks, hK, hL, hE⟩ := id C0
  have hinX1 : ∀ w ∈ wsX10, w ∈ wsX1_init := by decide +kernel
  unfold f_X1_init at h
  have hm := zmem_0 (L := L) (lo := x0 + 1)
  refine lv_aload_n hx hb dX1_init_0 rfl (lv_at hl 0 rfl) ?_
  refine W.objInit hx hb hown (hts (.methodLink RX1 3 objectInit) (by decide +kernel)) (hts (.instanceMethod objectInit) (by decide +kernel)) (hts (.code objectInit ⟨#[0xb1]⟩ 1 none) (by decide +kernel)) rfl (by rw [hml]; exact hl.1) rfl dX1_init_1 (Nat.le_of_ble_eq_true rfl) (Nat.le_of_ble_eq_true rfl) ?_
  refine W.eq (g2 := F0 m 4 ls []) rfl ?_
  refine lv_aload_n hx hb dX1_init_4 rfl (lv_at hl 0 rfl) ?_
  refine lv_bipush (v := 7) hx hb dX1_init_5 (by decide) ?_
  refine lv_bipush (v := 7) hx hb dX1_init_7 (by decide) ?_
  refine z_size (by have := hS.1; omega) (fun hz => ?_)
  refine z_mna (ty := .long) (own := RX1) hx hb 16 12 (Or.inr ⟨rfl, rfl, rfl⟩) hown (hts (.classLink RX1 9 "[[J") (by decide +kernel)) hE.2.2.2.2.2.1.2.2 (hts (.arrayClass .long) (by decide +kernel)) hK hL hW hS (n := 7) (k := 7) (N' := 7) (K' := 7) (by decide +kernel) (by decide +kernel) (by decide +kernel) (by decide +kernel) (x0 + 1 + 0) (fun i hi => by have h9 := had (0 + i) (by omega); rw [show x0 + 1 + (0 + i) = x0 + 1 + 0 + i from by omega] at h9; omega) (by decide +kernel) (by decide +kernel) (by decide +kernel) (by decide +kernel) (by decide +kernel) dX1_init_9 (fun H _ _ hL hW hS => ?_)
  have hm := zmem_n (n := 7) hm
  generalize L ++ zrs (x0 + 1 + 0) 7 = L8 at hm hL hW hS ⊢
  refine W.widen (k := 8) (n := 56) (by omega) (by omega) ?_
  obtain ⟨g1, h⟩ := zg_some h
  refine z_put (own := RX1) (C := RX1) (T := TX1) (N := 5) (ci := 1) (v := .ref (ad (x0 + 1 + 0))) (M' := zsR (zclm M (x0 + 1 + 0) 7) x0 0 (some (x0 + 1 + 0))) hx hb hts hinX1 tyX1 tyX1_ok nmX1 hown hK hL hW hS 0 (zK_of g1) rfl (by decide) (by decide) rfl (hts (.fieldLink RX1 11 "ArcLight$Circles" "keys" "[[J") (by decide +kernel)) rfl (ty := .array (.array (.long))) (by decide +kernel) rfl rfl (Nat.le_of_ble_eq_true rfl) dX1_init_13 (zM_R (zK_of g1) (by decide) rfl) (fun H locs hW hS => ?_)
  obtain ⟨M2, eM3, h⟩ := zl_some h
  rw [← eM3] at hW
  refine lv_aload_n hx hb dX1_init_16 rfl (lv_at hl 0 rfl) ?_
  refine lv_bipush (v := 7) hx hb dX1_init_17 (by decide) ?_
  refine lv_bipush (v := 7) hx hb dX1_init_19 (by decide) ?_
  refine z_size (by have h9 := zWd_lt hW ((hm (x0 + 1 + 7)).mpr (Or.inr ⟨by omega, by omega⟩)); have h8 := had 7 (by decide); omega) (fun hz => ?_)
  refine z_mna (ty := .long) (own := RX1) hx hb 16 12 (Or.inr ⟨rfl, rfl, rfl⟩) hown (hts (.classLink RX1 9 "[[J") (by decide +kernel)) hE.2.2.2.2.2.1.2.2 (hts (.arrayClass .long) (by decide +kernel)) hK hL hW hS (n := 7) (k := 7) (N' := 7) (K' := 7) (by decide +kernel) (by decide +kernel) (by decide +kernel) (by decide +kernel) (x0 + 1 + 8) (fun i hi => by have h9 := had (8 + i) (by omega); rw [show x0 + 1 + (8 + i) = x0 + 1 + 8 + i from by omega] at h9; omega) (by decide +kernel) (by decide +kernel) (by decide +kernel) (by decide +kernel) (by decide +kernel) dX1_init_21 (fun H _ _ hL hW hS => ?_)
  have hm := zmem_n (n := 7) hm
  generalize L8 ++ zrs (x0 + 1 + 8) 7 = L16 at hm hL hW hS ⊢
  refine W.widen (k := 16) (n := 112) (by omega) (by omega) ?_
  obtain ⟨g4, h⟩ := zg_some h
  refine z_put (own := RX1) (C := RX1) (T := TX1) (N := 5) (ci := 1) (v := .ref (ad (x0 + 1 + 8))) (M' := zsR (zclm M2 (x0 + 1 + 8) 7) x0 1 (some (x0 + 1 + 8))) hx hb hts hinX1 tyX1 tyX1_ok nmX1 hown hK hL hW hS 1 (zK_of g4) rfl (by decide) (by decide) rfl (hts (.fieldLink RX1 16 "ArcLight$Circles" "contracted" "[[J") (by decide +kernel)) rfl (ty := .array (.array (.long))) (by decide +kernel) rfl rfl (Nat.le_of_ble_eq_true rfl) dX1_init_25 (zM_R (zK_of g4) (by decide) rfl) (fun H locs hW hS => ?_)
  obtain ⟨M5, eM6, h⟩ := zl_some h
  rw [← eM6] at hW
  refine lv_aload_n hx hb dX1_init_28 rfl (lv_at hl 0 rfl) ?_
  refine lv_bipush (v := 7) hx hb dX1_init_29 (by decide) ?_
  refine z_size (by have h9 := zWd_lt hW ((hm (x0 + 1 + 15)).mpr (Or.inr ⟨by omega, by omega⟩)); have h8 := had 15 (by decide); omega) (fun hz => ?_)
  refine z_newa (atype := .int) hx hb (hts (.arrayClass .int) (by decide +kernel)) 11 (Or.inl ⟨rfl, rfl⟩) hK hL hW hS (x0 + 1 + 16) (by have h9 := had 16 (by decide); omega) (n := 7) (N' := 7) (by decide +kernel) (by decide +kernel) (by decide +kernel) (by decide +kernel) (by decide +kernel) dX1_init_31 (fun H _ _ hL hW hS => ?_)
  have hm := zmem_1 hm
  generalize L16 ++ [(x0 + 1 + 16)] = L17 at hm hL hW hS ⊢
  refine W.widen (k := 17) (n := 119) (by omega) (by omega) ?_
  obtain ⟨g7, h⟩ := zg_some h
  refine z_putF (own := RX1) (C := RX1) (T := TX1) (N := 5) (ci := 1) (v := .ref (ad (x0 + 1 + 16))) (M' := zsR (zclr M5 (x0 + 1 + 16)) x0 2 (some (x0 + 1 + 16))) hx hb hts hinX1 tyX1 tyX1_ok nmX1 hown hK hL hW hS 2 (zK_of g7) rfl (by decide) (by decide) rfl (hts (.fieldLink RX1 19 "ArcLight$Circles" "taken" "[I") (by decide +kernel)) rfl hin rfl (ty := .array (.int)) (by decide +kernel) rfl rfl (Nat.le_of_ble_eq_true rfl) dX1_init_33 (zM_R (zK_of g7) (by decide) rfl) (fun H locs hW hS => ?_)
  obtain ⟨M8, eM9, h⟩ := zl_some h
  rw [← eM9] at hW
  refine lv_aload_n hx hb dX1_init_36 rfl (lv_at hl 0 rfl) ?_
  refine lv_bipush (v := 7) hx hb dX1_init_37 (by decide) ?_
  refine z_size (by have h9 := zWd_lt hW ((hm (x0 + 1 + 16)).mpr (Or.inr ⟨by omega, by omega⟩)); have h8 := had 16 (by decide); omega) (fun hz => ?_)
  refine z_newa (atype := .int) hx hb (hts (.arrayClass .int) (by decide +kernel)) 11 (Or.inl ⟨rfl, rfl⟩) hK hL hW hS (x0 + 1 + 17) (by have h9 := had 17 (by decide); omega) (n := 7) (N' := 7) (by decide +kernel) (by decide +kernel) (by decide +kernel) (by decide +kernel) (by decide +kernel) dX1_init_39 (fun H _ _ hL hW hS => ?_)
  have hm := zmem_1 hm
  generalize L17 ++ [(x0 + 1 + 17)] = L18 at hm hL hW hS ⊢
  refine W.widen (k := 18) (n := 126) (by omega) (by omega) ?_
  obtain ⟨g10, h⟩ := zg_some h
  refine z_putF (own := RX1) (C := RX1) (T := TX1) (N := 5) (ci := 1) (v := .ref (ad (x0 + 1 + 17))) (M' := zsR (zclr M8 (x0 + 1 + 17)) x0 3 (some (x0 + 1 + 17))) hx hb hts hinX1 tyX1 tyX1_ok nmX1 hown hK hL hW hS 3 (zK_of g10) rfl (by decide) (by decide) rfl (hts (.fieldLink RX1 23 "ArcLight$Circles" "groups" "[I") (by decide +kernel)) rfl hin rfl (ty := .array (.int)) (by decide +kernel) rfl rfl (Nat.le_of_ble_eq_true rfl) dX1_init_41 (zM_R (zK_of g10) (by decide) rfl) (fun H locs hW hS => ?_)
  obtain ⟨M11, eM12, h⟩ := zl_some h
  rw [← eM12] at hW
  refine lv_aload_n hx hb dX1_init_44 rfl (lv_at hl 0 rfl) ?_
  refine lv_iconst (v := 0) hx hb dX1_init_45 (by decide) ?_
  refine z_put (own := RX1) (C := RX1) (T := TX1) (N := 5) (ci := 1) (v := .int (0 : Int32)) (M' := zsI M11 x0 4 (0 : Int32)) hx hb hts hinX1 tyX1 tyX1_ok nmX1 hown hK hL hW hS 4 (zK_of g10) rfl (by decide) (by decide) rfl (hts (.fieldLink RX1 26 "ArcLight$Circles" "nodes" "I") (by decide +kernel)) rfl (ty := .int) (by decide +kernel) rfl rfl (Nat.le_of_ble_eq_true rfl) dX1_init_46 (zM_I (zK_of g10) (by decide) rfl) (fun H locs hW hS => ?_)
  obtain ⟨M13, eM14, h⟩ := zl_some h
  rw [← eM14] at hW
  exact z_nret hx hb hr hlocks hm had hL hW hS (Option.some.inj h) dX1_init_49
def kA_X2_init (K : Nat → Nat) (x0 : Nat) : Nat → Nat := (zmu (va_up (va_up K (x0 + 1 + 0) 11) (x0 + 1 + 1) 11) (x0 + 1 + 2) 7 15 11)
def lA_X2_init (len : Nat → Nat) (x0 : Nat) : Nat → Nat := (zmu (va_up (va_up len (x0 + 1 + 0) 7) (x0 + 1 + 1) 7) (x0 + 1 + 2) 7 7 7)
def f_X2_init (N : Nat) (K len : Nat → Nat) (x0 : Nat) (M : ZM) : Option ZM :=
zg ((va_up K (x0 + 1 + 0) 11) x0 == 3) (
zl (zsR (zclr M (x0 + 1 + 0)) x0 0 (some (x0 + 1 + 0))) fun M2 => (
zg ((va_up (va_up K (x0 + 1 + 0) 11) (x0 + 1 + 1) 11) x0 == 3) (
zl (zsR (zclr M2 (x0 + 1 + 1)) x0 1 (some (x0 + 1 + 1))) fun M5 => (
zg ((zmu (va_up (va_up K (x0 + 1 + 0) 11) (x0 + 1 + 1) 11) (x0 + 1 + 2) 7 15 11) x0 == 3) (
zl (zsR (zclm M5 (x0 + 1 + 2) 7) x0 2 (some (x0 + 1 + 2))) fun M8 => (
zl (zsI M8 x0 3 (0 : Int32)) fun M10 => (
(zR M10 x0 0).bind fun b12 => (
zg (zok (zmu (va_up (va_up K (x0 + 1 + 0) 11) (x0 + 1 + 1) 11) (x0 + 1 + 2) 7 15 11) (zmu (va_up (va_up len (x0 + 1 + 0) 7) (x0 + 1 + 1) 7) (x0 + 1 + 2) 7 7 7) b12 11 (0 : Int32)) (
zl (zsI M10 b12 (0 : Int32).toNatClampNeg (4 : Int32)) fun M15 => (
(zR M15 x0 1).bind fun b17 => (
(f_J7_fill_53178 N (zmu (va_up (va_up K (x0 + 1 + 0) 11) (x0 + 1 + 1) 11) (x0 + 1 + 2) 7 15 11) (zmu (va_up (va_up len (x0 + 1 + 0) 7) (x0 + 1 + 1) 7) (x0 + 1 + 2) 7 7 7) b17 (-1 : Int32) M15).bind fun M19 => (
some M19))))))))))))
set_option maxRecDepth 100000 in
set_option maxHeartbeats 3000000 in
theorem m_X2_init (l : Launch) {D : va_G} {cy : Nat → ClassId} {ad : Nat → Nat} {L : List Nat} {K len : Nat → Nat} (hL : zSh ad L K) (N : Nat) {x0 : Nat} {M Mr : ZM} (h : f_X2_init N K len x0 M = some Mr) (sz : Nat) (had : ∀ i, i < 10 → ad (x0 + 1 + i) = sz + i) : Met l yX2_init wsX2_init ({ frames := 1, cells := 10, slots := 70, locals := 24 } : Room) (zPre D cy ad L K len sz [.ref (ad x0)] M) (zQn D cy ad L (x0 + 1) 10 (kA_X2_init K x0) (lA_X2_init len x0) Mr sz) 10 70 (zA ad L sz) := by
  refine z_nentry (Qf := fun sz => zQn D cy ad L (x0 + 1) 10 (kA_X2_init K x0) (lA_X2_init len x0) Mr sz) (av := [.ref (ad x0)]) (by decide) rfl rfl rfl hL (Nat.le_of_ble_eq_true rfl) (fun p e s m args below meth c hsz hin C0 H locs ls hW hS hl => ?_)
  subst hsz
  obtain ⟨hx, hb, hr, hml, hown, hts, hlocks, hK, hL, hE⟩ := id C0
  have hinX2 : ∀ w ∈ wsX20, w ∈ wsX2_init := by decide +kernel
  unfold f_X2_init at h
  have hm := zmem_0 (L := L) (lo := x0 + 1)
  refine lv_aload_n hx hb dX2_init_0 rfl (lv_at hl 0 rfl) ?_
  refine W.objInit hx hb hown (hts (.methodLink RX2 3 objectInit) (by decide +kernel)) (hts (.instanceMethod objectInit) (by decide +kernel)) (hts (.code objectInit ⟨#[0xb1]⟩ 1 none) (by decide +kernel)) rfl (by rw [hml]; exact hl.1) rfl dX2_init_1 (Nat.le_of_ble_eq_true rfl) (Nat.le_of_ble_eq_true rfl) ?_
  refine W.eq (g2 := F0 m 4 ls []) rfl ?_
  refine lv_aload_n hx hb dX2_init_4 rfl (lv_at hl 0 rfl) ?_
  refine lv_bipush (v := 7) hx hb dX2_init_5 (by decide) ?_
  refine z_size (by have := hS.1; omega) (fun hz => ?_)
  refine z_newa (atype := .int) hx hb (hts (.arrayClass .int) (by decide +kernel)) 11 (Or.inl ⟨rfl, rfl⟩) hK hL hW hS (x0 + 1 + 0) (by have h9 := had 0 (by decide); omega) (n := 7) (N' := 7) (by decide +kernel) (by decide +kernel) (by decide +kernel) (by decide +kernel) (by decide +kernel) dX2_init_7 (fun H _ _ hL hW hS => ?_)
  have hm := zmem_1 hm
  generalize L ++ [(x0 + 1 + 0)] = L1 at hm hL hW hS ⊢
  refine W.widen (k := 1) (n := 7) (by omega) (by omega) ?_
  obtain ⟨g1, h⟩ := zg_some h
  refine z_putF (own := RX2) (C := RX2) (T := TX2) (N := 4) (ci := 2) (v := .ref (ad (x0 + 1 + 0))) (M' := zsR (zclr M (x0 + 1 + 0)) x0 0 (some (x0 + 1 + 0))) hx hb hts hinX2 tyX2 tyX2_ok nmX2 hown hK hL hW hS 0 (zK_of g1) rfl (by decide) (by decide) rfl (hts (.fieldLink RX2 9 "ArcLight$Sentence" "kinds" "[I") (by decide +kernel)) rfl hin rfl (ty := .array (.int)) (by decide +kernel) rfl rfl (Nat.le_of_ble_eq_true rfl) dX2_init_9 (zM_R (zK_of g1) (by decide) rfl) (fun H locs hW hS => ?_)
  obtain ⟨M2, eM3, h⟩ := zl_some h
  rw [← eM3] at hW
  refine lv_aload_n hx hb dX2_init_12 rfl (lv_at hl 0 rfl) ?_
  refine lv_bipush (v := 7) hx hb dX2_init_13 (by decide) ?_
  refine z_size (by have h9 := zWd_lt hW ((hm (x0 + 1 + 0)).mpr (Or.inr ⟨by omega, by omega⟩)); have h8 := had 0 (by decide); omega) (fun hz => ?_)
  refine z_newa (atype := .int) hx hb (hts (.arrayClass .int) (by decide +kernel)) 11 (Or.inl ⟨rfl, rfl⟩) hK hL hW hS (x0 + 1 + 1) (by have h9 := had 1 (by decide); omega) (n := 7) (N' := 7) (by decide +kernel) (by decide +kernel) (by decide +kernel) (by decide +kernel) (by decide +kernel) dX2_init_15 (fun H _ _ hL hW hS => ?_)
  have hm := zmem_1 hm
  generalize L1 ++ [(x0 + 1 + 1)] = L2 at hm hL hW hS ⊢
  refine W.widen (k := 2) (n := 14) (by omega) (by omega) ?_
  obtain ⟨g4, h⟩ := zg_some h
  refine z_putF (own := RX2) (C := RX2) (T := TX2) (N := 4) (ci := 2) (v := .ref (ad (x0 + 1 + 1))) (M' := zsR (zclr M2 (x0 + 1 + 1)) x0 1 (some (x0 + 1 + 1))) hx hb hts hinX2 tyX2 tyX2_ok nmX2 hown hK hL hW hS 1 (zK_of g4) rfl (by decide) (by decide) rfl (hts (.fieldLink RX2 15 "ArcLight$Sentence" "rightHeads" "[I") (by decide +kernel)) rfl hin rfl (ty := .array (.int)) (by decide +kernel) rfl rfl (Nat.le_of_ble_eq_true rfl) dX2_init_17 (zM_R (zK_of g4) (by decide) rfl) (fun H locs hW hS => ?_)
  obtain ⟨M5, eM6, h⟩ := zl_some h
  rw [← eM6] at hW
  refine lv_aload_n hx hb dX2_init_20 rfl (lv_at hl 0 rfl) ?_
  refine lv_bipush (v := 7) hx hb dX2_init_21 (by decide) ?_
  refine lv_bipush (v := 7) hx hb dX2_init_23 (by decide) ?_
  refine z_size (by have h9 := zWd_lt hW ((hm (x0 + 1 + 1)).mpr (Or.inr ⟨by omega, by omega⟩)); have h8 := had 1 (by decide); omega) (fun hz => ?_)
  refine z_mna (ty := .int) (own := RX2) hx hb 15 11 (Or.inl ⟨rfl, rfl, rfl⟩) hown (hts (.classLink RX2 18 "[[I") (by decide +kernel)) hE.2.2.2.2.2.1.2.1 (hts (.arrayClass .int) (by decide +kernel)) hK hL hW hS (n := 7) (k := 7) (N' := 7) (K' := 7) (by decide +kernel) (by decide +kernel) (by decide +kernel) (by decide +kernel) (x0 + 1 + 2) (fun i hi => by have h9 := had (2 + i) (by omega); rw [show x0 + 1 + (2 + i) = x0 + 1 + 2 + i from by omega] at h9; omega) (by decide +kernel) (by decide +kernel) (by decide +kernel) (by decide +kernel) (by decide +kernel) dX2_init_25 (fun H _ _ hL hW hS => ?_)
  have hm := zmem_n (n := 7) hm
  generalize L2 ++ zrs (x0 + 1 + 2) 7 = L10 at hm hL hW hS ⊢
  refine W.widen (k := 10) (n := 70) (by omega) (by omega) ?_
  obtain ⟨g7, h⟩ := zg_some h
  refine z_putF (own := RX2) (C := RX2) (T := TX2) (N := 4) (ci := 2) (v := .ref (ad (x0 + 1 + 2))) (M' := zsR (zclm M5 (x0 + 1 + 2) 7) x0 2 (some (x0 + 1 + 2))) hx hb hts hinX2 tyX2 tyX2_ok nmX2 hown hK hL hW hS 2 (zK_of g7) rfl (by decide) (by decide) rfl (hts (.fieldLink RX2 20 "ArcLight$Sentence" "marks" "[[I") (by decide +kernel)) rfl hin rfl (ty := .array (.array (.int))) (by decide +kernel) rfl rfl (Nat.le_of_ble_eq_true rfl) dX2_init_29 (zM_R (zK_of g7) (by decide) rfl) (fun H locs hW hS => ?_)
  obtain ⟨M8, eM9, h⟩ := zl_some h
  rw [← eM9] at hW
  refine lv_aload_n hx hb dX2_init_32 rfl (lv_at hl 0 rfl) ?_
  refine lv_iconst (v := 0) hx hb dX2_init_33 (by decide) ?_
  refine z_put (own := RX2) (C := RX2) (T := TX2) (N := 4) (ci := 2) (v := .int (0 : Int32)) (M' := zsI M8 x0 3 (0 : Int32)) hx hb hts hinX2 tyX2 tyX2_ok nmX2 hown hK hL hW hS 3 (zK_of g7) rfl (by decide) (by decide) rfl (hts (.fieldLink RX2 23 "ArcLight$Sentence" "last" "I") (by decide +kernel)) rfl (ty := .int) (by decide +kernel) rfl rfl (Nat.le_of_ble_eq_true rfl) dX2_init_34 (zM_I (zK_of g7) (by decide) rfl) (fun H locs hW hS => ?_)
  obtain ⟨M10, eM11, h⟩ := zl_some h
  rw [← eM11] at hW
  refine lv_aload_n hx hb dX2_init_37 rfl (lv_at hl 0 rfl) ?_
  obtain ⟨b12, e13, h⟩ := zb_some h
  refine z_get (own := RX2) (C := RX2) (T := TX2) (N := 4) (ci := 2) hx hb hts hinX2 hown hK hL hW 0 (zK_of g7) rfl (by decide) (by decide) rfl (hts (.fieldLink RX2 9 "ArcLight$Sentence" "kinds" "[I") (by decide +kernel)) (v := .ref (ad b12)) (zhvR e13 rfl) dX2_init_38 ?_
  refine lv_iconst (v := 0) hx hb dX2_init_41 (by decide) ?_
  refine lv_iconst (v := 4) hx hb dX2_init_42 (by decide) ?_
  obtain ⟨g14, h⟩ := zg_some h
  refine z_iast hx hb hK hL hW hS g14 dX2_init_43 (fun H locs hW hS => ?_)
  obtain ⟨M15, eM16, h⟩ := zl_some h
  rw [← eM16] at hW
  refine lv_aload_n hx hb dX2_init_44 rfl (lv_at hl 0 rfl) ?_
  obtain ⟨b17, e18, h⟩ := zb_some h
  refine z_get (own := RX2) (C := RX2) (T := TX2) (N := 4) (ci := 2) hx hb hts hinX2 hown hK hL hW 1 (zK_of g7) rfl (by decide) (by decide) rfl (hts (.fieldLink RX2 15 "ArcLight$Sentence" "rightHeads" "[I") (by decide +kernel)) (v := .ref (ad b17)) (zhvR e18 rfl) dX2_init_45 ?_
  refine lv_iconst (v := -1) hx hb dX2_init_48 (by decide) ?_
  have hE1 := zEnv_narrow hE (zA_mem hm had (by decide : 10 ≤ 10))
  obtain ⟨M19, e20, h⟩ := zb_some h
  refine z_callv hS (va_runS (As := [.ref (ad b17), .int (-1 : Int32)]) (rest := []) ⟨hx, hb, hml, hown, hts⟩ (m_J7_fill_53178 l hL N e20 H.size) (va_cwS 2 hts gX2_init_J7_fill_53178 rfl rfl rfl (by decide +kernel) ⟨by decide +kernel, by decide +kernel⟩) (z_preS hK hE1 hW hS [.ref (ad b17), .int (-1 : Int32)]) rfl rfl hl.1 rfl (lv_room (Nat.le_of_ble_eq_true rfl)) dX2_init_49 ⟨by decide +kernel, by decide +kernel⟩) (fun H locs hW hS => ?_)
  exact z_nret hx hb hr hlocks hm had hL hW hS (Option.some.inj h) dX2_init_52
def kA_X3_init (K : Nat → Nat) (x0 : Nat) : Nat → Nat := (zmu (zmu (zmu (zmu K (x0 + 1 + 0) 7 16 12) (x0 + 1 + 8) 7 16 12) (x0 + 1 + 16) 7 16 12) (x0 + 1 + 24) 7 16 12)
def lA_X3_init (len : Nat → Nat) (x0 : Nat) : Nat → Nat := (zmu (zmu (zmu (zmu len (x0 + 1 + 0) 7 7 7) (x0 + 1 + 8) 7 7 7) (x0 + 1 + 16) 7 7 7) (x0 + 1 + 24) 7 7 7)
def f_X3_init (N : Nat) (K len : Nat → Nat) (x0 : Nat) (M : ZM) : Option ZM :=
zg ((zmu K (x0 + 1 + 0) 7 16 12) x0 == 4) (
zl (zsR (zclm M (x0 + 1 + 0) 7) x0 0 (some (x0 + 1 + 0))) fun M2 => (
zg ((zmu (zmu K (x0 + 1 + 0) 7 16 12) (x0 + 1 + 8) 7 16 12) x0 == 4) (
zl (zsR (zclm M2 (x0 + 1 + 8) 7) x0 1 (some (x0 + 1 + 8))) fun M5 => (
zg ((zmu (zmu (zmu K (x0 + 1 + 0) 7 16 12) (x0 + 1 + 8) 7 16 12) (x0 + 1 + 16) 7 16 12) x0 == 4) (
zl (zsR (zclm M5 (x0 + 1 + 16) 7) x0 2 (some (x0 + 1 + 16))) fun M8 => (
zg ((zmu (zmu (zmu (zmu K (x0 + 1 + 0) 7 16 12) (x0 + 1 + 8) 7 16 12) (x0 + 1 + 16) 7 16 12) (x0 + 1 + 24) 7 16 12) x0 == 4) (
zl (zsR (zclm M8 (x0 + 1 + 24) 7) x0 3 (some (x0 + 1 + 24))) fun M11 => (
some M11))))))))
set_option maxRecDepth 100000 in
set_option maxHeartbeats 3000000 in
theorem m_X3_init (l : Launch) {D : va_G} {cy : Nat → ClassId} {ad : Nat → Nat} {L : List Nat} {K len : Nat → Nat} (hL : zSh ad L K) (N : Nat) {x0 : Nat} {M Mr : ZM} (h : f_X3_init N K len x0 M = some Mr) (sz : Nat) (had : ∀ i, i < 32 → ad (x0 + 1 + i) = sz + i) : Met l yX3_init wsX3_init ({ frames := 1, cells := 32, slots := 224, locals := 24 } : Room) (zPre D cy ad L K len sz [.ref (ad x0)] M) (zQn D cy ad L (x0 + 1) 32 (kA_X3_init K x0) (lA_X3_init len x0) Mr sz) 32 224 (zA ad L sz) := by
  refine z_nentry (Qf := fun sz => zQn D cy ad L (x0 + 1) 32 (kA_X3_init K x0) (lA_X3_init len x0) Mr sz) (av := [.ref (ad x0)]) (by decide) rfl rfl rfl hL (Nat.le_of_ble_eq_true rfl) (fun p e s m args below meth c hsz hin C0 H locs ls hW hS hl => ?_)
  subst hsz
  obtain ⟨hx, hb, hr, hml, hown, hts, hlocks, hK, hL, hE⟩ := id C0
  have hinX3 : ∀ w ∈ wsX30, w ∈ wsX3_init := by decide +kernel
  unfold f_X3_init at h
  have hm := zmem_0 (L := L) (lo := x0 + 1)
  refine lv_aload_n hx hb dX3_init_0 rfl (lv_at hl 0 rfl) ?_
  refine W.objInit hx hb hown (hts (.methodLink RX3 3 objectInit) (by decide +kernel)) (hts (.instanceMethod objectInit) (by decide +kernel)) (hts (.code objectInit ⟨#[0xb1]⟩ 1 none) (by decide +kernel)) rfl (by rw [hml]; exact hl.1) rfl dX3_init_1 (Nat.le_of_ble_eq_true rfl) (Nat.le_of_ble_eq_true rfl) ?_
  refine W.eq (g2 := F0 m 4 ls []) rfl ?_
  refine lv_aload_n hx hb dX3_init_4 rfl (lv_at hl 0 rfl) ?_
  refine lv_bipush (v := 7) hx hb dX3_init_5 (by decide) ?_
  refine lv_bipush (v := 7) hx hb dX3_init_7 (by decide) ?_
  refine z_size (by have := hS.1; omega) (fun hz => ?_)
  refine z_mna (ty := .long) (own := RX3) hx hb 16 12 (Or.inr ⟨rfl, rfl, rfl⟩) hown (hts (.classLink RX3 9 "[[J") (by decide +kernel)) hE.2.2.2.2.2.1.2.2 (hts (.arrayClass .long) (by decide +kernel)) hK hL hW hS (n := 7) (k := 7) (N' := 7) (K' := 7) (by decide +kernel) (by decide +kernel) (by decide +kernel) (by decide +kernel) (x0 + 1 + 0) (fun i hi => by have h9 := had (0 + i) (by omega); rw [show x0 + 1 + (0 + i) = x0 + 1 + 0 + i from by omega] at h9; omega) (by decide +kernel) (by decide +kernel) (by decide +kernel) (by decide +kernel) (by decide +kernel) dX3_init_9 (fun H _ _ hL hW hS => ?_)
  have hm := zmem_n (n := 7) hm
  generalize L ++ zrs (x0 + 1 + 0) 7 = L8 at hm hL hW hS ⊢
  refine W.widen (k := 8) (n := 56) (by omega) (by omega) ?_
  obtain ⟨g1, h⟩ := zg_some h
  refine z_putF (own := RX3) (C := RX3) (T := TX3) (N := 4) (ci := 3) (v := .ref (ad (x0 + 1 + 0))) (M' := zsR (zclm M (x0 + 1 + 0) 7) x0 0 (some (x0 + 1 + 0))) hx hb hts hinX3 tyX3 tyX3_ok nmX3 hown hK hL hW hS 0 (zK_of g1) rfl (by decide) (by decide) rfl (hts (.fieldLink RX3 11 "ArcLight$Spans" "wholeFromLeft" "[[J") (by decide +kernel)) rfl hin rfl (ty := .array (.array (.long))) (by decide +kernel) rfl rfl (Nat.le_of_ble_eq_true rfl) dX3_init_13 (zM_R (zK_of g1) (by decide) rfl) (fun H locs hW hS => ?_)
  obtain ⟨M2, eM3, h⟩ := zl_some h
  rw [← eM3] at hW
  refine lv_aload_n hx hb dX3_init_16 rfl (lv_at hl 0 rfl) ?_
  refine lv_bipush (v := 7) hx hb dX3_init_17 (by decide) ?_
  refine lv_bipush (v := 7) hx hb dX3_init_19 (by decide) ?_
  refine z_size (by have h9 := zWd_lt hW ((hm (x0 + 1 + 7)).mpr (Or.inr ⟨by omega, by omega⟩)); have h8 := had 7 (by decide); omega) (fun hz => ?_)
  refine z_mna (ty := .long) (own := RX3) hx hb 16 12 (Or.inr ⟨rfl, rfl, rfl⟩) hown (hts (.classLink RX3 9 "[[J") (by decide +kernel)) hE.2.2.2.2.2.1.2.2 (hts (.arrayClass .long) (by decide +kernel)) hK hL hW hS (n := 7) (k := 7) (N' := 7) (K' := 7) (by decide +kernel) (by decide +kernel) (by decide +kernel) (by decide +kernel) (x0 + 1 + 8) (fun i hi => by have h9 := had (8 + i) (by omega); rw [show x0 + 1 + (8 + i) = x0 + 1 + 8 + i from by omega] at h9; omega) (by decide +kernel) (by decide +kernel) (by decide +kernel) (by decide +kernel) (by decide +kernel) dX3_init_21 (fun H _ _ hL hW hS => ?_)
  have hm := zmem_n (n := 7) hm
  generalize L8 ++ zrs (x0 + 1 + 8) 7 = L16 at hm hL hW hS ⊢
  refine W.widen (k := 16) (n := 112) (by omega) (by omega) ?_
  obtain ⟨g4, h⟩ := zg_some h
  refine z_putF (own := RX3) (C := RX3) (T := TX3) (N := 4) (ci := 3) (v := .ref (ad (x0 + 1 + 8))) (M' := zsR (zclm M2 (x0 + 1 + 8) 7) x0 1 (some (x0 + 1 + 8))) hx hb hts hinX3 tyX3 tyX3_ok nmX3 hown hK hL hW hS 1 (zK_of g4) rfl (by decide) (by decide) rfl (hts (.fieldLink RX3 16 "ArcLight$Spans" "wholeFromRight" "[[J") (by decide +kernel)) rfl hin rfl (ty := .array (.array (.long))) (by decide +kernel) rfl rfl (Nat.le_of_ble_eq_true rfl) dX3_init_25 (zM_R (zK_of g4) (by decide) rfl) (fun H locs hW hS => ?_)
  obtain ⟨M5, eM6, h⟩ := zl_some h
  rw [← eM6] at hW
  refine lv_aload_n hx hb dX3_init_28 rfl (lv_at hl 0 rfl) ?_
  refine lv_bipush (v := 7) hx hb dX3_init_29 (by decide) ?_
  refine lv_bipush (v := 7) hx hb dX3_init_31 (by decide) ?_
  refine z_size (by have h9 := zWd_lt hW ((hm (x0 + 1 + 15)).mpr (Or.inr ⟨by omega, by omega⟩)); have h8 := had 15 (by decide); omega) (fun hz => ?_)
  refine z_mna (ty := .long) (own := RX3) hx hb 16 12 (Or.inr ⟨rfl, rfl, rfl⟩) hown (hts (.classLink RX3 9 "[[J") (by decide +kernel)) hE.2.2.2.2.2.1.2.2 (hts (.arrayClass .long) (by decide +kernel)) hK hL hW hS (n := 7) (k := 7) (N' := 7) (K' := 7) (by decide +kernel) (by decide +kernel) (by decide +kernel) (by decide +kernel) (x0 + 1 + 16) (fun i hi => by have h9 := had (16 + i) (by omega); rw [show x0 + 1 + (16 + i) = x0 + 1 + 16 + i from by omega] at h9; omega) (by decide +kernel) (by decide +kernel) (by decide +kernel) (by decide +kernel) (by decide +kernel) dX3_init_33 (fun H _ _ hL hW hS => ?_)
  have hm := zmem_n (n := 7) hm
  generalize L16 ++ zrs (x0 + 1 + 16) 7 = L24 at hm hL hW hS ⊢
  refine W.widen (k := 24) (n := 168) (by omega) (by omega) ?_
  obtain ⟨g7, h⟩ := zg_some h
  refine z_putF (own := RX3) (C := RX3) (T := TX3) (N := 4) (ci := 3) (v := .ref (ad (x0 + 1 + 16))) (M' := zsR (zclm M5 (x0 + 1 + 16) 7) x0 2 (some (x0 + 1 + 16))) hx hb hts hinX3 tyX3 tyX3_ok nmX3 hown hK hL hW hS 2 (zK_of g7) rfl (by decide) (by decide) rfl (hts (.fieldLink RX3 19 "ArcLight$Spans" "openFromLeft" "[[J") (by decide +kernel)) rfl hin rfl (ty := .array (.array (.long))) (by decide +kernel) rfl rfl (Nat.le_of_ble_eq_true rfl) dX3_init_37 (zM_R (zK_of g7) (by decide) rfl) (fun H locs hW hS => ?_)
  obtain ⟨M8, eM9, h⟩ := zl_some h
  rw [← eM9] at hW
  refine lv_aload_n hx hb dX3_init_40 rfl (lv_at hl 0 rfl) ?_
  refine lv_bipush (v := 7) hx hb dX3_init_41 (by decide) ?_
  refine lv_bipush (v := 7) hx hb dX3_init_43 (by decide) ?_
  refine z_size (by have h9 := zWd_lt hW ((hm (x0 + 1 + 23)).mpr (Or.inr ⟨by omega, by omega⟩)); have h8 := had 23 (by decide); omega) (fun hz => ?_)
  refine z_mna (ty := .long) (own := RX3) hx hb 16 12 (Or.inr ⟨rfl, rfl, rfl⟩) hown (hts (.classLink RX3 9 "[[J") (by decide +kernel)) hE.2.2.2.2.2.1.2.2 (hts (.arrayClass .long) (by decide +kernel)) hK hL hW hS (n := 7) (k := 7) (N' := 7) (K' := 7) (by decide +kernel) (by decide +kernel) (by decide +kernel) (by decide +kernel) (x0 + 1 + 24) (fun i hi => by have h9 := had (24 + i) (by omega); rw [show x0 + 1 + (24 + i) = x0 + 1 + 24 + i from by omega] at h9; omega) (by decide +kernel) (by decide +kernel) (by decide +kernel) (by decide +kernel) (by decide +kernel) dX3_init_45 (fun H _ _ hL hW hS => ?_)
  have hm := zmem_n (n := 7) hm
  generalize L24 ++ zrs (x0 + 1 + 24) 7 = L32 at hm hL hW hS ⊢
  refine W.widen (k := 32) (n := 224) (by omega) (by omega) ?_
  obtain ⟨g10, h⟩ := zg_some h
  refine z_putF (own := RX3) (C := RX3) (T := TX3) (N := 4) (ci := 3) (v := .ref (ad (x0 + 1 + 24))) (M' := zsR (zclm M8 (x0 + 1 + 24) 7) x0 3 (some (x0 + 1 + 24))) hx hb hts hinX3 tyX3 tyX3_ok nmX3 hown hK hL hW hS 3 (zK_of g10) rfl (by decide) (by decide) rfl (hts (.fieldLink RX3 22 "ArcLight$Spans" "openFromRight" "[[J") (by decide +kernel)) rfl hin rfl (ty := .array (.array (.long))) (by decide +kernel) rfl rfl (Nat.le_of_ble_eq_true rfl) dX3_init_49 (zM_R (zK_of g10) (by decide) rfl) (fun H locs hW hS => ?_)
  obtain ⟨M11, eM12, h⟩ := zl_some h
  rw [← eM12] at hW
  exact z_nret hx hb hr hlocks hm had hL hW hS (Option.some.inj h) dX3_init_52
def kA_X4_init (K : Nat → Nat) (x0 : Nat) : Nat → Nat := (va_up (va_up K (x0 + 1 + 0) 12) (x0 + 1 + 1) 11)
def lA_X4_init (len : Nat → Nat) (x0 : Nat) : Nat → Nat := (va_up (va_up len (x0 + 1 + 0) 16807) (x0 + 1 + 1) 7)
def f_X4_init (N : Nat) (K len : Nat → Nat) (x0 : Nat) (M : ZM) : Option ZM :=
zg ((va_up K (x0 + 1 + 0) 12) x0 == 5) (
zl (zsR (zclr M (x0 + 1 + 0)) x0 0 (some (x0 + 1 + 0))) fun M2 => (
zg ((va_up (va_up K (x0 + 1 + 0) 12) (x0 + 1 + 1) 11) x0 == 5) (
zl (zsR (zclr M2 (x0 + 1 + 1)) x0 1 (some (x0 + 1 + 1))) fun M5 => (
zl (zsI M5 x0 2 (0 : Int32)) fun M7 => (
some M7)))))
set_option maxRecDepth 100000 in
set_option maxHeartbeats 3000000 in
theorem m_X4_init (l : Launch) {D : va_G} {cy : Nat → ClassId} {ad : Nat → Nat} {L : List Nat} {K len : Nat → Nat} (hL : zSh ad L K) (N : Nat) {x0 : Nat} {M Mr : ZM} (h : f_X4_init N K len x0 M = some Mr) (sz : Nat) (had : ∀ i, i < 2 → ad (x0 + 1 + i) = sz + i) : Met l yX4_init wsX4_init ({ frames := 1, cells := 2, slots := 16814, locals := 24 } : Room) (zPre D cy ad L K len sz [.ref (ad x0)] M) (zQn D cy ad L (x0 + 1) 2 (kA_X4_init K x0) (lA_X4_init len x0) Mr sz) 2 16814 (zA ad L sz) := by
  refine z_nentry (Qf := fun sz => zQn D cy ad L (x0 + 1) 2 (kA_X4_init K x0) (lA_X4_init len x0) Mr sz) (av := [.ref (ad x0)]) (by decide) rfl rfl rfl hL (Nat.le_of_ble_eq_true rfl) (fun p e s m args below meth c hsz hin C0 H locs ls hW hS hl => ?_)
  subst hsz
  obtain ⟨hx, hb, hr, hml, hown, hts, hlocks, hK, hL, hE⟩ := id C0
  have hinX4 : ∀ w ∈ wsX40, w ∈ wsX4_init := by decide +kernel
  unfold f_X4_init at h
  have hm := zmem_0 (L := L) (lo := x0 + 1)
  refine lv_aload_n hx hb dX4_init_0 rfl (lv_at hl 0 rfl) ?_
  refine W.objInit hx hb hown (hts (.methodLink RX4 3 objectInit) (by decide +kernel)) (hts (.instanceMethod objectInit) (by decide +kernel)) (hts (.code objectInit ⟨#[0xb1]⟩ 1 none) (by decide +kernel)) rfl (by rw [hml]; exact hl.1) rfl dX4_init_1 (Nat.le_of_ble_eq_true rfl) (Nat.le_of_ble_eq_true rfl) ?_
  refine W.eq (g2 := F0 m 4 ls []) rfl ?_
  refine lv_aload_n hx hb dX4_init_4 rfl (lv_at hl 0 rfl) ?_
  refine lv_sipush (v := 16807) hx hb dX4_init_5 (by decide) ?_
  refine z_size (by have := hS.1; omega) (fun hz => ?_)
  refine z_newa (atype := .long) hx hb (hts (.arrayClass .long) (by decide +kernel)) 12 (Or.inr ⟨rfl, rfl⟩) hK hL hW hS (x0 + 1 + 0) (by have h9 := had 0 (by decide); omega) (n := 16807) (N' := 16807) (by decide +kernel) (by decide +kernel) (by decide +kernel) (by decide +kernel) (by decide +kernel) dX4_init_8 (fun H _ _ hL hW hS => ?_)
  have hm := zmem_1 hm
  generalize L ++ [(x0 + 1 + 0)] = L1 at hm hL hW hS ⊢
  refine W.widen (k := 1) (n := 16807) (by omega) (by omega) ?_
  obtain ⟨g1, h⟩ := zg_some h
  refine z_putF (own := RX4) (C := RX4) (T := TX4) (N := 3) (ci := 4) (v := .ref (ad (x0 + 1 + 0))) (M' := zsR (zclr M (x0 + 1 + 0)) x0 0 (some (x0 + 1 + 0))) hx hb hts hinX4 tyX4 tyX4_ok nmX4 hown hK hL hW hS 0 (zK_of g1) rfl (by decide) (by decide) rfl (hts (.fieldLink RX4 9 "ArcLight$Trial" "keys" "[J") (by decide +kernel)) rfl hin rfl (ty := .array (.long)) (by decide +kernel) rfl rfl (Nat.le_of_ble_eq_true rfl) dX4_init_10 (zM_R (zK_of g1) (by decide) rfl) (fun H locs hW hS => ?_)
  obtain ⟨M2, eM3, h⟩ := zl_some h
  rw [← eM3] at hW
  refine lv_aload_n hx hb dX4_init_13 rfl (lv_at hl 0 rfl) ?_
  refine lv_bipush (v := 7) hx hb dX4_init_14 (by decide) ?_
  refine z_size (by have h9 := zWd_lt hW ((hm (x0 + 1 + 0)).mpr (Or.inr ⟨by omega, by omega⟩)); have h8 := had 0 (by decide); omega) (fun hz => ?_)
  refine z_newa (atype := .int) hx hb (hts (.arrayClass .int) (by decide +kernel)) 11 (Or.inl ⟨rfl, rfl⟩) hK hL hW hS (x0 + 1 + 1) (by have h9 := had 1 (by decide); omega) (n := 7) (N' := 7) (by decide +kernel) (by decide +kernel) (by decide +kernel) (by decide +kernel) (by decide +kernel) dX4_init_16 (fun H _ _ hL hW hS => ?_)
  have hm := zmem_1 hm
  generalize L1 ++ [(x0 + 1 + 1)] = L2 at hm hL hW hS ⊢
  refine W.widen (k := 2) (n := 16814) (by omega) (by omega) ?_
  obtain ⟨g4, h⟩ := zg_some h
  refine z_putF (own := RX4) (C := RX4) (T := TX4) (N := 3) (ci := 4) (v := .ref (ad (x0 + 1 + 1))) (M' := zsR (zclr M2 (x0 + 1 + 1)) x0 1 (some (x0 + 1 + 1))) hx hb hts hinX4 tyX4 tyX4_ok nmX4 hown hK hL hW hS 1 (zK_of g4) rfl (by decide) (by decide) rfl (hts (.fieldLink RX4 15 "ArcLight$Trial" "heads" "[I") (by decide +kernel)) rfl hin rfl (ty := .array (.int)) (by decide +kernel) rfl rfl (Nat.le_of_ble_eq_true rfl) dX4_init_18 (zM_R (zK_of g4) (by decide) rfl) (fun H locs hW hS => ?_)
  obtain ⟨M5, eM6, h⟩ := zl_some h
  rw [← eM6] at hW
  refine lv_aload_n hx hb dX4_init_21 rfl (lv_at hl 0 rfl) ?_
  refine lv_iconst (v := 0) hx hb dX4_init_22 (by decide) ?_
  refine z_put (own := RX4) (C := RX4) (T := TX4) (N := 3) (ci := 4) (v := .int (0 : Int32)) (M' := zsI M5 x0 2 (0 : Int32)) hx hb hts hinX4 tyX4 tyX4_ok nmX4 hown hK hL hW hS 2 (zK_of g4) rfl (by decide) (by decide) rfl (hts (.fieldLink RX4 19 "ArcLight$Trial" "found" "I") (by decide +kernel)) rfl (ty := .int) (by decide +kernel) rfl rfl (Nat.le_of_ble_eq_true rfl) dX4_init_23 (zM_I (zK_of g4) (by decide) rfl) (fun H locs hW hS => ?_)
  obtain ⟨M7, eM8, h⟩ := zl_some h
  rw [← eM8] at hW
  exact z_nret hx hb hr hlocks hm had hL hW hS (Option.some.inj h) dX4_init_26
def kA_X5_init (K : Nat → Nat) (x0 : Nat) : Nat → Nat := (va_up (zmu (zmu (va_up (va_up K (x0 + 1 + 0) 11) (x0 + 1 + 1) 12) (x0 + 1 + 2) 20 15 11) (x0 + 1 + 23) 20 16 12) (x0 + 1 + 44) 11)
def lA_X5_init (len : Nat → Nat) (x0 : Nat) : Nat → Nat := (va_up (zmu (zmu (va_up (va_up len (x0 + 1 + 0) 28) (x0 + 1 + 1) 28) (x0 + 1 + 2) 20 20 28) (x0 + 1 + 23) 20 20 28) (x0 + 1 + 44) 20)
def f_X5_init (N : Nat) (K len : Nat → Nat) (x0 : Nat) (M : ZM) : Option ZM :=
zg ((va_up K (x0 + 1 + 0) 11) x0 == 6) (
zl (zsR (zclr M (x0 + 1 + 0)) x0 0 (some (x0 + 1 + 0))) fun M2 => (
zg ((va_up (va_up K (x0 + 1 + 0) 11) (x0 + 1 + 1) 12) x0 == 6) (
zl (zsR (zclr M2 (x0 + 1 + 1)) x0 1 (some (x0 + 1 + 1))) fun M5 => (
zl (zsI M5 x0 2 (0 : Int32)) fun M7 => (
zg ((zmu (va_up (va_up K (x0 + 1 + 0) 11) (x0 + 1 + 1) 12) (x0 + 1 + 2) 20 15 11) x0 == 6) (
zl (zsR (zclm M7 (x0 + 1 + 2) 20) x0 3 (some (x0 + 1 + 2))) fun M10 => (
zg ((zmu (zmu (va_up (va_up K (x0 + 1 + 0) 11) (x0 + 1 + 1) 12) (x0 + 1 + 2) 20 15 11) (x0 + 1 + 23) 20 16 12) x0 == 6) (
zl (zsR (zclm M10 (x0 + 1 + 23) 20) x0 4 (some (x0 + 1 + 23))) fun M13 => (
zg ((va_up (zmu (zmu (va_up (va_up K (x0 + 1 + 0) 11) (x0 + 1 + 1) 12) (x0 + 1 + 2) 20 15 11) (x0 + 1 + 23) 20 16 12) (x0 + 1 + 44) 11) x0 == 6) (
zl (zsR (zclr M13 (x0 + 1 + 44)) x0 5 (some (x0 + 1 + 44))) fun M16 => (
zl (zsI M16 x0 6 (0 : Int32)) fun M18 => (
zl (zsI M18 x0 7 (0 : Int32)) fun M20 => (
some M20)))))))))))))
set_option maxRecDepth 100000 in
set_option maxHeartbeats 3000000 in
theorem m_X5_init (l : Launch) {D : va_G} {cy : Nat → ClassId} {ad : Nat → Nat} {L : List Nat} {K len : Nat → Nat} (hL : zSh ad L K) (N : Nat) {x0 : Nat} {M Mr : ZM} (h : f_X5_init N K len x0 M = some Mr) (sz : Nat) (had : ∀ i, i < 45 → ad (x0 + 1 + i) = sz + i) : Met l yX5_init wsX5_init ({ frames := 1, cells := 45, slots := 1236, locals := 24 } : Room) (zPre D cy ad L K len sz [.ref (ad x0)] M) (zQn D cy ad L (x0 + 1) 45 (kA_X5_init K x0) (lA_X5_init len x0) Mr sz) 45 1236 (zA ad L sz) := by
  refine z_nentry (Qf := fun sz => zQn D cy ad L (x0 + 1) 45 (kA_X5_init K x0) (lA_X5_init len x0) Mr sz) (av := [.ref (ad x0)]) (by decide) rfl rfl rfl hL (Nat.le_of_ble_eq_true rfl) (fun p e s m args below meth c hsz hin C0 H locs ls hW hS hl => ?_)
  subst hsz
  obtain ⟨hx, hb, hr, hml, hown, hts, hlocks, hK, hL, hE⟩ := id C0
  have hinX5 : ∀ w ∈ wsX50, w ∈ wsX5_init := by decide +kernel
  unfold f_X5_init at h
  have hm := zmem_0 (L := L) (lo := x0 + 1)
  refine lv_aload_n hx hb dX5_init_0 rfl (lv_at hl 0 rfl) ?_
  refine W.objInit hx hb hown (hts (.methodLink RX5 3 objectInit) (by decide +kernel)) (hts (.instanceMethod objectInit) (by decide +kernel)) (hts (.code objectInit ⟨#[0xb1]⟩ 1 none) (by decide +kernel)) rfl (by rw [hml]; exact hl.1) rfl dX5_init_1 (Nat.le_of_ble_eq_true rfl) (Nat.le_of_ble_eq_true rfl) ?_
  refine W.eq (g2 := F0 m 4 ls []) rfl ?_
  refine lv_aload_n hx hb dX5_init_4 rfl (lv_at hl 0 rfl) ?_
  refine lv_bipush (v := 28) hx hb dX5_init_5 (by decide) ?_
  refine z_size (by have := hS.1; omega) (fun hz => ?_)
  refine z_newa (atype := .int) hx hb (hts (.arrayClass .int) (by decide +kernel)) 11 (Or.inl ⟨rfl, rfl⟩) hK hL hW hS (x0 + 1 + 0) (by have h9 := had 0 (by decide); omega) (n := 28) (N' := 28) (by decide +kernel) (by decide +kernel) (by decide +kernel) (by decide +kernel) (by decide +kernel) dX5_init_7 (fun H _ _ hL hW hS => ?_)
  have hm := zmem_1 hm
  generalize L ++ [(x0 + 1 + 0)] = L1 at hm hL hW hS ⊢
  refine W.widen (k := 1) (n := 28) (by omega) (by omega) ?_
  obtain ⟨g1, h⟩ := zg_some h
  refine z_putF (own := RX5) (C := RX5) (T := TX5) (N := 8) (ci := 5) (v := .ref (ad (x0 + 1 + 0))) (M' := zsR (zclr M (x0 + 1 + 0)) x0 0 (some (x0 + 1 + 0))) hx hb hts hinX5 tyX5 tyX5_ok nmX5 hown hK hL hW hS 0 (zK_of g1) rfl (by decide) (by decide) rfl (hts (.fieldLink RX5 9 "ArcLight$Weights" "now" "[I") (by decide +kernel)) rfl hin rfl (ty := .array (.int)) (by decide +kernel) rfl rfl (Nat.le_of_ble_eq_true rfl) dX5_init_9 (zM_R (zK_of g1) (by decide) rfl) (fun H locs hW hS => ?_)
  obtain ⟨M2, eM3, h⟩ := zl_some h
  rw [← eM3] at hW
  refine lv_aload_n hx hb dX5_init_12 rfl (lv_at hl 0 rfl) ?_
  refine lv_bipush (v := 28) hx hb dX5_init_13 (by decide) ?_
  refine z_size (by have h9 := zWd_lt hW ((hm (x0 + 1 + 0)).mpr (Or.inr ⟨by omega, by omega⟩)); have h8 := had 0 (by decide); omega) (fun hz => ?_)
  refine z_newa (atype := .long) hx hb (hts (.arrayClass .long) (by decide +kernel)) 12 (Or.inr ⟨rfl, rfl⟩) hK hL hW hS (x0 + 1 + 1) (by have h9 := had 1 (by decide); omega) (n := 28) (N' := 28) (by decide +kernel) (by decide +kernel) (by decide +kernel) (by decide +kernel) (by decide +kernel) dX5_init_15 (fun H _ _ hL hW hS => ?_)
  have hm := zmem_1 hm
  generalize L1 ++ [(x0 + 1 + 1)] = L2 at hm hL hW hS ⊢
  refine W.widen (k := 2) (n := 56) (by omega) (by omega) ?_
  obtain ⟨g4, h⟩ := zg_some h
  refine z_putF (own := RX5) (C := RX5) (T := TX5) (N := 8) (ci := 5) (v := .ref (ad (x0 + 1 + 1))) (M' := zsR (zclr M2 (x0 + 1 + 1)) x0 1 (some (x0 + 1 + 1))) hx hb hts hinX5 tyX5 tyX5_ok nmX5 hown hK hL hW hS 1 (zK_of g4) rfl (by decide) (by decide) rfl (hts (.fieldLink RX5 15 "ArcLight$Weights" "sums" "[J") (by decide +kernel)) rfl hin rfl (ty := .array (.long)) (by decide +kernel) rfl rfl (Nat.le_of_ble_eq_true rfl) dX5_init_17 (zM_R (zK_of g4) (by decide) rfl) (fun H locs hW hS => ?_)
  obtain ⟨M5, eM6, h⟩ := zl_some h
  rw [← eM6] at hW
  refine lv_aload_n hx hb dX5_init_20 rfl (lv_at hl 0 rfl) ?_
  refine lv_iconst (v := 0) hx hb dX5_init_21 (by decide) ?_
  refine z_put (own := RX5) (C := RX5) (T := TX5) (N := 8) (ci := 5) (v := .int (0 : Int32)) (M' := zsI M5 x0 2 (0 : Int32)) hx hb hts hinX5 tyX5 tyX5_ok nmX5 hown hK hL hW hS 2 (zK_of g4) rfl (by decide) (by decide) rfl (hts (.fieldLink RX5 19 "ArcLight$Weights" "steps" "I") (by decide +kernel)) rfl (ty := .int) (by decide +kernel) rfl rfl (Nat.le_of_ble_eq_true rfl) dX5_init_22 (zM_I (zK_of g4) (by decide) rfl) (fun H locs hW hS => ?_)
  obtain ⟨M7, eM8, h⟩ := zl_some h
  rw [← eM8] at hW
  refine lv_aload_n hx hb dX5_init_25 rfl (lv_at hl 0 rfl) ?_
  refine lv_bipush (v := 20) hx hb dX5_init_26 (by decide) ?_
  refine lv_bipush (v := 28) hx hb dX5_init_28 (by decide) ?_
  refine z_size (by have h9 := zWd_lt hW ((hm (x0 + 1 + 1)).mpr (Or.inr ⟨by omega, by omega⟩)); have h8 := had 1 (by decide); omega) (fun hz => ?_)
  refine z_mna (ty := .int) (own := RX5) hx hb 15 11 (Or.inl ⟨rfl, rfl, rfl⟩) hown (hts (.classLink RX5 23 "[[I") (by decide +kernel)) hE.2.2.2.2.2.1.2.1 (hts (.arrayClass .int) (by decide +kernel)) hK hL hW hS (n := 20) (k := 28) (N' := 20) (K' := 28) (by decide +kernel) (by decide +kernel) (by decide +kernel) (by decide +kernel) (x0 + 1 + 2) (fun i hi => by have h9 := had (2 + i) (by omega); rw [show x0 + 1 + (2 + i) = x0 + 1 + 2 + i from by omega] at h9; omega) (by decide +kernel) (by decide +kernel) (by decide +kernel) (by decide +kernel) (by decide +kernel) dX5_init_30 (fun H _ _ hL hW hS => ?_)
  have hm := zmem_n (n := 20) hm
  generalize L2 ++ zrs (x0 + 1 + 2) 20 = L23 at hm hL hW hS ⊢
  refine W.widen (k := 23) (n := 636) (by omega) (by omega) ?_
  obtain ⟨g9, h⟩ := zg_some h
  refine z_putF (own := RX5) (C := RX5) (T := TX5) (N := 8) (ci := 5) (v := .ref (ad (x0 + 1 + 2))) (M' := zsR (zclm M7 (x0 + 1 + 2) 20) x0 3 (some (x0 + 1 + 2))) hx hb hts hinX5 tyX5 tyX5_ok nmX5 hown hK hL hW hS 3 (zK_of g9) rfl (by decide) (by decide) rfl (hts (.fieldLink RX5 25 "ArcLight$Weights" "oldWeights" "[[I") (by decide +kernel)) rfl hin rfl (ty := .array (.array (.int))) (by decide +kernel) rfl rfl (Nat.le_of_ble_eq_true rfl) dX5_init_34 (zM_R (zK_of g9) (by decide) rfl) (fun H locs hW hS => ?_)
  obtain ⟨M10, eM11, h⟩ := zl_some h
  rw [← eM11] at hW
  refine lv_aload_n hx hb dX5_init_37 rfl (lv_at hl 0 rfl) ?_
  refine lv_bipush (v := 20) hx hb dX5_init_38 (by decide) ?_
  refine lv_bipush (v := 28) hx hb dX5_init_40 (by decide) ?_
  refine z_size (by have h9 := zWd_lt hW ((hm (x0 + 1 + 22)).mpr (Or.inr ⟨by omega, by omega⟩)); have h8 := had 22 (by decide); omega) (fun hz => ?_)
  refine z_mna (ty := .long) (own := RX5) hx hb 16 12 (Or.inr ⟨rfl, rfl, rfl⟩) hown (hts (.classLink RX5 28 "[[J") (by decide +kernel)) hE.2.2.2.2.2.1.2.2 (hts (.arrayClass .long) (by decide +kernel)) hK hL hW hS (n := 20) (k := 28) (N' := 20) (K' := 28) (by decide +kernel) (by decide +kernel) (by decide +kernel) (by decide +kernel) (x0 + 1 + 23) (fun i hi => by have h9 := had (23 + i) (by omega); rw [show x0 + 1 + (23 + i) = x0 + 1 + 23 + i from by omega] at h9; omega) (by decide +kernel) (by decide +kernel) (by decide +kernel) (by decide +kernel) (by decide +kernel) dX5_init_42 (fun H _ _ hL hW hS => ?_)
  have hm := zmem_n (n := 20) hm
  generalize L23 ++ zrs (x0 + 1 + 23) 20 = L44 at hm hL hW hS ⊢
  refine W.widen (k := 44) (n := 1216) (by omega) (by omega) ?_
  obtain ⟨g12, h⟩ := zg_some h
  refine z_putF (own := RX5) (C := RX5) (T := TX5) (N := 8) (ci := 5) (v := .ref (ad (x0 + 1 + 23))) (M' := zsR (zclm M10 (x0 + 1 + 23) 20) x0 4 (some (x0 + 1 + 23))) hx hb hts hinX5 tyX5 tyX5_ok nmX5 hown hK hL hW hS 4 (zK_of g12) rfl (by decide) (by decide) rfl (hts (.fieldLink RX5 30 "ArcLight$Weights" "oldSums" "[[J") (by decide +kernel)) rfl hin rfl (ty := .array (.array (.long))) (by decide +kernel) rfl rfl (Nat.le_of_ble_eq_true rfl) dX5_init_46 (zM_R (zK_of g12) (by decide) rfl) (fun H locs hW hS => ?_)
  obtain ⟨M13, eM14, h⟩ := zl_some h
  rw [← eM14] at hW
  refine lv_aload_n hx hb dX5_init_49 rfl (lv_at hl 0 rfl) ?_
  refine lv_bipush (v := 20) hx hb dX5_init_50 (by decide) ?_
  refine z_size (by have h9 := zWd_lt hW ((hm (x0 + 1 + 43)).mpr (Or.inr ⟨by omega, by omega⟩)); have h8 := had 43 (by decide); omega) (fun hz => ?_)
  refine z_newa (atype := .int) hx hb (hts (.arrayClass .int) (by decide +kernel)) 11 (Or.inl ⟨rfl, rfl⟩) hK hL hW hS (x0 + 1 + 44) (by have h9 := had 44 (by decide); omega) (n := 20) (N' := 20) (by decide +kernel) (by decide +kernel) (by decide +kernel) (by decide +kernel) (by decide +kernel) dX5_init_52 (fun H _ _ hL hW hS => ?_)
  have hm := zmem_1 hm
  generalize L44 ++ [(x0 + 1 + 44)] = L45 at hm hL hW hS ⊢
  refine W.widen (k := 45) (n := 1236) (by omega) (by omega) ?_
  obtain ⟨g15, h⟩ := zg_some h
  refine z_putF (own := RX5) (C := RX5) (T := TX5) (N := 8) (ci := 5) (v := .ref (ad (x0 + 1 + 44))) (M' := zsR (zclr M13 (x0 + 1 + 44)) x0 5 (some (x0 + 1 + 44))) hx hb hts hinX5 tyX5 tyX5_ok nmX5 hown hK hL hW hS 5 (zK_of g15) rfl (by decide) (by decide) rfl (hts (.fieldLink RX5 33 "ArcLight$Weights" "oldSteps" "[I") (by decide +kernel)) rfl hin rfl (ty := .array (.int)) (by decide +kernel) rfl rfl (Nat.le_of_ble_eq_true rfl) dX5_init_54 (zM_R (zK_of g15) (by decide) rfl) (fun H locs hW hS => ?_)
  obtain ⟨M16, eM17, h⟩ := zl_some h
  rw [← eM17] at hW
  refine lv_aload_n hx hb dX5_init_57 rfl (lv_at hl 0 rfl) ?_
  refine lv_iconst (v := 0) hx hb dX5_init_58 (by decide) ?_
  refine z_put (own := RX5) (C := RX5) (T := TX5) (N := 8) (ci := 5) (v := .int (0 : Int32)) (M' := zsI M16 x0 6 (0 : Int32)) hx hb hts hinX5 tyX5 tyX5_ok nmX5 hown hK hL hW hS 6 (zK_of g15) rfl (by decide) (by decide) rfl (hts (.fieldLink RX5 36 "ArcLight$Weights" "kept" "I") (by decide +kernel)) rfl (ty := .int) (by decide +kernel) rfl rfl (Nat.le_of_ble_eq_true rfl) dX5_init_59 (zM_I (zK_of g15) (by decide) rfl) (fun H locs hW hS => ?_)
  obtain ⟨M18, eM19, h⟩ := zl_some h
  rw [← eM19] at hW
  refine lv_aload_n hx hb dX5_init_62 rfl (lv_at hl 0 rfl) ?_
  refine lv_iconst (v := 0) hx hb dX5_init_63 (by decide) ?_
  refine z_put (own := RX5) (C := RX5) (T := TX5) (N := 8) (ci := 5) (v := .int (0 : Int32)) (M' := zsI M18 x0 7 (0 : Int32)) hx hb hts hinX5 tyX5 tyX5_ok nmX5 hown hK hL hW hS 7 (zK_of g15) rfl (by decide) (by decide) rfl (hts (.fieldLink RX5 39 "ArcLight$Weights" "next" "I") (by decide +kernel)) rfl (ty := .int) (by decide +kernel) rfl rfl (Nat.le_of_ble_eq_true rfl) dX5_init_64 (zM_I (zK_of g15) (by decide) rfl) (fun H locs hW hS => ?_)
  obtain ⟨M20, eM21, h⟩ := zl_some h
  rw [← eM21] at hW
  exact z_nret hx hb hr hlocks hm had hL hW hS (Option.some.inj h) dX5_init_67
def kA_X6_init (K : Nat → Nat) (x0 : Nat) : Nat → Nat := (kA_X4_init (va_up (kA_X1_init (va_up (kA_X3_init (va_up (kA_X0_init (va_up (kA_X5_init (va_up (va_up K (x0 + 1 + 0) 14) (x0 + 1 + 1) 6) (x0 + 1 + 1)) (x0 + 1 + 47) 1) (x0 + 1 + 47)) (x0 + 1 + 56) 4) (x0 + 1 + 56)) (x0 + 1 + 89) 2) (x0 + 1 + 89)) (x0 + 1 + 108) 5) (x0 + 1 + 108))
def lA_X6_init (len : Nat → Nat) (x0 : Nat) : Nat → Nat := (lA_X4_init (lA_X1_init (lA_X3_init (lA_X0_init (lA_X5_init (va_up len (x0 + 1 + 0) 5) (x0 + 1 + 1)) (x0 + 1 + 47)) (x0 + 1 + 56)) (x0 + 1 + 89)) (x0 + 1 + 108))
def f_X6_init (N : Nat) (K len : Nat → Nat) (x0 : Nat) (M : ZM) : Option ZM :=
zg ((va_up K (x0 + 1 + 0) 14) x0 == 7) (
zl (zsR (zclr M (x0 + 1 + 0)) x0 0 (some (x0 + 1 + 0))) fun M2 => (
zl (zsI M2 x0 1 (0 : Int32)) fun M4 => (
(f_X5_init N (va_up (va_up K (x0 + 1 + 0) 14) (x0 + 1 + 1) 6) (va_up len (x0 + 1 + 0) 5) (x0 + 1 + 1) (zclr M4 (x0 + 1 + 1))).bind fun M6 => (
zg ((kA_X5_init (va_up (va_up K (x0 + 1 + 0) 14) (x0 + 1 + 1) 6) (x0 + 1 + 1)) x0 == 7) (
zl (zsR M6 x0 2 (some (x0 + 1 + 1))) fun M9 => (
(f_X0_init N (va_up (kA_X5_init (va_up (va_up K (x0 + 1 + 0) 14) (x0 + 1 + 1) 6) (x0 + 1 + 1)) (x0 + 1 + 47) 1) (lA_X5_init (va_up len (x0 + 1 + 0) 5) (x0 + 1 + 1)) (x0 + 1 + 47) (zclr M9 (x0 + 1 + 47))).bind fun M11 => (
zg ((kA_X0_init (va_up (kA_X5_init (va_up (va_up K (x0 + 1 + 0) 14) (x0 + 1 + 1) 6) (x0 + 1 + 1)) (x0 + 1 + 47) 1) (x0 + 1 + 47)) x0 == 7) (
zl (zsR M11 x0 3 (some (x0 + 1 + 47))) fun M14 => (
(f_X3_init N (va_up (kA_X0_init (va_up (kA_X5_init (va_up (va_up K (x0 + 1 + 0) 14) (x0 + 1 + 1) 6) (x0 + 1 + 1)) (x0 + 1 + 47) 1) (x0 + 1 + 47)) (x0 + 1 + 56) 4) (lA_X0_init (lA_X5_init (va_up len (x0 + 1 + 0) 5) (x0 + 1 + 1)) (x0 + 1 + 47)) (x0 + 1 + 56) (zclr M14 (x0 + 1 + 56))).bind fun M16 => (
zg ((kA_X3_init (va_up (kA_X0_init (va_up (kA_X5_init (va_up (va_up K (x0 + 1 + 0) 14) (x0 + 1 + 1) 6) (x0 + 1 + 1)) (x0 + 1 + 47) 1) (x0 + 1 + 47)) (x0 + 1 + 56) 4) (x0 + 1 + 56)) x0 == 7) (
zl (zsR M16 x0 4 (some (x0 + 1 + 56))) fun M19 => (
(f_X1_init N (va_up (kA_X3_init (va_up (kA_X0_init (va_up (kA_X5_init (va_up (va_up K (x0 + 1 + 0) 14) (x0 + 1 + 1) 6) (x0 + 1 + 1)) (x0 + 1 + 47) 1) (x0 + 1 + 47)) (x0 + 1 + 56) 4) (x0 + 1 + 56)) (x0 + 1 + 89) 2) (lA_X3_init (lA_X0_init (lA_X5_init (va_up len (x0 + 1 + 0) 5) (x0 + 1 + 1)) (x0 + 1 + 47)) (x0 + 1 + 56)) (x0 + 1 + 89) (zclr M19 (x0 + 1 + 89))).bind fun M21 => (
zg ((kA_X1_init (va_up (kA_X3_init (va_up (kA_X0_init (va_up (kA_X5_init (va_up (va_up K (x0 + 1 + 0) 14) (x0 + 1 + 1) 6) (x0 + 1 + 1)) (x0 + 1 + 47) 1) (x0 + 1 + 47)) (x0 + 1 + 56) 4) (x0 + 1 + 56)) (x0 + 1 + 89) 2) (x0 + 1 + 89)) x0 == 7) (
zl (zsR M21 x0 5 (some (x0 + 1 + 89))) fun M24 => (
(f_X4_init N (va_up (kA_X1_init (va_up (kA_X3_init (va_up (kA_X0_init (va_up (kA_X5_init (va_up (va_up K (x0 + 1 + 0) 14) (x0 + 1 + 1) 6) (x0 + 1 + 1)) (x0 + 1 + 47) 1) (x0 + 1 + 47)) (x0 + 1 + 56) 4) (x0 + 1 + 56)) (x0 + 1 + 89) 2) (x0 + 1 + 89)) (x0 + 1 + 108) 5) (lA_X1_init (lA_X3_init (lA_X0_init (lA_X5_init (va_up len (x0 + 1 + 0) 5) (x0 + 1 + 1)) (x0 + 1 + 47)) (x0 + 1 + 56)) (x0 + 1 + 89)) (x0 + 1 + 108) (zclr M24 (x0 + 1 + 108))).bind fun M26 => (
zg ((kA_X4_init (va_up (kA_X1_init (va_up (kA_X3_init (va_up (kA_X0_init (va_up (kA_X5_init (va_up (va_up K (x0 + 1 + 0) 14) (x0 + 1 + 1) 6) (x0 + 1 + 1)) (x0 + 1 + 47) 1) (x0 + 1 + 47)) (x0 + 1 + 56) 4) (x0 + 1 + 56)) (x0 + 1 + 89) 2) (x0 + 1 + 89)) (x0 + 1 + 108) 5) (x0 + 1 + 108)) x0 == 7) (
zl (zsR M26 x0 6 (some (x0 + 1 + 108))) fun M29 => (
some M29))))))))))))))))))
set_option maxRecDepth 100000 in
set_option maxHeartbeats 3000000 in
theorem m_X6_init (l : Launch) {D : va_G} {cy : Nat → ClassId} {ad : Nat → Nat} {L : List Nat} {K len : Nat → Nat} (hL : zSh ad L K) (N : Nat) {x0 : Nat} {M Mr : ZM} (h : f_X6_init N K len x0 M = some Mr) (sz : Nat) (had : ∀ i, i < 111 → ad (x0 + 1 + i) = sz + i) : Met l yX6_init wsX6_init ({ frames := 2, cells := 111, slots := 18483, locals := 44 } : Room) (zPre D cy ad L K len sz [.ref (ad x0)] M) (zQn D cy ad L (x0 + 1) 111 (kA_X6_init K x0) (lA_X6_init len x0) Mr sz) 111 18483 (zA ad L sz) := by
  refine z_nentry (Qf := fun sz => zQn D cy ad L (x0 + 1) 111 (kA_X6_init K x0) (lA_X6_init len x0) Mr sz) (av := [.ref (ad x0)]) (by decide) rfl rfl rfl hL (Nat.le_of_ble_eq_true rfl) (fun p e s m args below meth c hsz hin C0 H locs ls hW hS hl => ?_)
  subst hsz
  obtain ⟨hx, hb, hr, hml, hown, hts, hlocks, hK, hL, hE⟩ := id C0
  have hinX0 : ∀ w ∈ wsX00, w ∈ wsX6_init := by decide +kernel
  have hinX1 : ∀ w ∈ wsX10, w ∈ wsX6_init := by decide +kernel
  have hinX3 : ∀ w ∈ wsX30, w ∈ wsX6_init := by decide +kernel
  have hinX4 : ∀ w ∈ wsX40, w ∈ wsX6_init := by decide +kernel
  have hinX5 : ∀ w ∈ wsX50, w ∈ wsX6_init := by decide +kernel
  have hinX6 : ∀ w ∈ wsX60, w ∈ wsX6_init := by decide +kernel
  unfold f_X6_init at h
  have hm := zmem_0 (L := L) (lo := x0 + 1)
  refine lv_aload_n hx hb dX6_init_0 rfl (lv_at hl 0 rfl) ?_
  refine W.objInit hx hb hown (hts (.methodLink RX6 3 objectInit) (by decide +kernel)) (hts (.instanceMethod objectInit) (by decide +kernel)) (hts (.code objectInit ⟨#[0xb1]⟩ 1 none) (by decide +kernel)) rfl (by rw [hml]; exact hl.1) rfl dX6_init_1 (Nat.le_of_ble_eq_true rfl) (Nat.le_of_ble_eq_true rfl) ?_
  refine W.eq (g2 := F0 m 4 ls []) rfl ?_
  refine lv_aload_n hx hb dX6_init_4 rfl (lv_at hl 0 rfl) ?_
  refine lv_iconst (v := 5) hx hb dX6_init_5 (by decide) ?_
  refine z_size (by have := hS.1; omega) (fun hz => ?_)
  refine z_anew (own := RX6) hx hb hown (hts (.classLink RX6 9 RX2) (by decide +kernel)) hE.2.2.2.2.2.1.1 hK hL hW hS (x0 + 1 + 0) (by have h9 := had 0 (by decide); omega) (n := 5) (N' := 5) (by decide +kernel) (by decide +kernel) (by decide +kernel) (by decide +kernel) (by decide +kernel) dX6_init_6 (fun H _ _ hL hW hS => ?_)
  have hm := zmem_1 hm
  generalize L ++ [(x0 + 1 + 0)] = L1 at hm hL hW hS ⊢
  refine W.widen (k := 1) (n := 5) (by omega) (by omega) ?_
  obtain ⟨g1, h⟩ := zg_some h
  refine z_putF (own := RX6) (C := RX6) (T := TX6) (N := 7) (ci := 6) (v := .ref (ad (x0 + 1 + 0))) (M' := zsR (zclr M (x0 + 1 + 0)) x0 0 (some (x0 + 1 + 0))) hx hb hts hinX6 tyX6 tyX6_ok nmX6 hown hK hL hW hS 0 (zK_of g1) rfl (by decide) (by decide) rfl (hts (.fieldLink RX6 11 "ArcLight" "all" "[LArcLight$Sentence;") (by decide +kernel)) rfl hin rfl (ty := .array (.object "ArcLight$Sentence")) (by decide +kernel) rfl rfl (Nat.le_of_ble_eq_true rfl) dX6_init_9 (zM_R (zK_of g1) (by decide) rfl) (fun H locs hW hS => ?_)
  obtain ⟨M2, eM3, h⟩ := zl_some h
  rw [← eM3] at hW
  refine lv_aload_n hx hb dX6_init_12 rfl (lv_at hl 0 rfl) ?_
  refine lv_iconst (v := 0) hx hb dX6_init_13 (by decide) ?_
  refine z_put (own := RX6) (C := RX6) (T := TX6) (N := 7) (ci := 6) (v := .int (0 : Int32)) (M' := zsI M2 x0 1 (0 : Int32)) hx hb hts hinX6 tyX6 tyX6_ok nmX6 hown hK hL hW hS 1 (zK_of g1) rfl (by decide) (by decide) rfl (hts (.fieldLink RX6 15 "ArcLight" "count" "I") (by decide +kernel)) rfl (ty := .int) (by decide +kernel) rfl rfl (Nat.le_of_ble_eq_true rfl) dX6_init_14 (zM_I (zK_of g1) (by decide) rfl) (fun H locs hW hS => ?_)
  obtain ⟨M4, eM5, h⟩ := zl_some h
  rw [← eM5] at hW
  refine lv_aload_n hx hb dX6_init_17 rfl (lv_at hl 0 rfl) ?_
  refine z_size (by have h9 := zWd_lt hW ((hm (x0 + 1 + 0)).mpr (Or.inr ⟨by omega, by omega⟩)); have h8 := had 0 (by decide); omega) (fun hz => ?_)
  refine z_new (own := RX6) (C := RX5) (T := TX5) (N := 8) (ci := 5) hx hb hts hinX5 tyX5 tyX5_ok hown (hts (.classLink RX6 19 RX5) (by decide +kernel)) (hts (.instantiable RX5 8) (by decide +kernel)) (hts (.initialized RX5) (by decide +kernel)) hK hL hW hS (x0 + 1 + 1) (by have h9 := had 1 (by decide); omega) rfl (by decide) (zbornX5 _ _) (by decide +kernel) (by decide +kernel) dX6_init_18 (fun H _ _ hL hW hS => ?_)
  have hm := zmem_1 hm
  generalize L1 ++ [(x0 + 1 + 1)] = L2 at hm hL hW hS ⊢
  refine W.widen (k := 2) (n := 13) (by omega) (by omega) ?_
  refine lv_dup hx hb dX6_init_21 rfl ?_
  refine z_size (by have h9 := zWd_lt hW ((hm (x0 + 1 + 1)).mpr (Or.inr ⟨by omega, by omega⟩)); have h8 := had 1 (by decide); omega) (fun hz => ?_)
  have hE1 := zEnv_narrow hE (zA_mem hm had (by decide : 2 ≤ 111))
  obtain ⟨M6, e7, h⟩ := zb_some h
  refine z_calln (lo := x0 + 1 + 1 + 1) (n := 45) hS (va_runIN (As := []) (rest := [.ref (ad (x0 + 1 + 1)), .ref (ad x0)]) ⟨hx, hb, hml, hown, hts⟩ (m_X5_init l hL N e7 H.size (fun i hi => by have h9 := had (2 + i) (by omega); rw [show x0 + 1 + (2 + i) = x0 + 1 + 1 + 1 + i from by omega] at h9; omega)) ⟨va_cnB (host := "ArcLight") 0 hts gX6_init_X5_init_n21 rfl rfl rfl (hE.1 (.methodLinkNest RX6 21 yX5_init "ArcLight") (by decide +kernel)) (hts (.initialized RX5) (by decide +kernel)) (by decide +kernel) ⟨by decide +kernel, by decide +kernel⟩, rfl, hts (.instanceMethod yX5_init) (by decide +kernel)⟩ (z_preS hK hE1 hW hS [.ref (ad (x0 + 1 + 1))]) rfl rfl hl.1 rfl (lv_room (Nat.le_of_ble_eq_true rfl)) dX6_init_22 ⟨by decide +kernel, by decide +kernel⟩) (fun L47 H locs hm2 hL hW hS => ?_)
  have hm := zmem_c (k := 2) hm hm2
  refine W.widen (k := 47) (n := 1249) (by omega) (by omega) ?_
  obtain ⟨g8, h⟩ := zg_some h
  refine z_putF (own := RX6) (C := RX6) (T := TX6) (N := 7) (ci := 6) (v := .ref (ad (x0 + 1 + 1))) (M' := zsR M6 x0 2 (some (x0 + 1 + 1))) hx hb hts hinX6 tyX6 tyX6_ok nmX6 hown hK hL hW hS 2 (zK_of g8) rfl (by decide) (by decide) rfl (hts (.fieldLink RX6 22 "ArcLight" "weights" "LArcLight$Weights;") (by decide +kernel)) rfl hin rfl (ty := (.object "ArcLight$Weights")) (by decide +kernel) rfl rfl (Nat.le_of_ble_eq_true rfl) dX6_init_25 (zM_R (zK_of g8) (by decide) rfl) (fun H locs hW hS => ?_)
  obtain ⟨M9, eM10, h⟩ := zl_some h
  rw [← eM10] at hW
  refine lv_aload_n hx hb dX6_init_28 rfl (lv_at hl 0 rfl) ?_
  refine z_size (by have h9 := zWd_lt hW ((hm (x0 + 1 + 46)).mpr (Or.inr ⟨by omega, by omega⟩)); have h8 := had 46 (by decide); omega) (fun hz => ?_)
  refine z_new (own := RX6) (C := RX0) (T := TX0) (N := 2) (ci := 0) hx hb hts hinX0 tyX0 tyX0_ok hown (hts (.classLink RX6 26 RX0) (by decide +kernel)) (hts (.instantiable RX0 2) (by decide +kernel)) (hts (.initialized RX0) (by decide +kernel)) hK hL hW hS (x0 + 1 + 47) (by have h9 := had 47 (by decide); omega) rfl (by decide) (zbornX0 _ _) (by decide +kernel) (by decide +kernel) dX6_init_29 (fun H _ _ hL hW hS => ?_)
  have hm := zmem_1 hm
  generalize L47 ++ [(x0 + 1 + 47)] = L48 at hm hL hW hS ⊢
  refine W.widen (k := 48) (n := 1251) (by omega) (by omega) ?_
  refine lv_dup hx hb dX6_init_32 rfl ?_
  refine z_size (by have h9 := zWd_lt hW ((hm (x0 + 1 + 47)).mpr (Or.inr ⟨by omega, by omega⟩)); have h8 := had 47 (by decide); omega) (fun hz => ?_)
  have hE1 := zEnv_narrow hE (zA_mem hm had (by decide : 48 ≤ 111))
  obtain ⟨M11, e12, h⟩ := zb_some h
  refine z_calln (lo := x0 + 1 + 47 + 1) (n := 8) hS (va_runIN (As := []) (rest := [.ref (ad (x0 + 1 + 47)), .ref (ad x0)]) ⟨hx, hb, hml, hown, hts⟩ (m_X0_init l hL N e12 H.size (fun i hi => by have h9 := had (48 + i) (by omega); rw [show x0 + 1 + (48 + i) = x0 + 1 + 47 + 1 + i from by omega] at h9; omega)) ⟨va_cnB (host := "ArcLight") 0 hts gX6_init_X0_init_n28 rfl rfl rfl (hE.1 (.methodLinkNest RX6 28 yX0_init "ArcLight") (by decide +kernel)) (hts (.initialized RX0) (by decide +kernel)) (by decide +kernel) ⟨by decide +kernel, by decide +kernel⟩, rfl, hts (.instanceMethod yX0_init) (by decide +kernel)⟩ (z_preS hK hE1 hW hS [.ref (ad (x0 + 1 + 47))]) rfl rfl hl.1 rfl (lv_room (Nat.le_of_ble_eq_true rfl)) dX6_init_33 ⟨by decide +kernel, by decide +kernel⟩) (fun L56 H locs hm2 hL hW hS => ?_)
  have hm := zmem_c (k := 48) hm hm2
  refine W.widen (k := 56) (n := 1307) (by omega) (by omega) ?_
  obtain ⟨g13, h⟩ := zg_some h
  refine z_putF (own := RX6) (C := RX6) (T := TX6) (N := 7) (ci := 6) (v := .ref (ad (x0 + 1 + 47))) (M' := zsR M11 x0 3 (some (x0 + 1 + 47))) hx hb hts hinX6 tyX6 tyX6_ok nmX6 hown hK hL hW hS 3 (zK_of g13) rfl (by decide) (by decide) rfl (hts (.fieldLink RX6 29 "ArcLight" "arcs" "LArcLight$ArcKeys;") (by decide +kernel)) rfl hin rfl (ty := (.object "ArcLight$ArcKeys")) (by decide +kernel) rfl rfl (Nat.le_of_ble_eq_true rfl) dX6_init_36 (zM_R (zK_of g13) (by decide) rfl) (fun H locs hW hS => ?_)
  obtain ⟨M14, eM15, h⟩ := zl_some h
  rw [← eM15] at hW
  refine lv_aload_n hx hb dX6_init_39 rfl (lv_at hl 0 rfl) ?_
  refine z_size (by have h9 := zWd_lt hW ((hm (x0 + 1 + 55)).mpr (Or.inr ⟨by omega, by omega⟩)); have h8 := had 55 (by decide); omega) (fun hz => ?_)
  refine z_new (own := RX6) (C := RX3) (T := TX3) (N := 4) (ci := 3) hx hb hts hinX3 tyX3 tyX3_ok hown (hts (.classLink RX6 33 RX3) (by decide +kernel)) (hts (.instantiable RX3 4) (by decide +kernel)) (hts (.initialized RX3) (by decide +kernel)) hK hL hW hS (x0 + 1 + 56) (by have h9 := had 56 (by decide); omega) rfl (by decide) (zbornX3 _ _) (by decide +kernel) (by decide +kernel) dX6_init_40 (fun H _ _ hL hW hS => ?_)
  have hm := zmem_1 hm
  generalize L56 ++ [(x0 + 1 + 56)] = L57 at hm hL hW hS ⊢
  refine W.widen (k := 57) (n := 1311) (by omega) (by omega) ?_
  refine lv_dup hx hb dX6_init_43 rfl ?_
  refine z_size (by have h9 := zWd_lt hW ((hm (x0 + 1 + 56)).mpr (Or.inr ⟨by omega, by omega⟩)); have h8 := had 56 (by decide); omega) (fun hz => ?_)
  have hE1 := zEnv_narrow hE (zA_mem hm had (by decide : 57 ≤ 111))
  obtain ⟨M16, e17, h⟩ := zb_some h
  refine z_calln (lo := x0 + 1 + 56 + 1) (n := 32) hS (va_runIN (As := []) (rest := [.ref (ad (x0 + 1 + 56)), .ref (ad x0)]) ⟨hx, hb, hml, hown, hts⟩ (m_X3_init l hL N e17 H.size (fun i hi => by have h9 := had (57 + i) (by omega); rw [show x0 + 1 + (57 + i) = x0 + 1 + 56 + 1 + i from by omega] at h9; omega)) ⟨va_cnB (host := "ArcLight") 0 hts gX6_init_X3_init_n35 rfl rfl rfl (hE.1 (.methodLinkNest RX6 35 yX3_init "ArcLight") (by decide +kernel)) (hts (.initialized RX3) (by decide +kernel)) (by decide +kernel) ⟨by decide +kernel, by decide +kernel⟩, rfl, hts (.instanceMethod yX3_init) (by decide +kernel)⟩ (z_preS hK hE1 hW hS [.ref (ad (x0 + 1 + 56))]) rfl rfl hl.1 rfl (lv_room (Nat.le_of_ble_eq_true rfl)) dX6_init_44 ⟨by decide +kernel, by decide +kernel⟩) (fun L89 H locs hm2 hL hW hS => ?_)
  have hm := zmem_c (k := 57) hm hm2
  refine W.widen (k := 89) (n := 1535) (by omega) (by omega) ?_
  obtain ⟨g18, h⟩ := zg_some h
  refine z_putF (own := RX6) (C := RX6) (T := TX6) (N := 7) (ci := 6) (v := .ref (ad (x0 + 1 + 56))) (M' := zsR M16 x0 4 (some (x0 + 1 + 56))) hx hb hts hinX6 tyX6 tyX6_ok nmX6 hown hK hL hW hS 4 (zK_of g18) rfl (by decide) (by decide) rfl (hts (.fieldLink RX6 36 "ArcLight" "spans" "LArcLight$Spans;") (by decide +kernel)) rfl hin rfl (ty := (.object "ArcLight$Spans")) (by decide +kernel) rfl rfl (Nat.le_of_ble_eq_true rfl) dX6_init_47 (zM_R (zK_of g18) (by decide) rfl) (fun H locs hW hS => ?_)
  obtain ⟨M19, eM20, h⟩ := zl_some h
  rw [← eM20] at hW
  refine lv_aload_n hx hb dX6_init_50 rfl (lv_at hl 0 rfl) ?_
  refine z_size (by have h9 := zWd_lt hW ((hm (x0 + 1 + 88)).mpr (Or.inr ⟨by omega, by omega⟩)); have h8 := had 88 (by decide); omega) (fun hz => ?_)
  refine z_new (own := RX6) (C := RX1) (T := TX1) (N := 5) (ci := 1) hx hb hts hinX1 tyX1 tyX1_ok hown (hts (.classLink RX6 40 RX1) (by decide +kernel)) (hts (.instantiable RX1 5) (by decide +kernel)) (hts (.initialized RX1) (by decide +kernel)) hK hL hW hS (x0 + 1 + 89) (by have h9 := had 89 (by decide); omega) rfl (by decide) (zbornX1 _ _) (by decide +kernel) (by decide +kernel) dX6_init_51 (fun H _ _ hL hW hS => ?_)
  have hm := zmem_1 hm
  generalize L89 ++ [(x0 + 1 + 89)] = L90 at hm hL hW hS ⊢
  refine W.widen (k := 90) (n := 1540) (by omega) (by omega) ?_
  refine lv_dup hx hb dX6_init_54 rfl ?_
  refine z_size (by have h9 := zWd_lt hW ((hm (x0 + 1 + 89)).mpr (Or.inr ⟨by omega, by omega⟩)); have h8 := had 89 (by decide); omega) (fun hz => ?_)
  have hE1 := zEnv_narrow hE (zA_mem hm had (by decide : 90 ≤ 111))
  obtain ⟨M21, e22, h⟩ := zb_some h
  refine z_calln (lo := x0 + 1 + 89 + 1) (n := 18) hS (va_runIN (As := []) (rest := [.ref (ad (x0 + 1 + 89)), .ref (ad x0)]) ⟨hx, hb, hml, hown, hts⟩ (m_X1_init l hL N e22 H.size (fun i hi => by have h9 := had (90 + i) (by omega); rw [show x0 + 1 + (90 + i) = x0 + 1 + 89 + 1 + i from by omega] at h9; omega)) ⟨va_cnB (host := "ArcLight") 0 hts gX6_init_X1_init_n42 rfl rfl rfl (hE.1 (.methodLinkNest RX6 42 yX1_init "ArcLight") (by decide +kernel)) (hts (.initialized RX1) (by decide +kernel)) (by decide +kernel) ⟨by decide +kernel, by decide +kernel⟩, rfl, hts (.instanceMethod yX1_init) (by decide +kernel)⟩ (z_preS hK hE1 hW hS [.ref (ad (x0 + 1 + 89))]) rfl rfl hl.1 rfl (lv_room (Nat.le_of_ble_eq_true rfl)) dX6_init_55 ⟨by decide +kernel, by decide +kernel⟩) (fun L108 H locs hm2 hL hW hS => ?_)
  have hm := zmem_c (k := 90) hm hm2
  refine W.widen (k := 108) (n := 1666) (by omega) (by omega) ?_
  obtain ⟨g23, h⟩ := zg_some h
  refine z_putF (own := RX6) (C := RX6) (T := TX6) (N := 7) (ci := 6) (v := .ref (ad (x0 + 1 + 89))) (M' := zsR M21 x0 5 (some (x0 + 1 + 89))) hx hb hts hinX6 tyX6 tyX6_ok nmX6 hown hK hL hW hS 5 (zK_of g23) rfl (by decide) (by decide) rfl (hts (.fieldLink RX6 43 "ArcLight" "circles" "LArcLight$Circles;") (by decide +kernel)) rfl hin rfl (ty := (.object "ArcLight$Circles")) (by decide +kernel) rfl rfl (Nat.le_of_ble_eq_true rfl) dX6_init_58 (zM_R (zK_of g23) (by decide) rfl) (fun H locs hW hS => ?_)
  obtain ⟨M24, eM25, h⟩ := zl_some h
  rw [← eM25] at hW
  refine lv_aload_n hx hb dX6_init_61 rfl (lv_at hl 0 rfl) ?_
  refine z_size (by have h9 := zWd_lt hW ((hm (x0 + 1 + 107)).mpr (Or.inr ⟨by omega, by omega⟩)); have h8 := had 107 (by decide); omega) (fun hz => ?_)
  refine z_new (own := RX6) (C := RX4) (T := TX4) (N := 3) (ci := 4) hx hb hts hinX4 tyX4 tyX4_ok hown (hts (.classLink RX6 47 RX4) (by decide +kernel)) (hts (.instantiable RX4 3) (by decide +kernel)) (hts (.initialized RX4) (by decide +kernel)) hK hL hW hS (x0 + 1 + 108) (by have h9 := had 108 (by decide); omega) rfl (by decide) (zbornX4 _ _) (by decide +kernel) (by decide +kernel) dX6_init_62 (fun H _ _ hL hW hS => ?_)
  have hm := zmem_1 hm
  generalize L108 ++ [(x0 + 1 + 108)] = L109 at hm hL hW hS ⊢
  refine W.widen (k := 109) (n := 1669) (by omega) (by omega) ?_
  refine lv_dup hx hb dX6_init_65 rfl ?_
  refine z_size (by have h9 := zWd_lt hW ((hm (x0 + 1 + 108)).mpr (Or.inr ⟨by omega, by omega⟩)); have h8 := had 108 (by decide); omega) (fun hz => ?_)
  have hE1 := zEnv_narrow hE (zA_mem hm had (by decide : 109 ≤ 111))
  obtain ⟨M26, e27, h⟩ := zb_some h
  refine z_calln (lo := x0 + 1 + 108 + 1) (n := 2) hS (va_runIN (As := []) (rest := [.ref (ad (x0 + 1 + 108)), .ref (ad x0)]) ⟨hx, hb, hml, hown, hts⟩ (m_X4_init l hL N e27 H.size (fun i hi => by have h9 := had (109 + i) (by omega); rw [show x0 + 1 + (109 + i) = x0 + 1 + 108 + 1 + i from by omega] at h9; omega)) ⟨va_cnB (host := "ArcLight") 0 hts gX6_init_X4_init_n49 rfl rfl rfl (hE.1 (.methodLinkNest RX6 49 yX4_init "ArcLight") (by decide +kernel)) (hts (.initialized RX4) (by decide +kernel)) (by decide +kernel) ⟨by decide +kernel, by decide +kernel⟩, rfl, hts (.instanceMethod yX4_init) (by decide +kernel)⟩ (z_preS hK hE1 hW hS [.ref (ad (x0 + 1 + 108))]) rfl rfl hl.1 rfl (lv_room (Nat.le_of_ble_eq_true rfl)) dX6_init_66 ⟨by decide +kernel, by decide +kernel⟩) (fun L111 H locs hm2 hL hW hS => ?_)
  have hm := zmem_c (k := 109) hm hm2
  refine W.widen (k := 111) (n := 18483) (by omega) (by omega) ?_
  obtain ⟨g28, h⟩ := zg_some h
  refine z_putF (own := RX6) (C := RX6) (T := TX6) (N := 7) (ci := 6) (v := .ref (ad (x0 + 1 + 108))) (M' := zsR M26 x0 6 (some (x0 + 1 + 108))) hx hb hts hinX6 tyX6 tyX6_ok nmX6 hown hK hL hW hS 6 (zK_of g28) rfl (by decide) (by decide) rfl (hts (.fieldLink RX6 50 "ArcLight" "trial" "LArcLight$Trial;") (by decide +kernel)) rfl hin rfl (ty := (.object "ArcLight$Trial")) (by decide +kernel) rfl rfl (Nat.le_of_ble_eq_true rfl) dX6_init_69 (zM_R (zK_of g28) (by decide) rfl) (fun H locs hW hS => ?_)
  obtain ⟨M29, eM30, h⟩ := zl_some h
  rw [← eM30] at hW
  exact z_nret hx hb hr hlocks hm had hL hW hS (Option.some.inj h) dX6_init_72
