abbrev rm_Mo_isPlace : Room := { frames := 0, cells := 0, slots := 0, locals := 0 }
set_option maxHeartbeats 4000000 in
set_option maxRecDepth 100000 in
theorem c_Mo_isPlace (l : Launch) (D : va_G) (cI cR cG : ClassId) (x : Int) (hx1 : k_sm x) : k_M l y_Mo_isPlace (.code y_Mo_isPlace b_Mo_isPlace 1 (some .boolean) :: kW) rm_Mo_isPlace D k_cl (k_ty cI cR cG) [.int (zI x)] ([]) (k_Qi D k_cl (k_b (0 ≤ x ∧ x < 30)) []) := by
  refine k_start (cc := b_Mo_isPlace) (maxL := 1) (ret := (some .boolean)) (by decide) rfl (Nat.le_of_ble_eq_true rfl) ?_
  intro p ev s m ar below meth c A ls Qf hQf hx hb hr hml hts hown hlocks hin hK hG hA hP hD hS hl
  replace hown : s.vm.findClass R_Mo = some m.cls := hown
  replace hl : lv_has ls 1 [(0, .int (zI x))] := hl
  have hkw : ∀ w ∈ kW, w.before ar s = true := fun w h => hts w (List.mem_cons_of_mem _ h)
  replace hP : va_P D k_cl ([]) s.heap := hP
  replace hD : va_D A ([]) := hD
  have hx2 := hx1.1
  have hx3 := hx1.2
  refine lv_iload_n hx hb d_Mo_isPlace_0 rfl (lv_at hl 0 rfl) ?_
  refine k_if_lt (tgt := 14) hx hb d_Mo_isPlace_1 (by decide) ⟨by omega, by omega⟩ (fun c_1 => ?_) (fun c_1 => ?_)
  · refine lv_iconst (v := zI 0) hx hb d_Mo_isPlace_14 (by decide) ?_
    rw [← hQf]
    exact k_zret hx hb hr hlocks hP hS (k_bf (by omega)).symm d_Mo_isPlace_15
  · refine lv_iload_n hx hb d_Mo_isPlace_4 rfl (lv_at hl 0 rfl) ?_
    refine lv_bipush (v := zI 30) hx hb d_Mo_isPlace_5 (by decide) ?_
    refine k_icmp_ge (tgt := 14) hx hb d_Mo_isPlace_7 (by decide) ⟨by omega, by omega⟩ ⟨by omega, by omega⟩ (fun c_7 => ?_) (fun c_7 => ?_)
    · refine lv_iconst (v := zI 0) hx hb d_Mo_isPlace_14 (by decide) ?_
      rw [← hQf]
      exact k_zret hx hb hr hlocks hP hS (k_bf (by omega)).symm d_Mo_isPlace_15
    · refine lv_iconst (v := zI 1) hx hb d_Mo_isPlace_10 (by decide) ?_
      refine lv_goto (tgt := 15) hx hb d_Mo_isPlace_11 (by decide) ?_
      rw [← hQf]
      exact k_zret hx hb hr hlocks hP hS (k_bt (by omega)).symm d_Mo_isPlace_15

abbrev rm_Mo_isSet : Room := { frames := 0, cells := 0, slots := 0, locals := 0 }
set_option maxHeartbeats 4000000 in
set_option maxRecDepth 100000 in
theorem c_Mo_isSet (l : Launch) (D : va_G) (cI cR cG : ClassId) (x : Int) (hx1 : k_sm x) : k_M l y_Mo_isSet (.code y_Mo_isSet b_Mo_isSet 1 (some .boolean) :: kW) rm_Mo_isSet D k_cl (k_ty cI cR cG) [.int (zI x)] ([]) (k_Qi D k_cl (k_b (0 ≤ x ∧ x ≤ 1023)) []) := by
  refine k_start (cc := b_Mo_isSet) (maxL := 1) (ret := (some .boolean)) (by decide) rfl (Nat.le_of_ble_eq_true rfl) ?_
  intro p ev s m ar below meth c A ls Qf hQf hx hb hr hml hts hown hlocks hin hK hG hA hP hD hS hl
  replace hown : s.vm.findClass R_Mo = some m.cls := hown
  replace hl : lv_has ls 1 [(0, .int (zI x))] := hl
  have hkw : ∀ w ∈ kW, w.before ar s = true := fun w h => hts w (List.mem_cons_of_mem _ h)
  replace hP : va_P D k_cl ([]) s.heap := hP
  replace hD : va_D A ([]) := hD
  have hx2 := hx1.1
  have hx3 := hx1.2
  refine lv_iload_n hx hb d_Mo_isSet_0 rfl (lv_at hl 0 rfl) ?_
  refine k_if_lt (tgt := 15) hx hb d_Mo_isSet_1 (by decide) ⟨by omega, by omega⟩ (fun c_1 => ?_) (fun c_1 => ?_)
  · refine lv_iconst (v := zI 0) hx hb d_Mo_isSet_15 (by decide) ?_
    rw [← hQf]
    exact k_zret hx hb hr hlocks hP hS (k_bf (by omega)).symm d_Mo_isSet_16
  · refine lv_iload_n hx hb d_Mo_isSet_4 rfl (lv_at hl 0 rfl) ?_
    refine lv_sipush (v := zI 1023) hx hb d_Mo_isSet_5 (by decide) ?_
    refine k_icmp_gt (tgt := 15) hx hb d_Mo_isSet_8 (by decide) ⟨by omega, by omega⟩ ⟨by omega, by omega⟩ (fun c_8 => ?_) (fun c_8 => ?_)
    · refine lv_iconst (v := zI 0) hx hb d_Mo_isSet_15 (by decide) ?_
      rw [← hQf]
      exact k_zret hx hb hr hlocks hP hS (k_bf (by omega)).symm d_Mo_isSet_16
    · refine lv_iconst (v := zI 1) hx hb d_Mo_isSet_11 (by decide) ?_
      refine lv_goto (tgt := 16) hx hb d_Mo_isSet_12 (by decide) ?_
      rw [← hQf]
      exact k_zret hx hb hr hlocks hP hS (k_bt (by omega)).symm d_Mo_isSet_16

abbrev rm_Mo_put_1 : Room := { frames := 1, cells := 0, slots := 0, locals := 20 }
set_option maxHeartbeats 4000000 in
set_option maxRecDepth 100000 in
theorem c_Mo_put_1 (l : Launch) (D : va_G) (cI cR cG : ClassId) (w : Nat → Nat) (n np kn ch : Nat) (le sf st : Int) (x y : Int) (hx1 : k_sm x) (hy1 : k_sm y) (hb : ¬ (0 ≤ x ∧ x < 30)) : k_M l y_Mo_put (.code y_Mo_put b_Mo_put 4 (some .int) :: kW) rm_Mo_put_1 D k_cl (k_ty cI cR cG) [.ref (w 0), .int (zI x), .int (zI y)] ([(w 0, .inr (4, [.ref (w 1), .int (zI ↑n), .ref (w 2), .ref (w 3), .ref (w 4), .ref (w 5), .int (zI ↑np), .ref (w 6), .ref (w 7), .int (zI ↑kn), .ref (w 8), .ref (w 9), .ref (w 10), .int (zI ↑ch), .int (zI le), .ref (w 11), .int (zI sf), .int (zI st), .ref (w 12)]))]) (k_Qi D k_cl (zI (-1)) [(w 0, .inr (4, [.ref (w 1), .int (zI ↑n), .ref (w 2), .ref (w 3), .ref (w 4), .ref (w 5), .int (zI ↑np), .ref (w 6), .ref (w 7), .int (zI ↑kn), .ref (w 8), .ref (w 9), .ref (w 10), .int (zI ↑ch), .int (zI le), .ref (w 11), .int (zI sf), .int (zI st), .ref (w 12)]))]) := by
  refine k_start (cc := b_Mo_put) (maxL := 4) (ret := (some .int)) (by decide) rfl (Nat.le_of_ble_eq_true rfl) ?_
  intro p ev s m ar below meth c A ls Qf hQf hx hb hr hml hts hown hlocks hin hK hG hA hP hD hS hl
  replace hown : s.vm.findClass R_Mo = some m.cls := hown
  replace hl : lv_has ls 4 [(0, .ref (w 0)), (1, .int (zI x)), (2, .int (zI y))] := hl
  have hkw : ∀ w ∈ kW, w.before ar s = true := fun w h => hts w (List.mem_cons_of_mem _ h)
  replace hP : va_P D k_cl ([(w 0, .inr (4, [.ref (w 1), .int (zI ↑n), .ref (w 2), .ref (w 3), .ref (w 4), .ref (w 5), .int (zI ↑np), .ref (w 6), .ref (w 7), .int (zI ↑kn), .ref (w 8), .ref (w 9), .ref (w 10), .int (zI ↑ch), .int (zI le), .ref (w 11), .int (zI sf), .int (zI st), .ref (w 12)]))]) s.heap := hP
  replace hD : va_D A ([(w 0, .inr (4, [.ref (w 1), .int (zI ↑n), .ref (w 2), .ref (w 3), .ref (w 4), .ref (w 5), .int (zI ↑np), .ref (w 6), .ref (w 7), .int (zI ↑kn), .ref (w 8), .ref (w 9), .ref (w 10), .int (zI ↑ch), .int (zI le), .ref (w 11), .int (zI sf), .int (zI st), .ref (w 12)]))]) := hD
  have hx2 := hx1.1
  have hx3 := hx1.2
  have hy2 := hy1.1
  have hy3 := hy1.2
  refine lv_iload_n hx hb d_Mo_put_0 rfl (lv_at hl 1 rfl) ?_
  refine k_beI (va_runS (As := [.int (zI x)]) (rest := []) ⟨hx, hb, hml, hown, hkw⟩ (c_Mo_isPlace l D cI cR cG x ⟨by omega, by omega⟩ _) (va_cwS 1 hkw (k_gS kw_methodLink_Mo_46 kw_static_Mo_isPlace kw_initialized_Mo kw_code_Mo_isPlace) rfl rfl rfl (by decide +kernel) ⟨(Nat.le_of_ble_eq_true rfl), (Nat.le_of_ble_eq_true rfl)⟩) (k_preS hK hG hP hD [] rfl rfl) rfl rfl hl.1 rfl (lv_room (Nat.le_of_ble_eq_true rfl)) d_Mo_put_1 ⟨Nat.zero_le _, Nat.zero_le _⟩) hP hD hS hA [] rfl (Eq.trans (b := []) rfl rfl) ?_
  clear hP hD hS; intro H locs hP hD hS
  replace hP : va_P D k_cl ([(w 0, .inr (4, [.ref (w 1), .int (zI ↑n), .ref (w 2), .ref (w 3), .ref (w 4), .ref (w 5), .int (zI ↑np), .ref (w 6), .ref (w 7), .int (zI ↑kn), .ref (w 8), .ref (w 9), .ref (w 10), .int (zI ↑ch), .int (zI le), .ref (w 11), .int (zI sf), .int (zI st), .ref (w 12)]))]) H := hP
  replace hD : va_D A ([(w 0, .inr (4, [.ref (w 1), .int (zI ↑n), .ref (w 2), .ref (w 3), .ref (w 4), .ref (w 5), .int (zI ↑np), .ref (w 6), .ref (w 7), .int (zI ↑kn), .ref (w 8), .ref (w 9), .ref (w 10), .int (zI ↑ch), .int (zI le), .ref (w 11), .int (zI sf), .int (zI st), .ref (w 12)]))]) := hD
  refine k_bif_ne (tgt := 9) hx hb d_Mo_put_4 (by decide) (fun c_4 => ?_) (fun c_4 => ?_)
  · exfalso; omega
  · refine lv_iconst (v := zI (-1)) hx hb d_Mo_put_7 (by decide) ?_
    rw [← hQf]
    exact k_iret hx hb hr hlocks hP hS rfl d_Mo_put_8

abbrev rm_Mo_put_2 : Room := { frames := 1, cells := 0, slots := 0, locals := 20 }
set_option maxHeartbeats 4000000 in
set_option maxRecDepth 100000 in
theorem c_Mo_put_2 (l : Launch) (D : va_G) (cI cR cG : ClassId) (w : Nat → Nat) (n np kn ch : Nat) (le sf st : Int) (x y : Int) (hx1 : k_sm x) (hy1 : k_sm y) (ha : 0 ≤ x ∧ x < 30) (hb : ¬ (0 ≤ y ∧ y ≤ 1023)) : k_M l y_Mo_put (.code y_Mo_put b_Mo_put 4 (some .int) :: kW) rm_Mo_put_2 D k_cl (k_ty cI cR cG) [.ref (w 0), .int (zI x), .int (zI y)] ([(w 0, .inr (4, [.ref (w 1), .int (zI ↑n), .ref (w 2), .ref (w 3), .ref (w 4), .ref (w 5), .int (zI ↑np), .ref (w 6), .ref (w 7), .int (zI ↑kn), .ref (w 8), .ref (w 9), .ref (w 10), .int (zI ↑ch), .int (zI le), .ref (w 11), .int (zI sf), .int (zI st), .ref (w 12)]))]) (k_Qi D k_cl (zI (-2)) [(w 0, .inr (4, [.ref (w 1), .int (zI ↑n), .ref (w 2), .ref (w 3), .ref (w 4), .ref (w 5), .int (zI ↑np), .ref (w 6), .ref (w 7), .int (zI ↑kn), .ref (w 8), .ref (w 9), .ref (w 10), .int (zI ↑ch), .int (zI le), .ref (w 11), .int (zI sf), .int (zI st), .ref (w 12)]))]) := by
  refine k_start (cc := b_Mo_put) (maxL := 4) (ret := (some .int)) (by decide) rfl (Nat.le_of_ble_eq_true rfl) ?_
  intro p ev s m ar below meth c A ls Qf hQf hx hb hr hml hts hown hlocks hin hK hG hA hP hD hS hl
  replace hown : s.vm.findClass R_Mo = some m.cls := hown
  replace hl : lv_has ls 4 [(0, .ref (w 0)), (1, .int (zI x)), (2, .int (zI y))] := hl
  have hkw : ∀ w ∈ kW, w.before ar s = true := fun w h => hts w (List.mem_cons_of_mem _ h)
  replace hP : va_P D k_cl ([(w 0, .inr (4, [.ref (w 1), .int (zI ↑n), .ref (w 2), .ref (w 3), .ref (w 4), .ref (w 5), .int (zI ↑np), .ref (w 6), .ref (w 7), .int (zI ↑kn), .ref (w 8), .ref (w 9), .ref (w 10), .int (zI ↑ch), .int (zI le), .ref (w 11), .int (zI sf), .int (zI st), .ref (w 12)]))]) s.heap := hP
  replace hD : va_D A ([(w 0, .inr (4, [.ref (w 1), .int (zI ↑n), .ref (w 2), .ref (w 3), .ref (w 4), .ref (w 5), .int (zI ↑np), .ref (w 6), .ref (w 7), .int (zI ↑kn), .ref (w 8), .ref (w 9), .ref (w 10), .int (zI ↑ch), .int (zI le), .ref (w 11), .int (zI sf), .int (zI st), .ref (w 12)]))]) := hD
  have hx2 := hx1.1
  have hx3 := hx1.2
  have hy2 := hy1.1
  have hy3 := hy1.2
  refine lv_iload_n hx hb d_Mo_put_0 rfl (lv_at hl 1 rfl) ?_
  refine k_beI (va_runS (As := [.int (zI x)]) (rest := []) ⟨hx, hb, hml, hown, hkw⟩ (c_Mo_isPlace l D cI cR cG x ⟨by omega, by omega⟩ _) (va_cwS 1 hkw (k_gS kw_methodLink_Mo_46 kw_static_Mo_isPlace kw_initialized_Mo kw_code_Mo_isPlace) rfl rfl rfl (by decide +kernel) ⟨(Nat.le_of_ble_eq_true rfl), (Nat.le_of_ble_eq_true rfl)⟩) (k_preS hK hG hP hD [] rfl rfl) rfl rfl hl.1 rfl (lv_room (Nat.le_of_ble_eq_true rfl)) d_Mo_put_1 ⟨Nat.zero_le _, Nat.zero_le _⟩) hP hD hS hA [] rfl (Eq.trans (b := []) rfl rfl) ?_
  clear hP hD hS; intro H locs hP hD hS
  replace hP : va_P D k_cl ([(w 0, .inr (4, [.ref (w 1), .int (zI ↑n), .ref (w 2), .ref (w 3), .ref (w 4), .ref (w 5), .int (zI ↑np), .ref (w 6), .ref (w 7), .int (zI ↑kn), .ref (w 8), .ref (w 9), .ref (w 10), .int (zI ↑ch), .int (zI le), .ref (w 11), .int (zI sf), .int (zI st), .ref (w 12)]))]) H := hP
  replace hD : va_D A ([(w 0, .inr (4, [.ref (w 1), .int (zI ↑n), .ref (w 2), .ref (w 3), .ref (w 4), .ref (w 5), .int (zI ↑np), .ref (w 6), .ref (w 7), .int (zI ↑kn), .ref (w 8), .ref (w 9), .ref (w 10), .int (zI ↑ch), .int (zI le), .ref (w 11), .int (zI sf), .int (zI st), .ref (w 12)]))]) := hD
  refine k_bif_ne (tgt := 9) hx hb d_Mo_put_4 (by decide) (fun c_4 => ?_) (fun c_4 => ?_)
  · refine lv_iload_n hx hb d_Mo_put_9 rfl (lv_at hl 2 rfl) ?_
    refine k_beI (va_runS (As := [.int (zI y)]) (rest := []) ⟨hx, hb, hml, hown, hkw⟩ (c_Mo_isSet l D cI cR cG y ⟨by omega, by omega⟩ _) (va_cwS 1 hkw (k_gS kw_methodLink_Mo_50 kw_static_Mo_isSet kw_initialized_Mo kw_code_Mo_isSet) rfl rfl rfl (by decide +kernel) ⟨(Nat.le_of_ble_eq_true rfl), (Nat.le_of_ble_eq_true rfl)⟩) (k_preS hK hG hP hD [] rfl rfl) rfl rfl hl.1 rfl (lv_room (Nat.le_of_ble_eq_true rfl)) d_Mo_put_10 ⟨Nat.zero_le _, Nat.zero_le _⟩) hP hD hS hA [] rfl (Eq.trans (b := []) rfl rfl) ?_
    clear hP hD hS; intro H locs hP hD hS
    replace hP : va_P D k_cl ([(w 0, .inr (4, [.ref (w 1), .int (zI ↑n), .ref (w 2), .ref (w 3), .ref (w 4), .ref (w 5), .int (zI ↑np), .ref (w 6), .ref (w 7), .int (zI ↑kn), .ref (w 8), .ref (w 9), .ref (w 10), .int (zI ↑ch), .int (zI le), .ref (w 11), .int (zI sf), .int (zI st), .ref (w 12)]))]) H := hP
    replace hD : va_D A ([(w 0, .inr (4, [.ref (w 1), .int (zI ↑n), .ref (w 2), .ref (w 3), .ref (w 4), .ref (w 5), .int (zI ↑np), .ref (w 6), .ref (w 7), .int (zI ↑kn), .ref (w 8), .ref (w 9), .ref (w 10), .int (zI ↑ch), .int (zI le), .ref (w 11), .int (zI sf), .int (zI st), .ref (w 12)]))]) := hD
    refine k_bif_ne (tgt := 19) hx hb d_Mo_put_13 (by decide) (fun c_13 => ?_) (fun c_13 => ?_)
    · exfalso; omega
    · refine lv_bipush (v := zI (-2)) hx hb d_Mo_put_16 (by decide) ?_
      rw [← hQf]
      exact k_iret hx hb hr hlocks hP hS rfl d_Mo_put_18
  · exfalso; omega

abbrev rm_Mo_put_3 : Room := { frames := 1, cells := 0, slots := 0, locals := 20 }
set_option maxHeartbeats 4000000 in
set_option maxRecDepth 100000 in
theorem c_Mo_put_3 (l : Launch) (D : va_G) (cI cR cG : ClassId) (w : Nat → Nat) (n np kn ch : Nat) (le sf st : Int) (t : Nat → Nat) (i v : Nat) (hi : i < 30) (hv : v ≤ 1023) : k_M l y_Mo_put (.code y_Mo_put b_Mo_put 4 (some .int) :: kW) rm_Mo_put_3 D k_cl (k_ty cI cR cG) [.ref (w 0), .int (zI ↑i), .int (zI ↑v)] ([(w 0, .inr (4, [.ref (w 1), .int (zI ↑n), .ref (w 2), .ref (w 3), .ref (w 4), .ref (w 5), .int (zI ↑np), .ref (w 6), .ref (w 7), .int (zI ↑kn), .ref (w 8), .ref (w 9), .ref (w 10), .int (zI ↑ch), .int (zI le), .ref (w 11), .int (zI sf), .int (zI st), .ref (w 12)])), (w 1, .inl (cI, 30, .inl (kA t)))]) (k_Qi D k_cl (zI ↑(t i)) [(w 0, .inr (4, [.ref (w 1), .int (zI ↑n), .ref (w 2), .ref (w 3), .ref (w 4), .ref (w 5), .int (zI ↑np), .ref (w 6), .ref (w 7), .int (zI 0), .ref (w 8), .ref (w 9), .ref (w 10), .int (zI ↑ch), .int (zI le), .ref (w 11), .int (zI sf), .int (zI st), .ref (w 12)])), (w 1, .inl (cI, 30, .inl (kA (va_up t i v))))]) := by
  refine k_start (cc := b_Mo_put) (maxL := 4) (ret := (some .int)) (by decide) rfl (Nat.le_of_ble_eq_true rfl) ?_
  intro p ev s m ar below meth c A ls Qf hQf hx hb hr hml hts hown hlocks hin hK hG hA hP hD hS hl
  replace hown : s.vm.findClass R_Mo = some m.cls := hown
  replace hl : lv_has ls 4 [(0, .ref (w 0)), (1, .int (zI ↑i)), (2, .int (zI ↑v))] := hl
  have hkw : ∀ w ∈ kW, w.before ar s = true := fun w h => hts w (List.mem_cons_of_mem _ h)
  replace hP : va_P D k_cl ([(w 0, .inr (4, [.ref (w 1), .int (zI ↑n), .ref (w 2), .ref (w 3), .ref (w 4), .ref (w 5), .int (zI ↑np), .ref (w 6), .ref (w 7), .int (zI ↑kn), .ref (w 8), .ref (w 9), .ref (w 10), .int (zI ↑ch), .int (zI le), .ref (w 11), .int (zI sf), .int (zI st), .ref (w 12)])), (w 1, .inl (cI, 30, .inl (kA t)))]) s.heap := hP
  replace hD : va_D A ([(w 0, .inr (4, [.ref (w 1), .int (zI ↑n), .ref (w 2), .ref (w 3), .ref (w 4), .ref (w 5), .int (zI ↑np), .ref (w 6), .ref (w 7), .int (zI ↑kn), .ref (w 8), .ref (w 9), .ref (w 10), .int (zI ↑ch), .int (zI le), .ref (w 11), .int (zI sf), .int (zI st), .ref (w 12)])), (w 1, .inl (cI, 30, .inl (kA t)))]) := hD
  refine lv_iload_n hx hb d_Mo_put_0 rfl (lv_at hl 1 rfl) ?_
  refine k_beI (va_runS (As := [.int (zI ↑i)]) (rest := []) ⟨hx, hb, hml, hown, hkw⟩ (c_Mo_isPlace l D cI cR cG ↑i ⟨by omega, by omega⟩ _) (va_cwS 1 hkw (k_gS kw_methodLink_Mo_46 kw_static_Mo_isPlace kw_initialized_Mo kw_code_Mo_isPlace) rfl rfl rfl (by decide +kernel) ⟨(Nat.le_of_ble_eq_true rfl), (Nat.le_of_ble_eq_true rfl)⟩) (k_preS hK hG hP hD [] rfl rfl) rfl rfl hl.1 rfl (lv_room (Nat.le_of_ble_eq_true rfl)) d_Mo_put_1 ⟨Nat.zero_le _, Nat.zero_le _⟩) hP hD hS hA [] rfl (Eq.trans (b := []) rfl rfl) ?_
  clear hP hD hS; intro H locs hP hD hS
  replace hP : va_P D k_cl ([(w 0, .inr (4, [.ref (w 1), .int (zI ↑n), .ref (w 2), .ref (w 3), .ref (w 4), .ref (w 5), .int (zI ↑np), .ref (w 6), .ref (w 7), .int (zI ↑kn), .ref (w 8), .ref (w 9), .ref (w 10), .int (zI ↑ch), .int (zI le), .ref (w 11), .int (zI sf), .int (zI st), .ref (w 12)])), (w 1, .inl (cI, 30, .inl (kA t)))]) H := hP
  replace hD : va_D A ([(w 0, .inr (4, [.ref (w 1), .int (zI ↑n), .ref (w 2), .ref (w 3), .ref (w 4), .ref (w 5), .int (zI ↑np), .ref (w 6), .ref (w 7), .int (zI ↑kn), .ref (w 8), .ref (w 9), .ref (w 10), .int (zI ↑ch), .int (zI le), .ref (w 11), .int (zI sf), .int (zI st), .ref (w 12)])), (w 1, .inl (cI, 30, .inl (kA t)))]) := hD
  refine k_bif_ne (tgt := 9) hx hb d_Mo_put_4 (by decide) (fun c_4 => ?_) (fun c_4 => ?_)
  · refine lv_iload_n hx hb d_Mo_put_9 rfl (lv_at hl 2 rfl) ?_
    refine k_beI (va_runS (As := [.int (zI ↑v)]) (rest := []) ⟨hx, hb, hml, hown, hkw⟩ (c_Mo_isSet l D cI cR cG ↑v ⟨by omega, by omega⟩ _) (va_cwS 1 hkw (k_gS kw_methodLink_Mo_50 kw_static_Mo_isSet kw_initialized_Mo kw_code_Mo_isSet) rfl rfl rfl (by decide +kernel) ⟨(Nat.le_of_ble_eq_true rfl), (Nat.le_of_ble_eq_true rfl)⟩) (k_preS hK hG hP hD [] rfl rfl) rfl rfl hl.1 rfl (lv_room (Nat.le_of_ble_eq_true rfl)) d_Mo_put_10 ⟨Nat.zero_le _, Nat.zero_le _⟩) hP hD hS hA [] rfl (Eq.trans (b := []) rfl rfl) ?_
    clear hP hD hS; intro H locs hP hD hS
    replace hP : va_P D k_cl ([(w 0, .inr (4, [.ref (w 1), .int (zI ↑n), .ref (w 2), .ref (w 3), .ref (w 4), .ref (w 5), .int (zI ↑np), .ref (w 6), .ref (w 7), .int (zI ↑kn), .ref (w 8), .ref (w 9), .ref (w 10), .int (zI ↑ch), .int (zI le), .ref (w 11), .int (zI sf), .int (zI st), .ref (w 12)])), (w 1, .inl (cI, 30, .inl (kA t)))]) H := hP
    replace hD : va_D A ([(w 0, .inr (4, [.ref (w 1), .int (zI ↑n), .ref (w 2), .ref (w 3), .ref (w 4), .ref (w 5), .int (zI ↑np), .ref (w 6), .ref (w 7), .int (zI ↑kn), .ref (w 8), .ref (w 9), .ref (w 10), .int (zI ↑ch), .int (zI le), .ref (w 11), .int (zI sf), .int (zI st), .ref (w 12)])), (w 1, .inl (cI, 30, .inl (kA t)))]) := hD
    refine k_bif_ne (tgt := 19) hx hb d_Mo_put_13 (by decide) (fun c_13 => ?_) (fun c_13 => ?_)
    · refine lv_aload_n hx hb d_Mo_put_19 rfl (lv_at hl 0 rfl) ?_
      refine va_get (D := D) (ci := 4) (v := .ref (w 1)) (C := R_Mo) (T := T_Mo) (N := 19) hx hb hkw kin_Mo hown hK hP 0 rfl rfl 0 (by decide) (hkw _ kw_fieldLink_Mo_7) (fun _ h9 => h9) rfl d_Mo_put_20 ?_
      refine lv_iload_n hx hb d_Mo_put_23 rfl (lv_at hl 1 rfl) ?_
      refine k_ald hx hb hK hP 1 0 rfl rfl (i := i) (by omega) (by omega) (by omega) d_Mo_put_24 ?_
      refine lv_istore_n (lv' := [(3, .int (zI (↑(t i)))), (0, .ref (w 0)), (1, .int (zI ↑i)), (2, .int (zI ↑v))]) hx hb d_Mo_put_25 rfl hl (by decide) rfl ?_
      clear hl; intro ls hl
      refine lv_aload_n hx hb d_Mo_put_26 rfl (lv_at hl 1 rfl) ?_
      refine va_get (D := D) (ci := 4) (v := .ref (w 1)) (C := R_Mo) (T := T_Mo) (N := 19) hx hb hkw kin_Mo hown hK hP 0 rfl rfl 0 (by decide) (hkw _ kw_fieldLink_Mo_7) (fun _ h9 => h9) rfl d_Mo_put_27 ?_
      refine lv_iload_n hx hb d_Mo_put_30 rfl (lv_at hl 2 rfl) ?_
      refine lv_iload_n hx hb d_Mo_put_31 rfl (lv_at hl 3 rfl) ?_
      refine k_ast hx hb hK hP hD hS 1 0 rfl rfl (i := i) (v := v) (by omega) (by omega) (by omega) (by omega) d_Mo_put_32 ?_
      clear hP hD hS; intro H locs hP hD hS
      replace hP : va_P D k_cl ([(w 0, .inr (4, [.ref (w 1), .int (zI ↑n), .ref (w 2), .ref (w 3), .ref (w 4), .ref (w 5), .int (zI ↑np), .ref (w 6), .ref (w 7), .int (zI ↑kn), .ref (w 8), .ref (w 9), .ref (w 10), .int (zI ↑ch), .int (zI le), .ref (w 11), .int (zI sf), .int (zI st), .ref (w 12)])), (w 1, .inl (cI, 30, .inl (kA (va_up t i v))))]) H := hP
      replace hD : va_D A ([(w 0, .inr (4, [.ref (w 1), .int (zI ↑n), .ref (w 2), .ref (w 3), .ref (w 4), .ref (w 5), .int (zI ↑np), .ref (w 6), .ref (w 7), .int (zI ↑kn), .ref (w 8), .ref (w 9), .ref (w 10), .int (zI ↑ch), .int (zI le), .ref (w 11), .int (zI sf), .int (zI st), .ref (w 12)])), (w 1, .inl (cI, 30, .inl (kA (va_up t i v))))]) := hD
      refine lv_aload_n hx hb d_Mo_put_33 rfl (lv_at hl 1 rfl) ?_
      refine lv_iconst (v := zI 0) hx hb d_Mo_put_34 (by decide) ?_
      refine va_put (D := D) (ci := 4) (v := .int (zI 0)) (ty := .boolean) (C := R_Mo) (T := T_Mo) (N := 19) hx hb hkw kin_Mo ty_Mo ty_Mo_ok nm_Mo hown hK hP hD hS 0 rfl rfl 9 (by decide) (hkw _ kw_fieldLink_Mo_53) (fun _ h9 => h9) rfl (by decide +kernel) (by decide) (by decide) (Nat.le_of_ble_eq_true rfl) d_Mo_put_35 ?_
      clear hP hD hS; intro H locs hP hD hS
      replace hP : va_P D k_cl ([(w 0, .inr (4, [.ref (w 1), .int (zI ↑n), .ref (w 2), .ref (w 3), .ref (w 4), .ref (w 5), .int (zI ↑np), .ref (w 6), .ref (w 7), .int (zI 0), .ref (w 8), .ref (w 9), .ref (w 10), .int (zI ↑ch), .int (zI le), .ref (w 11), .int (zI sf), .int (zI st), .ref (w 12)])), (w 1, .inl (cI, 30, .inl (kA (va_up t i v))))]) H := hP
      replace hD : va_D A ([(w 0, .inr (4, [.ref (w 1), .int (zI ↑n), .ref (w 2), .ref (w 3), .ref (w 4), .ref (w 5), .int (zI ↑np), .ref (w 6), .ref (w 7), .int (zI 0), .ref (w 8), .ref (w 9), .ref (w 10), .int (zI ↑ch), .int (zI le), .ref (w 11), .int (zI sf), .int (zI st), .ref (w 12)])), (w 1, .inl (cI, 30, .inl (kA (va_up t i v))))]) := hD
      refine lv_iload_n hx hb d_Mo_put_38 rfl (lv_at hl 0 rfl) ?_
      rw [← hQf]
      exact k_iret hx hb hr hlocks hP hS rfl d_Mo_put_39
    · exfalso; omega
  · exfalso; omega

abbrev rm_Mo_clear : Room := { frames := 0, cells := 0, slots := 0, locals := 0 }
set_option maxHeartbeats 4000000 in
set_option maxRecDepth 100000 in
theorem c_Mo_clear (l : Launch) (D : va_G) (cI cR cG : ClassId) (w : Nat → Nat) (n np kn ch : Nat) (le sf st : Int) (t0 : Nat → Nat) (ht0 : ∀ j, t0 j ≤ 1023) : k_M l y_Mo_clear (.code y_Mo_clear b_Mo_clear 3 (some .int) :: kW) rm_Mo_clear D k_cl (k_ty cI cR cG) [.ref (w 0)] ([(w 0, .inr (4, [.ref (w 1), .int (zI ↑n), .ref (w 2), .ref (w 3), .ref (w 4), .ref (w 5), .int (zI ↑np), .ref (w 6), .ref (w 7), .int (zI ↑kn), .ref (w 8), .ref (w 9), .ref (w 10), .int (zI ↑ch), .int (zI le), .ref (w 11), .int (zI sf), .int (zI st), .ref (w 12)])), (w 1, .inl (cI, 30, .inl (kA t0)))]) (k_Qi D k_cl (zI ↑(cFil t0 30 0 0)) [(w 0, .inr (4, [.ref (w 1), .int (zI ↑n), .ref (w 2), .ref (w 3), .ref (w 4), .ref (w 5), .int (zI ↑np), .ref (w 6), .ref (w 7), .int (zI 0), .ref (w 8), .ref (w 9), .ref (w 10), .int (zI ↑ch), .int (zI le), .ref (w 11), .int (zI sf), .int (zI st), .ref (w 12)])), (w 1, .inl (cI, 30, .inl (kA (fun _ => 0))))]) := by
  refine k_start (cc := b_Mo_clear) (maxL := 3) (ret := (some .int)) (by decide) rfl (Nat.le_of_ble_eq_true rfl) ?_
  intro p ev s m ar below meth c A ls Qf hQf hx hb hr hml hts hown hlocks hin hK hG hA hP hD hS hl
  replace hown : s.vm.findClass R_Mo = some m.cls := hown
  replace hl : lv_has ls 3 [(0, .ref (w 0))] := hl
  have hkw : ∀ w ∈ kW, w.before ar s = true := fun w h => hts w (List.mem_cons_of_mem _ h)
  replace hP : va_P D k_cl ([(w 0, .inr (4, [.ref (w 1), .int (zI ↑n), .ref (w 2), .ref (w 3), .ref (w 4), .ref (w 5), .int (zI ↑np), .ref (w 6), .ref (w 7), .int (zI ↑kn), .ref (w 8), .ref (w 9), .ref (w 10), .int (zI ↑ch), .int (zI le), .ref (w 11), .int (zI sf), .int (zI st), .ref (w 12)])), (w 1, .inl (cI, 30, .inl (kA t0)))]) s.heap := hP
  replace hD : va_D A ([(w 0, .inr (4, [.ref (w 1), .int (zI ↑n), .ref (w 2), .ref (w 3), .ref (w 4), .ref (w 5), .int (zI ↑np), .ref (w 6), .ref (w 7), .int (zI ↑kn), .ref (w 8), .ref (w 9), .ref (w 10), .int (zI ↑ch), .int (zI le), .ref (w 11), .int (zI sf), .int (zI st), .ref (w 12)])), (w 1, .inl (cI, 30, .inl (kA t0)))]) := hD
  refine lv_iconst (v := zI 0) hx hb d_Mo_clear_0 (by decide) ?_
  refine lv_istore_n (lv' := [(1, .int (zI 0)), (0, .ref (w 0))]) hx hb d_Mo_clear_1 rfl hl (by decide) rfl ?_
  clear hl; intro ls hl
  refine lv_iconst (v := zI 0) hx hb d_Mo_clear_2 (by decide) ?_
  refine lv_istore_n (lv' := [(2, .int (zI 0)), (1, .int (zI 0)), (0, .ref (w 0))]) hx hb d_Mo_clear_3 rfl hl (by decide) rfl ?_
  clear hl; intro ls hl
  have loop_4 : ∀ (k : Nat) (i : Nat) (acc : Nat) (t : Nat → Nat), (i + k = 30) → (∀ j, t j ≤ 1023) → ((∀ j, j < i → t j = 0) ∧ ∀ j, i ≤ j → t j = t0 j) → (cFil t0 k i acc = cFil t0 30 0 0) → ∀ (H : Heap) (locs : List Loc) (ls : Array Slot), va_P D k_cl ([(w 0, .inr (4, [.ref (w 1), .int (zI ↑n), .ref (w 2), .ref (w 3), .ref (w 4), .ref (w 5), .int (zI ↑np), .ref (w 6), .ref (w 7), .int (zI ↑kn), .ref (w 8), .ref (w 9), .ref (w 10), .int (zI ↑ch), .int (zI le), .ref (w 11), .int (zI sf), .int (zI st), .ref (w 12)])), (w 1, .inl (cI, 30, .inl (kA t)))]) H → va_D A ([(w 0, .inr (4, [.ref (w 1), .int (zI ↑n), .ref (w 2), .ref (w 3), .ref (w 4), .ref (w 5), .int (zI ↑np), .ref (w 6), .ref (w 7), .int (zI ↑kn), .ref (w 8), .ref (w 9), .ref (w 10), .int (zI ↑ch), .int (zI le), .ref (w 11), .int (zI sf), .int (zI st), .ref (w 12)])), (w 1, .inl (cI, 30, .inl (kA t)))]) → va_S A s.heap H locs → lv_has ls 3 [(0, .ref (w 0)), (1, .int (zI ↑acc)), (2, .int (zI ↑i))] → W p l ev rm_Mo_clear s m ar below meth c H locs 0 0 Qf (F0 m 4 ls []) := by
    intro k
    induction k with
    | zero =>
      intro i acc t hin ht hz hgo H locs ls hP hD hS hl
      refine lv_iload_n hx hb d_Mo_clear_4 rfl (lv_at hl 2 rfl) ?_
      refine lv_bipush (v := zI 30) hx hb d_Mo_clear_5 (by decide) ?_
      refine k_icmp_ge (tgt := 40) hx hb d_Mo_clear_7 (by decide) ⟨by omega, by omega⟩ ⟨by omega, by omega⟩ (fun c_7 => ?_) (fun c_7 => ?_)
      · replace hP : va_P D k_cl [(w 0, .inr (4, [.ref (w 1), .int (zI ↑n), .ref (w 2), .ref (w 3), .ref (w 4), .ref (w 5), .int (zI ↑np), .ref (w 6), .ref (w 7), .int (zI ↑kn), .ref (w 8), .ref (w 9), .ref (w 10), .int (zI ↑ch), .int (zI le), .ref (w 11), .int (zI sf), .int (zI st), .ref (w 12)])), (w 1, .inl (cI, 30, .inl (kA (fun _ => 0))))] H := k_setext (ws := [(w 0, .inr (4, [.ref (w 1), .int (zI ↑n), .ref (w 2), .ref (w 3), .ref (w 4), .ref (w 5), .int (zI ↑np), .ref (w 6), .ref (w 7), .int (zI ↑kn), .ref (w 8), .ref (w 9), .ref (w 10), .int (zI ↑ch), .int (zI le), .ref (w 11), .int (zI sf), .int (zI st), .ref (w 12)])), (w 1, .inl (cI, 30, .inl (kA t)))]) (q := 1) (a := w 1) (cA := cI) (n := 30) (f := kA t) (g := kA (fun _ => 0)) hP (fun j hj => by unfold kA; rw [hz.1 j (by omega)])
        replace hD : va_D A [(w 0, .inr (4, [.ref (w 1), .int (zI ↑n), .ref (w 2), .ref (w 3), .ref (w 4), .ref (w 5), .int (zI ↑np), .ref (w 6), .ref (w 7), .int (zI ↑kn), .ref (w 8), .ref (w 9), .ref (w 10), .int (zI ↑ch), .int (zI le), .ref (w 11), .int (zI sf), .int (zI st), .ref (w 12)])), (w 1, .inl (cI, 30, .inl (kA (fun _ => 0))))] := k_D_fst hD (Eq.trans (b := [w 0, w 1]) rfl rfl)
        refine lv_aload_n hx hb d_Mo_clear_40 rfl (lv_at hl 0 rfl) ?_
        refine lv_iconst (v := zI 0) hx hb d_Mo_clear_41 (by decide) ?_
        refine va_put (D := D) (ci := 4) (v := .int (zI 0)) (ty := .boolean) (C := R_Mo) (T := T_Mo) (N := 19) hx hb hkw kin_Mo ty_Mo ty_Mo_ok nm_Mo hown hK hP hD hS 0 rfl rfl 9 (by decide) (hkw _ kw_fieldLink_Mo_53) (fun _ h9 => h9) rfl (by decide +kernel) (by decide) (by decide) (Nat.le_of_ble_eq_true rfl) d_Mo_clear_42 ?_
        clear hP hD hS; intro H locs hP hD hS
        replace hP : va_P D k_cl ([(w 0, .inr (4, [.ref (w 1), .int (zI ↑n), .ref (w 2), .ref (w 3), .ref (w 4), .ref (w 5), .int (zI ↑np), .ref (w 6), .ref (w 7), .int (zI 0), .ref (w 8), .ref (w 9), .ref (w 10), .int (zI ↑ch), .int (zI le), .ref (w 11), .int (zI sf), .int (zI st), .ref (w 12)])), (w 1, .inl (cI, 30, .inl (kA (fun _ => 0))))]) H := hP
        replace hD : va_D A ([(w 0, .inr (4, [.ref (w 1), .int (zI ↑n), .ref (w 2), .ref (w 3), .ref (w 4), .ref (w 5), .int (zI ↑np), .ref (w 6), .ref (w 7), .int (zI 0), .ref (w 8), .ref (w 9), .ref (w 10), .int (zI ↑ch), .int (zI le), .ref (w 11), .int (zI sf), .int (zI st), .ref (w 12)])), (w 1, .inl (cI, 30, .inl (kA (fun _ => 0))))]) := hD
        refine lv_iload_n hx hb d_Mo_clear_45 rfl (lv_at hl 1 rfl) ?_
        rw [← hQf]
        exact k_iret hx hb hr hlocks hP hS (by rw [← hgo]; rfl) d_Mo_clear_46
      · exfalso; omega
    | succ k ih_4 =>
      intro i acc t hin ht hz hgo H locs ls hP hD hS hl
      refine lv_iload_n hx hb d_Mo_clear_4 rfl (lv_at hl 2 rfl) ?_
      refine lv_bipush (v := zI 30) hx hb d_Mo_clear_5 (by decide) ?_
      refine k_icmp_ge (tgt := 40) hx hb d_Mo_clear_7 (by decide) ⟨by omega, by omega⟩ ⟨by omega, by omega⟩ (fun c_7 => ?_) (fun c_7 => ?_)
      · exfalso; omega
      · refine lv_iload_n hx hb d_Mo_clear_10 rfl (lv_at hl 1 rfl) ?_
        refine lv_aload_n hx hb d_Mo_clear_11 rfl (lv_at hl 0 rfl) ?_
        refine va_get (D := D) (ci := 4) (v := .ref (w 1)) (C := R_Mo) (T := T_Mo) (N := 19) hx hb hkw kin_Mo hown hK hP 0 rfl rfl 0 (by decide) (hkw _ kw_fieldLink_Mo_7) (fun _ h9 => h9) rfl d_Mo_clear_12 ?_
        refine lv_iload_n hx hb d_Mo_clear_15 rfl (lv_at hl 2 rfl) ?_
        refine k_ald hx hb hK hP 1 0 rfl rfl (i := i) (by omega) (by omega) (by omega) d_Mo_clear_16 ?_
        have hv_1 := ht i
        refine k_if_eq (tgt := 24) hx hb d_Mo_clear_17 (by decide) ⟨by omega, by omega⟩ (fun c_17 => ?_) (fun c_17 => ?_)
        · refine lv_iconst (v := zI 0) hx hb d_Mo_clear_24 (by decide) ?_
          refine k_iadd (v := ↑acc) hx hb d_Mo_clear_25 (by omega) ?_
          refine lv_istore_n (lv' := [(1, .int (zI ↑acc)), (0, .ref (w 0)), (2, .int (zI ↑i))]) hx hb d_Mo_clear_26 rfl hl (by decide) rfl ?_
          clear hl; intro ls hl
          refine lv_aload_n hx hb d_Mo_clear_27 rfl (lv_at hl 1 rfl) ?_
          refine va_get (D := D) (ci := 4) (v := .ref (w 1)) (C := R_Mo) (T := T_Mo) (N := 19) hx hb hkw kin_Mo hown hK hP 0 rfl rfl 0 (by decide) (hkw _ kw_fieldLink_Mo_7) (fun _ h9 => h9) rfl d_Mo_clear_28 ?_
          refine lv_iload_n hx hb d_Mo_clear_31 rfl (lv_at hl 2 rfl) ?_
          refine lv_iconst (v := zI 0) hx hb d_Mo_clear_32 (by decide) ?_
          refine k_ast hx hb hK hP hD hS 1 0 rfl rfl (i := i) (v := 0) (by omega) (by omega) (by omega) (by omega) d_Mo_clear_33 ?_
          clear hP hD hS; intro H locs hP hD hS
          replace hP : va_P D k_cl ([(w 0, .inr (4, [.ref (w 1), .int (zI ↑n), .ref (w 2), .ref (w 3), .ref (w 4), .ref (w 5), .int (zI ↑np), .ref (w 6), .ref (w 7), .int (zI ↑kn), .ref (w 8), .ref (w 9), .ref (w 10), .int (zI ↑ch), .int (zI le), .ref (w 11), .int (zI sf), .int (zI st), .ref (w 12)])), (w 1, .inl (cI, 30, .inl (kA (va_up t i 0))))]) H := hP
          replace hD : va_D A ([(w 0, .inr (4, [.ref (w 1), .int (zI ↑n), .ref (w 2), .ref (w 3), .ref (w 4), .ref (w 5), .int (zI ↑np), .ref (w 6), .ref (w 7), .int (zI ↑kn), .ref (w 8), .ref (w 9), .ref (w 10), .int (zI ↑ch), .int (zI le), .ref (w 11), .int (zI sf), .int (zI st), .ref (w 12)])), (w 1, .inl (cI, 30, .inl (kA (va_up t i 0))))]) := hD
          refine k_iinc (v := ↑(i + 1)) (lv' := [(2, .int (zI (↑(i + 1)))), (1, .int (zI ↑acc)), (0, .ref (w 0))]) hx hb d_Mo_clear_34 hl (k := 2) rfl (by omega) (by decide) rfl ?_
          clear hl; intro ls hl
          refine lv_goto (tgt := 4) hx hb d_Mo_clear_37 (by decide) ?_
          exact ih_4 (i + 1) acc (va_up t i 0) (by omega) (k_upB ht (by omega)) ⟨by intro j hj; unfold va_up; split <;> first | rfl | exact hz.1 j (by omega), by intro j hj; rw [va_up_ne _ _ (by omega)]; exact hz.2 j (by omega)⟩ (by have hti := hz.2 i (Nat.le_refl i); rw [cFil] at hgo; (repeat' split at hgo); all_goals first | exact hgo | (exfalso; omega)) _ _ _ hP hD hS (lv_sub hl [2, 1, 0] rfl)
        · refine lv_iconst (v := zI 1) hx hb d_Mo_clear_20 (by decide) ?_
          refine lv_goto (tgt := 25) hx hb d_Mo_clear_21 (by decide) ?_
          refine k_iadd (v := ↑(acc + 1)) hx hb d_Mo_clear_25 (by omega) ?_
          refine lv_istore_n (lv' := [(1, .int (zI (↑(acc + 1)))), (0, .ref (w 0)), (2, .int (zI ↑i))]) hx hb d_Mo_clear_26 rfl hl (by decide) rfl ?_
          clear hl; intro ls hl
          refine lv_aload_n hx hb d_Mo_clear_27 rfl (lv_at hl 1 rfl) ?_
          refine va_get (D := D) (ci := 4) (v := .ref (w 1)) (C := R_Mo) (T := T_Mo) (N := 19) hx hb hkw kin_Mo hown hK hP 0 rfl rfl 0 (by decide) (hkw _ kw_fieldLink_Mo_7) (fun _ h9 => h9) rfl d_Mo_clear_28 ?_
          refine lv_iload_n hx hb d_Mo_clear_31 rfl (lv_at hl 2 rfl) ?_
          refine lv_iconst (v := zI 0) hx hb d_Mo_clear_32 (by decide) ?_
          refine k_ast hx hb hK hP hD hS 1 0 rfl rfl (i := i) (v := 0) (by omega) (by omega) (by omega) (by omega) d_Mo_clear_33 ?_
          clear hP hD hS; intro H locs hP hD hS
          replace hP : va_P D k_cl ([(w 0, .inr (4, [.ref (w 1), .int (zI ↑n), .ref (w 2), .ref (w 3), .ref (w 4), .ref (w 5), .int (zI ↑np), .ref (w 6), .ref (w 7), .int (zI ↑kn), .ref (w 8), .ref (w 9), .ref (w 10), .int (zI ↑ch), .int (zI le), .ref (w 11), .int (zI sf), .int (zI st), .ref (w 12)])), (w 1, .inl (cI, 30, .inl (kA (va_up t i 0))))]) H := hP
          replace hD : va_D A ([(w 0, .inr (4, [.ref (w 1), .int (zI ↑n), .ref (w 2), .ref (w 3), .ref (w 4), .ref (w 5), .int (zI ↑np), .ref (w 6), .ref (w 7), .int (zI ↑kn), .ref (w 8), .ref (w 9), .ref (w 10), .int (zI ↑ch), .int (zI le), .ref (w 11), .int (zI sf), .int (zI st), .ref (w 12)])), (w 1, .inl (cI, 30, .inl (kA (va_up t i 0))))]) := hD
          refine k_iinc (v := ↑(i + 1)) (lv' := [(2, .int (zI (↑(i + 1)))), (1, .int (zI (↑(acc + 1)))), (0, .ref (w 0))]) hx hb d_Mo_clear_34 hl (k := 2) rfl (by omega) (by decide) rfl ?_
          clear hl; intro ls hl
          refine lv_goto (tgt := 4) hx hb d_Mo_clear_37 (by decide) ?_
          exact ih_4 (i + 1) (acc + 1) (va_up t i 0) (by omega) (k_upB ht (by omega)) ⟨by intro j hj; unfold va_up; split <;> first | rfl | exact hz.1 j (by omega), by intro j hj; rw [va_up_ne _ _ (by omega)]; exact hz.2 j (by omega)⟩ (by have hti := hz.2 i (Nat.le_refl i); rw [cFil] at hgo; (repeat' split at hgo); all_goals first | exact hgo | (exfalso; omega)) _ _ _ hP hD hS (lv_sub hl [2, 1, 0] rfl)
  exact loop_4 30 0 0 t0 (by omega) ht0 ⟨by omega, fun _ _ => rfl⟩ rfl _ _ _ hP hD hS (lv_sub hl [2, 1, 0] rfl)

abbrev rm_Mo_isAsk : Room := { frames := 0, cells := 0, slots := 0, locals := 0 }
set_option maxHeartbeats 4000000 in
set_option maxRecDepth 100000 in
theorem c_Mo_isAsk (l : Launch) (D : va_G) (cI cR cG : ClassId) (w : Nat → Nat) (n np kn ch : Nat) (le sf st : Int) (x : Int) (hx1 : k_sm x) (hn : n ≤ 30) : k_M l y_Mo_isAsk (.code y_Mo_isAsk b_Mo_isAsk 2 (some .boolean) :: kW) rm_Mo_isAsk D k_cl (k_ty cI cR cG) [.ref (w 0), .int (zI x)] ([(w 0, .inr (4, [.ref (w 1), .int (zI ↑n), .ref (w 2), .ref (w 3), .ref (w 4), .ref (w 5), .int (zI ↑np), .ref (w 6), .ref (w 7), .int (zI ↑kn), .ref (w 8), .ref (w 9), .ref (w 10), .int (zI ↑ch), .int (zI le), .ref (w 11), .int (zI sf), .int (zI st), .ref (w 12)]))]) (k_Qi D k_cl (k_b (0 ≤ x ∧ x < ↑n)) [(w 0, .inr (4, [.ref (w 1), .int (zI ↑n), .ref (w 2), .ref (w 3), .ref (w 4), .ref (w 5), .int (zI ↑np), .ref (w 6), .ref (w 7), .int (zI ↑kn), .ref (w 8), .ref (w 9), .ref (w 10), .int (zI ↑ch), .int (zI le), .ref (w 11), .int (zI sf), .int (zI st), .ref (w 12)]))]) := by
  refine k_start (cc := b_Mo_isAsk) (maxL := 2) (ret := (some .boolean)) (by decide) rfl (Nat.le_of_ble_eq_true rfl) ?_
  intro p ev s m ar below meth c A ls Qf hQf hx hb hr hml hts hown hlocks hin hK hG hA hP hD hS hl
  replace hown : s.vm.findClass R_Mo = some m.cls := hown
  replace hl : lv_has ls 2 [(0, .ref (w 0)), (1, .int (zI x))] := hl
  have hkw : ∀ w ∈ kW, w.before ar s = true := fun w h => hts w (List.mem_cons_of_mem _ h)
  replace hP : va_P D k_cl ([(w 0, .inr (4, [.ref (w 1), .int (zI ↑n), .ref (w 2), .ref (w 3), .ref (w 4), .ref (w 5), .int (zI ↑np), .ref (w 6), .ref (w 7), .int (zI ↑kn), .ref (w 8), .ref (w 9), .ref (w 10), .int (zI ↑ch), .int (zI le), .ref (w 11), .int (zI sf), .int (zI st), .ref (w 12)]))]) s.heap := hP
  replace hD : va_D A ([(w 0, .inr (4, [.ref (w 1), .int (zI ↑n), .ref (w 2), .ref (w 3), .ref (w 4), .ref (w 5), .int (zI ↑np), .ref (w 6), .ref (w 7), .int (zI ↑kn), .ref (w 8), .ref (w 9), .ref (w 10), .int (zI ↑ch), .int (zI le), .ref (w 11), .int (zI sf), .int (zI st), .ref (w 12)]))]) := hD
  have hx2 := hx1.1
  have hx3 := hx1.2
  refine lv_iload_n hx hb d_Mo_isAsk_0 rfl (lv_at hl 1 rfl) ?_
  refine k_if_lt (tgt := 16) hx hb d_Mo_isAsk_1 (by decide) ⟨by omega, by omega⟩ (fun c_1 => ?_) (fun c_1 => ?_)
  · refine lv_iconst (v := zI 0) hx hb d_Mo_isAsk_16 (by decide) ?_
    rw [← hQf]
    exact k_zret hx hb hr hlocks hP hS (k_bf (by omega)).symm d_Mo_isAsk_17
  · refine lv_iload_n hx hb d_Mo_isAsk_4 rfl (lv_at hl 1 rfl) ?_
    refine lv_aload_n hx hb d_Mo_isAsk_5 rfl (lv_at hl 0 rfl) ?_
    refine va_get (D := D) (ci := 4) (v := .int (zI ↑n)) (C := R_Mo) (T := T_Mo) (N := 19) hx hb hkw kin_Mo hown hK hP 0 rfl rfl 1 (by decide) (hkw _ kw_fieldLink_Mo_57) (fun _ h9 => h9) rfl d_Mo_isAsk_6 ?_
    refine k_icmp_ge (tgt := 16) hx hb d_Mo_isAsk_9 (by decide) ⟨by omega, by omega⟩ ⟨by omega, by omega⟩ (fun c_9 => ?_) (fun c_9 => ?_)
    · refine lv_iconst (v := zI 0) hx hb d_Mo_isAsk_16 (by decide) ?_
      rw [← hQf]
      exact k_zret hx hb hr hlocks hP hS (k_bf (by omega)).symm d_Mo_isAsk_17
    · refine lv_iconst (v := zI 1) hx hb d_Mo_isAsk_12 (by decide) ?_
      refine lv_goto (tgt := 17) hx hb d_Mo_isAsk_13 (by decide) ?_
      rw [← hQf]
      exact k_zret hx hb hr hlocks hP hS (k_bt (by omega)).symm d_Mo_isAsk_17

abbrev rm_Mo_ask_1 : Room := { frames := 1, cells := 0, slots := 0, locals := 21 }
set_option maxHeartbeats 4000000 in
set_option maxRecDepth 100000 in
theorem c_Mo_ask_1 (l : Launch) (D : va_G) (cI cR cG : ClassId) (w : Nat → Nat) (n np kn ch : Nat) (le sf st : Int) (x a b k : Int) (hx1 : k_sm x) (ha1 : k_sm a) (hb1 : k_sm b) (hk1 : k_sm k) (hn30 : n ≤ 30) (hbad : ¬ ((0 ≤ x ∧ x ≤ 10) ∧ ((x ≠ 1 ∧ x ≠ 5 ∧ x ≠ 6 ∧ x ≠ 7) → (0 ≤ k ∧ (x = 0 ∧ k < 10 ∨ x ≠ 0 ∧ k ≤ 30))) ∧ (x ≠ 0 → (0 ≤ a ∧ a < ↑n)) ∧ ((1 ≤ x ∧ x ≤ 8) → (0 ≤ b ∧ b < ↑n)) ∧ n < 30)) : k_M l y_Mo_ask (.code y_Mo_ask b_Mo_ask 6 (some .int) :: kW) rm_Mo_ask_1 D k_cl (k_ty cI cR cG) [.ref (w 0), .int (zI x), .int (zI a), .int (zI b), .int (zI k)] ([(w 0, .inr (4, [.ref (w 1), .int (zI ↑n), .ref (w 2), .ref (w 3), .ref (w 4), .ref (w 5), .int (zI ↑np), .ref (w 6), .ref (w 7), .int (zI ↑kn), .ref (w 8), .ref (w 9), .ref (w 10), .int (zI ↑ch), .int (zI le), .ref (w 11), .int (zI sf), .int (zI st), .ref (w 12)]))]) (k_Qi D k_cl (zI (askR n x a b k)) [(w 0, .inr (4, [.ref (w 1), .int (zI ↑n), .ref (w 2), .ref (w 3), .ref (w 4), .ref (w 5), .int (zI ↑np), .ref (w 6), .ref (w 7), .int (zI ↑kn), .ref (w 8), .ref (w 9), .ref (w 10), .int (zI ↑ch), .int (zI le), .ref (w 11), .int (zI sf), .int (zI st), .ref (w 12)]))]) := by
  refine k_start (cc := b_Mo_ask) (maxL := 6) (ret := (some .int)) (by decide) rfl (Nat.le_of_ble_eq_true rfl) ?_
  intro p ev s m ar below meth c A ls Qf hQf hx hb hr hml hts hown hlocks hin hK hG hA hP hD hS hl
  replace hown : s.vm.findClass R_Mo = some m.cls := hown
  replace hl : lv_has ls 6 [(0, .ref (w 0)), (1, .int (zI x)), (2, .int (zI a)), (3, .int (zI b)), (4, .int (zI k))] := hl
  have hkw : ∀ w ∈ kW, w.before ar s = true := fun w h => hts w (List.mem_cons_of_mem _ h)
  replace hP : va_P D k_cl ([(w 0, .inr (4, [.ref (w 1), .int (zI ↑n), .ref (w 2), .ref (w 3), .ref (w 4), .ref (w 5), .int (zI ↑np), .ref (w 6), .ref (w 7), .int (zI ↑kn), .ref (w 8), .ref (w 9), .ref (w 10), .int (zI ↑ch), .int (zI le), .ref (w 11), .int (zI sf), .int (zI st), .ref (w 12)]))]) s.heap := hP
  replace hD : va_D A ([(w 0, .inr (4, [.ref (w 1), .int (zI ↑n), .ref (w 2), .ref (w 3), .ref (w 4), .ref (w 5), .int (zI ↑np), .ref (w 6), .ref (w 7), .int (zI ↑kn), .ref (w 8), .ref (w 9), .ref (w 10), .int (zI ↑ch), .int (zI le), .ref (w 11), .int (zI sf), .int (zI st), .ref (w 12)]))]) := hD
  have hx2 := hx1.1
  have hx3 := hx1.2
  have ha2 := ha1.1
  have ha3 := ha1.2
  have hb2 := hb1.1
  have hb3 := hb1.2
  have hk2 := hk1.1
  have hk3 := hk1.2
  refine lv_iload_n hx hb d_Mo_ask_0 rfl (lv_at hl 1 rfl) ?_
  refine k_if_lt (tgt := 10) hx hb d_Mo_ask_1 (by decide) ⟨by omega, by omega⟩ (fun c_1 => ?_) (fun c_1 => ?_)
  · refine lv_bipush (v := zI (-2)) hx hb d_Mo_ask_10 (by decide) ?_
    rw [← hQf]
    exact k_iret hx hb hr hlocks hP hS (congrArg zI (by unfold askR; (repeat' split); all_goals first | rfl | omega | (exfalso; omega))) d_Mo_ask_12
  · refine lv_iload_n hx hb d_Mo_ask_4 rfl (lv_at hl 1 rfl) ?_
    refine lv_bipush (v := zI 10) hx hb d_Mo_ask_5 (by decide) ?_
    refine k_icmp_le (tgt := 13) hx hb d_Mo_ask_7 (by decide) ⟨by omega, by omega⟩ ⟨by omega, by omega⟩ (fun c_7 => ?_) (fun c_7 => ?_)
    · have join_38 : ∀ (c5 : Nat), (0 ≤ x ∧ x ≤ 10) → ((c5 = 1 ∧ (x = 0 ∨ 2 ≤ x ∧ x ≤ 4 ∨ 8 ≤ x)) ∨ (c5 = 0 ∧ ¬ (x = 0 ∨ 2 ≤ x ∧ x ≤ 4 ∨ 8 ≤ x))) → ∀ (H : Heap) (locs : List Loc) (ls : Array Slot), va_P D k_cl ([(w 0, .inr (4, [.ref (w 1), .int (zI ↑n), .ref (w 2), .ref (w 3), .ref (w 4), .ref (w 5), .int (zI ↑np), .ref (w 6), .ref (w 7), .int (zI ↑kn), .ref (w 8), .ref (w 9), .ref (w 10), .int (zI ↑ch), .int (zI le), .ref (w 11), .int (zI sf), .int (zI st), .ref (w 12)]))]) H → va_D A ([(w 0, .inr (4, [.ref (w 1), .int (zI ↑n), .ref (w 2), .ref (w 3), .ref (w 4), .ref (w 5), .int (zI ↑np), .ref (w 6), .ref (w 7), .int (zI ↑kn), .ref (w 8), .ref (w 9), .ref (w 10), .int (zI ↑ch), .int (zI le), .ref (w 11), .int (zI sf), .int (zI st), .ref (w 12)]))]) → va_S A s.heap H locs → lv_has ls 6 [(0, .ref (w 0)), (1, .int (zI x)), (2, .int (zI a)), (3, .int (zI b)), (4, .int (zI k))] → W p l ev rm_Mo_ask_1 s m ar below meth c H locs 0 0 Qf (F0 m 38 ls [.int (zI ↑c5)]) := by
        intro c5 hk0 hc5 H locs ls hP hD hS hl
        have join_69 : (0 ≤ x ∧ x ≤ 10) → ((x ≠ 1 ∧ x ≠ 5 ∧ x ≠ 6 ∧ x ≠ 7) → (0 ≤ k ∧ (x = 0 ∧ k < 10 ∨ x ≠ 0 ∧ k ≤ 30))) → ∀ (H : Heap) (locs : List Loc) (ls : Array Slot), va_P D k_cl ([(w 0, .inr (4, [.ref (w 1), .int (zI ↑n), .ref (w 2), .ref (w 3), .ref (w 4), .ref (w 5), .int (zI ↑np), .ref (w 6), .ref (w 7), .int (zI ↑kn), .ref (w 8), .ref (w 9), .ref (w 10), .int (zI ↑ch), .int (zI le), .ref (w 11), .int (zI sf), .int (zI st), .ref (w 12)]))]) H → va_D A ([(w 0, .inr (4, [.ref (w 1), .int (zI ↑n), .ref (w 2), .ref (w 3), .ref (w 4), .ref (w 5), .int (zI ↑np), .ref (w 6), .ref (w 7), .int (zI ↑kn), .ref (w 8), .ref (w 9), .ref (w 10), .int (zI ↑ch), .int (zI le), .ref (w 11), .int (zI sf), .int (zI st), .ref (w 12)]))]) → va_S A s.heap H locs → lv_has ls 6 [(0, .ref (w 0)), (1, .int (zI x)), (2, .int (zI a)), (3, .int (zI b)), (4, .int (zI k))] → W p l ev rm_Mo_ask_1 s m ar below meth c H locs 0 0 Qf (F0 m 69 ls []) := by
          intro hk0 hnum H locs ls hP hD hS hl
          have join_81 : (0 ≤ x ∧ x ≤ 10) → ((x ≠ 1 ∧ x ≠ 5 ∧ x ≠ 6 ∧ x ≠ 7) → (0 ≤ k ∧ (x = 0 ∧ k < 10 ∨ x ≠ 0 ∧ k ≤ 30))) → (x ≠ 0 → (0 ≤ a ∧ a < ↑n)) → ∀ (H : Heap) (locs : List Loc) (ls : Array Slot), va_P D k_cl ([(w 0, .inr (4, [.ref (w 1), .int (zI ↑n), .ref (w 2), .ref (w 3), .ref (w 4), .ref (w 5), .int (zI ↑np), .ref (w 6), .ref (w 7), .int (zI ↑kn), .ref (w 8), .ref (w 9), .ref (w 10), .int (zI ↑ch), .int (zI le), .ref (w 11), .int (zI sf), .int (zI st), .ref (w 12)]))]) H → va_D A ([(w 0, .inr (4, [.ref (w 1), .int (zI ↑n), .ref (w 2), .ref (w 3), .ref (w 4), .ref (w 5), .int (zI ↑np), .ref (w 6), .ref (w 7), .int (zI ↑kn), .ref (w 8), .ref (w 9), .ref (w 10), .int (zI ↑ch), .int (zI le), .ref (w 11), .int (zI sf), .int (zI st), .ref (w 12)]))]) → va_S A s.heap H locs → lv_has ls 6 [(0, .ref (w 0)), (1, .int (zI x)), (2, .int (zI a)), (3, .int (zI b)), (4, .int (zI k))] → W p l ev rm_Mo_ask_1 s m ar below meth c H locs 0 0 Qf (F0 m 81 ls []) := by
            intro hk0 hnum hha H locs ls hP hD hS hl
            have join_101 : (0 ≤ x ∧ x ≤ 10) → ((x ≠ 1 ∧ x ≠ 5 ∧ x ≠ 6 ∧ x ≠ 7) → (0 ≤ k ∧ (x = 0 ∧ k < 10 ∨ x ≠ 0 ∧ k ≤ 30))) → (x ≠ 0 → (0 ≤ a ∧ a < ↑n)) → ((1 ≤ x ∧ x ≤ 8) → (0 ≤ b ∧ b < ↑n)) → ∀ (H : Heap) (locs : List Loc) (ls : Array Slot), va_P D k_cl ([(w 0, .inr (4, [.ref (w 1), .int (zI ↑n), .ref (w 2), .ref (w 3), .ref (w 4), .ref (w 5), .int (zI ↑np), .ref (w 6), .ref (w 7), .int (zI ↑kn), .ref (w 8), .ref (w 9), .ref (w 10), .int (zI ↑ch), .int (zI le), .ref (w 11), .int (zI sf), .int (zI st), .ref (w 12)]))]) H → va_D A ([(w 0, .inr (4, [.ref (w 1), .int (zI ↑n), .ref (w 2), .ref (w 3), .ref (w 4), .ref (w 5), .int (zI ↑np), .ref (w 6), .ref (w 7), .int (zI ↑kn), .ref (w 8), .ref (w 9), .ref (w 10), .int (zI ↑ch), .int (zI le), .ref (w 11), .int (zI sf), .int (zI st), .ref (w 12)]))]) → va_S A s.heap H locs → lv_has ls 6 [(0, .ref (w 0)), (1, .int (zI x)), (2, .int (zI a)), (3, .int (zI b)), (4, .int (zI k))] → W p l ev rm_Mo_ask_1 s m ar below meth c H locs 0 0 Qf (F0 m 101 ls []) := by
              intro hk0 hnum hha hhb H locs ls hP hD hS hl
              refine lv_aload_n hx hb d_Mo_ask_101 rfl (lv_at hl 0 rfl) ?_
              refine va_get (D := D) (ci := 4) (v := .int (zI ↑n)) (C := R_Mo) (T := T_Mo) (N := 19) hx hb hkw kin_Mo hown hK hP 0 rfl rfl 1 (by decide) (hkw _ kw_fieldLink_Mo_57) (fun _ h9 => h9) rfl d_Mo_ask_102 ?_
              refine lv_bipush (v := zI 30) hx hb d_Mo_ask_105 (by decide) ?_
              refine k_icmp_ne (tgt := 113) hx hb d_Mo_ask_107 (by decide) ⟨by omega, by omega⟩ ⟨by omega, by omega⟩ (fun c_107 => ?_) (fun c_107 => ?_)
              · exfalso; omega
              · refine lv_bipush (v := zI (-4)) hx hb d_Mo_ask_110 (by decide) ?_
                rw [← hQf]
                exact k_iret hx hb hr hlocks hP hS (congrArg zI (by unfold askR; (repeat' split); all_goals first | rfl | omega | (exfalso; omega))) d_Mo_ask_112
            refine lv_iload_n hx hb d_Mo_ask_81 rfl (lv_at hl 1 rfl) ?_
            refine k_if_le (tgt := 101) hx hb d_Mo_ask_82 (by decide) ⟨by omega, by omega⟩ (fun c_82 => ?_) (fun c_82 => ?_)
            · exact join_101 (by omega) (by omega) (by omega) (by omega) _ _ _ hP hD hS (lv_sub hl [0, 1, 2, 3, 4] rfl)
            · refine lv_iload_n hx hb d_Mo_ask_85 rfl (lv_at hl 1 rfl) ?_
              refine lv_bipush (v := zI 9) hx hb d_Mo_ask_86 (by decide) ?_
              refine k_icmp_ge (tgt := 101) hx hb d_Mo_ask_88 (by decide) ⟨by omega, by omega⟩ ⟨by omega, by omega⟩ (fun c_88 => ?_) (fun c_88 => ?_)
              · exact join_101 (by omega) (by omega) (by omega) (by omega) _ _ _ hP hD hS (lv_sub hl [0, 1, 2, 3, 4] rfl)
              · refine lv_aload_n hx hb d_Mo_ask_91 rfl (lv_at hl 0 rfl) ?_
                refine lv_iload_n hx hb d_Mo_ask_92 rfl (lv_at hl 3 rfl) ?_
                refine k_beI (va_runV (As := [.int (zI b)]) (rest := []) ⟨hx, hb, hml, hown, hkw⟩ (c_Mo_isAsk l D cI cR cG w n np kn ch le sf st b ⟨by omega, by omega⟩ (by omega) _) (cwV 1 hkw (k_gV kw_methodLink_Mo_61 kw_instanceMethod_Mo_isAsk kw_selects_Mo_isAsk kw_initialized_Mo kw_code_Mo_isAsk) rfl rfl rfl (by decide +kernel) ⟨(Nat.le_of_ble_eq_true rfl), (Nat.le_of_ble_eq_true rfl)⟩) (k_preV (q0 := 0) hK hG hP hD [0] rfl rfl rfl rfl) rfl rfl hl.1 rfl (lv_room (Nat.le_of_ble_eq_true rfl)) d_Mo_ask_93 ⟨Nat.zero_le _, Nat.zero_le _⟩) hP hD hS hA [0] rfl (Eq.trans (b := [w 0]) rfl rfl) ?_
                clear hP hD hS; intro H locs hP hD hS
                replace hP : va_P D k_cl ([(w 0, .inr (4, [.ref (w 1), .int (zI ↑n), .ref (w 2), .ref (w 3), .ref (w 4), .ref (w 5), .int (zI ↑np), .ref (w 6), .ref (w 7), .int (zI ↑kn), .ref (w 8), .ref (w 9), .ref (w 10), .int (zI ↑ch), .int (zI le), .ref (w 11), .int (zI sf), .int (zI st), .ref (w 12)]))]) H := hP
                replace hD : va_D A ([(w 0, .inr (4, [.ref (w 1), .int (zI ↑n), .ref (w 2), .ref (w 3), .ref (w 4), .ref (w 5), .int (zI ↑np), .ref (w 6), .ref (w 7), .int (zI ↑kn), .ref (w 8), .ref (w 9), .ref (w 10), .int (zI ↑ch), .int (zI le), .ref (w 11), .int (zI sf), .int (zI st), .ref (w 12)]))]) := hD
                refine k_bif_ne (tgt := 101) hx hb d_Mo_ask_96 (by decide) (fun c_96 => ?_) (fun c_96 => ?_)
                · exact join_101 (by omega) (by omega) (by omega) (by omega) _ _ _ hP hD hS (lv_sub hl [0, 1, 2, 3, 4] rfl)
                · refine lv_iconst (v := zI (-1)) hx hb d_Mo_ask_99 (by decide) ?_
                  rw [← hQf]
                  exact k_iret hx hb hr hlocks hP hS (congrArg zI (by unfold askR; (repeat' split); all_goals first | rfl | omega | (exfalso; omega))) d_Mo_ask_100
          refine lv_iload_n hx hb d_Mo_ask_69 rfl (lv_at hl 1 rfl) ?_
          refine k_if_le (tgt := 81) hx hb d_Mo_ask_70 (by decide) ⟨by omega, by omega⟩ (fun c_70 => ?_) (fun c_70 => ?_)
          · exact join_81 (by omega) (by omega) (by omega) _ _ _ hP hD hS (lv_sub hl [0, 1, 2, 3, 4] rfl)
          · refine lv_aload_n hx hb d_Mo_ask_73 rfl (lv_at hl 0 rfl) ?_
            refine lv_iload_n hx hb d_Mo_ask_74 rfl (lv_at hl 2 rfl) ?_
            refine k_beI (va_runV (As := [.int (zI a)]) (rest := []) ⟨hx, hb, hml, hown, hkw⟩ (c_Mo_isAsk l D cI cR cG w n np kn ch le sf st a ⟨by omega, by omega⟩ (by omega) _) (cwV 1 hkw (k_gV kw_methodLink_Mo_61 kw_instanceMethod_Mo_isAsk kw_selects_Mo_isAsk kw_initialized_Mo kw_code_Mo_isAsk) rfl rfl rfl (by decide +kernel) ⟨(Nat.le_of_ble_eq_true rfl), (Nat.le_of_ble_eq_true rfl)⟩) (k_preV (q0 := 0) hK hG hP hD [0] rfl rfl rfl rfl) rfl rfl hl.1 rfl (lv_room (Nat.le_of_ble_eq_true rfl)) d_Mo_ask_75 ⟨Nat.zero_le _, Nat.zero_le _⟩) hP hD hS hA [0] rfl (Eq.trans (b := [w 0]) rfl rfl) ?_
            clear hP hD hS; intro H locs hP hD hS
            replace hP : va_P D k_cl ([(w 0, .inr (4, [.ref (w 1), .int (zI ↑n), .ref (w 2), .ref (w 3), .ref (w 4), .ref (w 5), .int (zI ↑np), .ref (w 6), .ref (w 7), .int (zI ↑kn), .ref (w 8), .ref (w 9), .ref (w 10), .int (zI ↑ch), .int (zI le), .ref (w 11), .int (zI sf), .int (zI st), .ref (w 12)]))]) H := hP
            replace hD : va_D A ([(w 0, .inr (4, [.ref (w 1), .int (zI ↑n), .ref (w 2), .ref (w 3), .ref (w 4), .ref (w 5), .int (zI ↑np), .ref (w 6), .ref (w 7), .int (zI ↑kn), .ref (w 8), .ref (w 9), .ref (w 10), .int (zI ↑ch), .int (zI le), .ref (w 11), .int (zI sf), .int (zI st), .ref (w 12)]))]) := hD
            refine k_bif_eq (tgt := 99) hx hb d_Mo_ask_78 (by decide) (fun c_78 => ?_) (fun c_78 => ?_)
            · refine lv_iconst (v := zI (-1)) hx hb d_Mo_ask_99 (by decide) ?_
              rw [← hQf]
              exact k_iret hx hb hr hlocks hP hS (congrArg zI (by unfold askR; (repeat' split); all_goals first | rfl | omega | (exfalso; omega))) d_Mo_ask_100
            · exact join_81 (by omega) (by omega) (by omega) _ _ _ hP hD hS (lv_sub hl [0, 1, 2, 3, 4] rfl)
        refine lv_istore (lv' := [(5, .int (zI ↑c5)), (0, .ref (w 0)), (1, .int (zI x)), (2, .int (zI a)), (3, .int (zI b)), (4, .int (zI k))]) hx hb d_Mo_ask_38 hl (by decide) rfl ?_
        clear hl; intro ls hl
        refine lv_iload hx hb d_Mo_ask_40 (lv_at hl 0 rfl) ?_
        refine k_if_eq (tgt := 69) hx hb d_Mo_ask_42 (by decide) ⟨by omega, by omega⟩ (fun c_42 => ?_) (fun c_42 => ?_)
        · exact join_69 (by omega) (by omega) _ _ _ hP hD hS (lv_sub hl [1, 2, 3, 4, 5] rfl)
        · refine lv_iload hx hb d_Mo_ask_45 (lv_at hl 5 rfl) ?_
          refine k_if_lt (tgt := 66) hx hb d_Mo_ask_47 (by decide) ⟨by omega, by omega⟩ (fun c_47 => ?_) (fun c_47 => ?_)
          · refine lv_bipush (v := zI (-2)) hx hb d_Mo_ask_66 (by decide) ?_
            rw [← hQf]
            exact k_iret hx hb hr hlocks hP hS (congrArg zI (by unfold askR; (repeat' split); all_goals first | rfl | omega | (exfalso; omega))) d_Mo_ask_68
          · refine lv_iload hx hb d_Mo_ask_50 (lv_at hl 5 rfl) ?_
            refine lv_iload_n hx hb d_Mo_ask_52 rfl (lv_at hl 2 rfl) ?_
            refine k_if_ne (tgt := 61) hx hb d_Mo_ask_53 (by decide) ⟨by omega, by omega⟩ (fun c_53 => ?_) (fun c_53 => ?_)
            · refine lv_bipush (v := zI 30) hx hb d_Mo_ask_61 (by decide) ?_
              refine k_icmp_le (tgt := 69) hx hb d_Mo_ask_63 (by decide) ⟨by omega, by omega⟩ ⟨by omega, by omega⟩ (fun c_63 => ?_) (fun c_63 => ?_)
              · exact join_69 (by omega) (by omega) _ _ _ hP hD hS (lv_sub hl [1, 2, 3, 4, 5] rfl)
              · refine lv_bipush (v := zI (-2)) hx hb d_Mo_ask_66 (by decide) ?_
                rw [← hQf]
                exact k_iret hx hb hr hlocks hP hS (congrArg zI (by unfold askR; (repeat' split); all_goals first | rfl | omega | (exfalso; omega))) d_Mo_ask_68
            · refine lv_bipush (v := zI 9) hx hb d_Mo_ask_56 (by decide) ?_
              refine lv_goto (tgt := 63) hx hb d_Mo_ask_58 (by decide) ?_
              refine k_icmp_le (tgt := 69) hx hb d_Mo_ask_63 (by decide) ⟨by omega, by omega⟩ ⟨by omega, by omega⟩ (fun c_63 => ?_) (fun c_63 => ?_)
              · exact join_69 (by omega) (by omega) _ _ _ hP hD hS (lv_sub hl [1, 2, 3, 4, 5] rfl)
              · refine lv_bipush (v := zI (-2)) hx hb d_Mo_ask_66 (by decide) ?_
                rw [← hQf]
                exact k_iret hx hb hr hlocks hP hS (congrArg zI (by unfold askR; (repeat' split); all_goals first | rfl | omega | (exfalso; omega))) d_Mo_ask_68
      refine lv_iload_n hx hb d_Mo_ask_13 rfl (lv_at hl 1 rfl) ?_
      refine k_if_eq (tgt := 33) hx hb d_Mo_ask_14 (by decide) ⟨by omega, by omega⟩ (fun c_14 => ?_) (fun c_14 => ?_)
      · refine lv_iconst (v := zI 1) hx hb d_Mo_ask_33 (by decide) ?_
        refine lv_goto (tgt := 38) hx hb d_Mo_ask_34 (by decide) ?_
        exact join_38 1 (by omega) (by omega) _ _ _ hP hD hS (lv_sub hl [0, 1, 2, 3, 4] rfl)
      · refine lv_iload_n hx hb d_Mo_ask_17 rfl (lv_at hl 1 rfl) ?_
        refine lv_iconst (v := zI 2) hx hb d_Mo_ask_18 (by decide) ?_
        refine k_icmp_lt (tgt := 27) hx hb d_Mo_ask_19 (by decide) ⟨by omega, by omega⟩ ⟨by omega, by omega⟩ (fun c_19 => ?_) (fun c_19 => ?_)
        · refine lv_iload_n hx hb d_Mo_ask_27 rfl (lv_at hl 1 rfl) ?_
          refine lv_bipush (v := zI 8) hx hb d_Mo_ask_28 (by decide) ?_
          refine k_icmp_lt (tgt := 37) hx hb d_Mo_ask_30 (by decide) ⟨by omega, by omega⟩ ⟨by omega, by omega⟩ (fun c_30 => ?_) (fun c_30 => ?_)
          · refine lv_iconst (v := zI 0) hx hb d_Mo_ask_37 (by decide) ?_
            exact join_38 0 (by omega) (by omega) _ _ _ hP hD hS (lv_sub hl [0, 1, 2, 3, 4] rfl)
          · refine lv_iconst (v := zI 1) hx hb d_Mo_ask_33 (by decide) ?_
            refine lv_goto (tgt := 38) hx hb d_Mo_ask_34 (by decide) ?_
            exact join_38 1 (by omega) (by omega) _ _ _ hP hD hS (lv_sub hl [0, 1, 2, 3, 4] rfl)
        · refine lv_iload_n hx hb d_Mo_ask_22 rfl (lv_at hl 1 rfl) ?_
          refine lv_iconst (v := zI 4) hx hb d_Mo_ask_23 (by decide) ?_
          refine k_icmp_le (tgt := 33) hx hb d_Mo_ask_24 (by decide) ⟨by omega, by omega⟩ ⟨by omega, by omega⟩ (fun c_24 => ?_) (fun c_24 => ?_)
          · refine lv_iconst (v := zI 1) hx hb d_Mo_ask_33 (by decide) ?_
            refine lv_goto (tgt := 38) hx hb d_Mo_ask_34 (by decide) ?_
            exact join_38 1 (by omega) (by omega) _ _ _ hP hD hS (lv_sub hl [0, 1, 2, 3, 4] rfl)
          · refine lv_iload_n hx hb d_Mo_ask_27 rfl (lv_at hl 1 rfl) ?_
            refine lv_bipush (v := zI 8) hx hb d_Mo_ask_28 (by decide) ?_
            refine k_icmp_lt (tgt := 37) hx hb d_Mo_ask_30 (by decide) ⟨by omega, by omega⟩ ⟨by omega, by omega⟩ (fun c_30 => ?_) (fun c_30 => ?_)
            · refine lv_iconst (v := zI 0) hx hb d_Mo_ask_37 (by decide) ?_
              exact join_38 0 (by omega) (by omega) _ _ _ hP hD hS (lv_sub hl [0, 1, 2, 3, 4] rfl)
            · refine lv_iconst (v := zI 1) hx hb d_Mo_ask_33 (by decide) ?_
              refine lv_goto (tgt := 38) hx hb d_Mo_ask_34 (by decide) ?_
              exact join_38 1 (by omega) (by omega) _ _ _ hP hD hS (lv_sub hl [0, 1, 2, 3, 4] rfl)
    · refine lv_bipush (v := zI (-2)) hx hb d_Mo_ask_10 (by decide) ?_
      rw [← hQf]
      exact k_iret hx hb hr hlocks hP hS (congrArg zI (by unfold askR; (repeat' split); all_goals first | rfl | omega | (exfalso; omega))) d_Mo_ask_12

abbrev rm_Mo_ask_2 : Room := { frames := 1, cells := 0, slots := 0, locals := 21 }
set_option maxHeartbeats 4000000 in
set_option maxRecDepth 100000 in
theorem c_Mo_ask_2 (l : Launch) (D : va_G) (cI cR cG : ClassId) (w : Nat → Nat) (n np kn ch : Nat) (le sf st : Int) (K : Nat → Nat) (on ot nu : Nat → Int) (x a b k : Int) (hx1 : k_sm x) (ha1 : k_sm a) (hb1 : k_sm b) (hk1 : k_sm k) (hn30 : n ≤ 30) (hk0 : 0 ≤ x ∧ x ≤ 10) (hnum : (x ≠ 1 ∧ x ≠ 5 ∧ x ≠ 6 ∧ x ≠ 7) → (0 ≤ k ∧ (x = 0 ∧ k < 10 ∨ x ≠ 0 ∧ k ≤ 30))) (hha : x ≠ 0 → (0 ≤ a ∧ a < ↑n)) (hhb : (1 ≤ x ∧ x ≤ 8) → (0 ≤ b ∧ b < ↑n)) (hn : n < 30) : k_M l y_Mo_ask (.code y_Mo_ask b_Mo_ask 6 (some .int) :: kW) rm_Mo_ask_2 D k_cl (k_ty cI cR cG) [.ref (w 0), .int (zI x), .int (zI a), .int (zI b), .int (zI k)] ([(w 0, .inr (4, [.ref (w 1), .int (zI ↑n), .ref (w 2), .ref (w 3), .ref (w 4), .ref (w 5), .int (zI ↑np), .ref (w 6), .ref (w 7), .int (zI ↑kn), .ref (w 8), .ref (w 9), .ref (w 10), .int (zI ↑ch), .int (zI le), .ref (w 11), .int (zI sf), .int (zI st), .ref (w 12)])), (w 2, .inl (cI, 30, .inl (kA K))), (w 3, .inl (cI, 30, .inl (kZ on))), (w 4, .inl (cI, 30, .inl (kZ ot))), (w 5, .inl (cI, 30, .inl (kZ nu)))]) (k_Qi D k_cl (zI ↑n) [(w 0, .inr (4, [.ref (w 1), .int (zI (↑(n + 1))), .ref (w 2), .ref (w 3), .ref (w 4), .ref (w 5), .int (zI ↑np), .ref (w 6), .ref (w 7), .int (zI ↑kn), .ref (w 8), .ref (w 9), .ref (w 10), .int (zI ↑ch), .int (zI le), .ref (w 11), .int (zI sf), .int (zI st), .ref (w 12)])), (w 2, .inl (cI, 30, .inl (kA (va_up K n x.toNat)))), (w 3, .inl (cI, 30, .inl (kZ (va_up on n a)))), (w 4, .inl (cI, 30, .inl (kZ (va_up ot n b)))), (w 5, .inl (cI, 30, .inl (kZ (va_up nu n k))))]) := by
  refine k_start (cc := b_Mo_ask) (maxL := 6) (ret := (some .int)) (by decide) rfl (Nat.le_of_ble_eq_true rfl) ?_
  intro p ev s m ar below meth c A ls Qf hQf hx hb hr hml hts hown hlocks hin hK hG hA hP hD hS hl
  replace hown : s.vm.findClass R_Mo = some m.cls := hown
  replace hl : lv_has ls 6 [(0, .ref (w 0)), (1, .int (zI x)), (2, .int (zI a)), (3, .int (zI b)), (4, .int (zI k))] := hl
  have hkw : ∀ w ∈ kW, w.before ar s = true := fun w h => hts w (List.mem_cons_of_mem _ h)
  replace hP : va_P D k_cl ([(w 0, .inr (4, [.ref (w 1), .int (zI ↑n), .ref (w 2), .ref (w 3), .ref (w 4), .ref (w 5), .int (zI ↑np), .ref (w 6), .ref (w 7), .int (zI ↑kn), .ref (w 8), .ref (w 9), .ref (w 10), .int (zI ↑ch), .int (zI le), .ref (w 11), .int (zI sf), .int (zI st), .ref (w 12)])), (w 2, .inl (cI, 30, .inl (kA K))), (w 3, .inl (cI, 30, .inl (kZ on))), (w 4, .inl (cI, 30, .inl (kZ ot))), (w 5, .inl (cI, 30, .inl (kZ nu)))]) s.heap := hP
  replace hD : va_D A ([(w 0, .inr (4, [.ref (w 1), .int (zI ↑n), .ref (w 2), .ref (w 3), .ref (w 4), .ref (w 5), .int (zI ↑np), .ref (w 6), .ref (w 7), .int (zI ↑kn), .ref (w 8), .ref (w 9), .ref (w 10), .int (zI ↑ch), .int (zI le), .ref (w 11), .int (zI sf), .int (zI st), .ref (w 12)])), (w 2, .inl (cI, 30, .inl (kA K))), (w 3, .inl (cI, 30, .inl (kZ on))), (w 4, .inl (cI, 30, .inl (kZ ot))), (w 5, .inl (cI, 30, .inl (kZ nu)))]) := hD
  have hx2 := hx1.1
  have hx3 := hx1.2
  have ha2 := ha1.1
  have ha3 := ha1.2
  have hb2 := hb1.1
  have hb3 := hb1.2
  have hk2 := hk1.1
  have hk3 := hk1.2
  refine lv_iload_n hx hb d_Mo_ask_0 rfl (lv_at hl 1 rfl) ?_
  refine k_if_lt (tgt := 10) hx hb d_Mo_ask_1 (by decide) ⟨by omega, by omega⟩ (fun c_1 => ?_) (fun c_1 => ?_)
  · exfalso; omega
  · refine lv_iload_n hx hb d_Mo_ask_4 rfl (lv_at hl 1 rfl) ?_
    refine lv_bipush (v := zI 10) hx hb d_Mo_ask_5 (by decide) ?_
    refine k_icmp_le (tgt := 13) hx hb d_Mo_ask_7 (by decide) ⟨by omega, by omega⟩ ⟨by omega, by omega⟩ (fun c_7 => ?_) (fun c_7 => ?_)
    · have join_38 : ∀ (c5 : Nat), ((c5 = 1 ∧ (x = 0 ∨ 2 ≤ x ∧ x ≤ 4 ∨ 8 ≤ x)) ∨ (c5 = 0 ∧ ¬ (x = 0 ∨ 2 ≤ x ∧ x ≤ 4 ∨ 8 ≤ x))) → ∀ (H : Heap) (locs : List Loc) (ls : Array Slot), va_P D k_cl ([(w 0, .inr (4, [.ref (w 1), .int (zI ↑n), .ref (w 2), .ref (w 3), .ref (w 4), .ref (w 5), .int (zI ↑np), .ref (w 6), .ref (w 7), .int (zI ↑kn), .ref (w 8), .ref (w 9), .ref (w 10), .int (zI ↑ch), .int (zI le), .ref (w 11), .int (zI sf), .int (zI st), .ref (w 12)])), (w 2, .inl (cI, 30, .inl (kA K))), (w 3, .inl (cI, 30, .inl (kZ on))), (w 4, .inl (cI, 30, .inl (kZ ot))), (w 5, .inl (cI, 30, .inl (kZ nu)))]) H → va_D A ([(w 0, .inr (4, [.ref (w 1), .int (zI ↑n), .ref (w 2), .ref (w 3), .ref (w 4), .ref (w 5), .int (zI ↑np), .ref (w 6), .ref (w 7), .int (zI ↑kn), .ref (w 8), .ref (w 9), .ref (w 10), .int (zI ↑ch), .int (zI le), .ref (w 11), .int (zI sf), .int (zI st), .ref (w 12)])), (w 2, .inl (cI, 30, .inl (kA K))), (w 3, .inl (cI, 30, .inl (kZ on))), (w 4, .inl (cI, 30, .inl (kZ ot))), (w 5, .inl (cI, 30, .inl (kZ nu)))]) → va_S A s.heap H locs → lv_has ls 6 [(0, .ref (w 0)), (1, .int (zI x)), (2, .int (zI a)), (3, .int (zI b)), (4, .int (zI k))] → W p l ev rm_Mo_ask_2 s m ar below meth c H locs 0 0 Qf (F0 m 38 ls [.int (zI ↑c5)]) := by
        intro c5 hc5 H locs ls hP hD hS hl
        have join_69 : ∀ (H : Heap) (locs : List Loc) (ls : Array Slot), va_P D k_cl ([(w 0, .inr (4, [.ref (w 1), .int (zI ↑n), .ref (w 2), .ref (w 3), .ref (w 4), .ref (w 5), .int (zI ↑np), .ref (w 6), .ref (w 7), .int (zI ↑kn), .ref (w 8), .ref (w 9), .ref (w 10), .int (zI ↑ch), .int (zI le), .ref (w 11), .int (zI sf), .int (zI st), .ref (w 12)])), (w 2, .inl (cI, 30, .inl (kA K))), (w 3, .inl (cI, 30, .inl (kZ on))), (w 4, .inl (cI, 30, .inl (kZ ot))), (w 5, .inl (cI, 30, .inl (kZ nu)))]) H → va_D A ([(w 0, .inr (4, [.ref (w 1), .int (zI ↑n), .ref (w 2), .ref (w 3), .ref (w 4), .ref (w 5), .int (zI ↑np), .ref (w 6), .ref (w 7), .int (zI ↑kn), .ref (w 8), .ref (w 9), .ref (w 10), .int (zI ↑ch), .int (zI le), .ref (w 11), .int (zI sf), .int (zI st), .ref (w 12)])), (w 2, .inl (cI, 30, .inl (kA K))), (w 3, .inl (cI, 30, .inl (kZ on))), (w 4, .inl (cI, 30, .inl (kZ ot))), (w 5, .inl (cI, 30, .inl (kZ nu)))]) → va_S A s.heap H locs → lv_has ls 6 [(0, .ref (w 0)), (1, .int (zI x)), (2, .int (zI a)), (3, .int (zI b)), (4, .int (zI k))] → W p l ev rm_Mo_ask_2 s m ar below meth c H locs 0 0 Qf (F0 m 69 ls []) := by
          intro  H locs ls hP hD hS hl
          have join_81 : ∀ (H : Heap) (locs : List Loc) (ls : Array Slot), va_P D k_cl ([(w 0, .inr (4, [.ref (w 1), .int (zI ↑n), .ref (w 2), .ref (w 3), .ref (w 4), .ref (w 5), .int (zI ↑np), .ref (w 6), .ref (w 7), .int (zI ↑kn), .ref (w 8), .ref (w 9), .ref (w 10), .int (zI ↑ch), .int (zI le), .ref (w 11), .int (zI sf), .int (zI st), .ref (w 12)])), (w 2, .inl (cI, 30, .inl (kA K))), (w 3, .inl (cI, 30, .inl (kZ on))), (w 4, .inl (cI, 30, .inl (kZ ot))), (w 5, .inl (cI, 30, .inl (kZ nu)))]) H → va_D A ([(w 0, .inr (4, [.ref (w 1), .int (zI ↑n), .ref (w 2), .ref (w 3), .ref (w 4), .ref (w 5), .int (zI ↑np), .ref (w 6), .ref (w 7), .int (zI ↑kn), .ref (w 8), .ref (w 9), .ref (w 10), .int (zI ↑ch), .int (zI le), .ref (w 11), .int (zI sf), .int (zI st), .ref (w 12)])), (w 2, .inl (cI, 30, .inl (kA K))), (w 3, .inl (cI, 30, .inl (kZ on))), (w 4, .inl (cI, 30, .inl (kZ ot))), (w 5, .inl (cI, 30, .inl (kZ nu)))]) → va_S A s.heap H locs → lv_has ls 6 [(0, .ref (w 0)), (1, .int (zI x)), (2, .int (zI a)), (3, .int (zI b)), (4, .int (zI k))] → W p l ev rm_Mo_ask_2 s m ar below meth c H locs 0 0 Qf (F0 m 81 ls []) := by
            intro  H locs ls hP hD hS hl
            have join_101 : ∀ (H : Heap) (locs : List Loc) (ls : Array Slot), va_P D k_cl ([(w 0, .inr (4, [.ref (w 1), .int (zI ↑n), .ref (w 2), .ref (w 3), .ref (w 4), .ref (w 5), .int (zI ↑np), .ref (w 6), .ref (w 7), .int (zI ↑kn), .ref (w 8), .ref (w 9), .ref (w 10), .int (zI ↑ch), .int (zI le), .ref (w 11), .int (zI sf), .int (zI st), .ref (w 12)])), (w 2, .inl (cI, 30, .inl (kA K))), (w 3, .inl (cI, 30, .inl (kZ on))), (w 4, .inl (cI, 30, .inl (kZ ot))), (w 5, .inl (cI, 30, .inl (kZ nu)))]) H → va_D A ([(w 0, .inr (4, [.ref (w 1), .int (zI ↑n), .ref (w 2), .ref (w 3), .ref (w 4), .ref (w 5), .int (zI ↑np), .ref (w 6), .ref (w 7), .int (zI ↑kn), .ref (w 8), .ref (w 9), .ref (w 10), .int (zI ↑ch), .int (zI le), .ref (w 11), .int (zI sf), .int (zI st), .ref (w 12)])), (w 2, .inl (cI, 30, .inl (kA K))), (w 3, .inl (cI, 30, .inl (kZ on))), (w 4, .inl (cI, 30, .inl (kZ ot))), (w 5, .inl (cI, 30, .inl (kZ nu)))]) → va_S A s.heap H locs → lv_has ls 6 [(0, .ref (w 0)), (1, .int (zI x)), (2, .int (zI a)), (3, .int (zI b)), (4, .int (zI k))] → W p l ev rm_Mo_ask_2 s m ar below meth c H locs 0 0 Qf (F0 m 101 ls []) := by
              intro  H locs ls hP hD hS hl
              refine lv_aload_n hx hb d_Mo_ask_101 rfl (lv_at hl 0 rfl) ?_
              refine va_get (D := D) (ci := 4) (v := .int (zI ↑n)) (C := R_Mo) (T := T_Mo) (N := 19) hx hb hkw kin_Mo hown hK hP 0 rfl rfl 1 (by decide) (hkw _ kw_fieldLink_Mo_57) (fun _ h9 => h9) rfl d_Mo_ask_102 ?_
              refine lv_bipush (v := zI 30) hx hb d_Mo_ask_105 (by decide) ?_
              refine k_icmp_ne (tgt := 113) hx hb d_Mo_ask_107 (by decide) ⟨by omega, by omega⟩ ⟨by omega, by omega⟩ (fun c_107 => ?_) (fun c_107 => ?_)
              · refine lv_aload_n hx hb d_Mo_ask_113 rfl (lv_at hl 0 rfl) ?_
                refine va_get (D := D) (ci := 4) (v := .ref (w 2)) (C := R_Mo) (T := T_Mo) (N := 19) hx hb hkw kin_Mo hown hK hP 0 rfl rfl 2 (by decide) (hkw _ kw_fieldLink_Mo_13) (fun _ h9 => h9) rfl d_Mo_ask_114 ?_
                refine lv_aload_n hx hb d_Mo_ask_117 rfl (lv_at hl 0 rfl) ?_
                refine va_get (D := D) (ci := 4) (v := .int (zI ↑n)) (C := R_Mo) (T := T_Mo) (N := 19) hx hb hkw kin_Mo hown hK hP 0 rfl rfl 1 (by decide) (hkw _ kw_fieldLink_Mo_57) (fun _ h9 => h9) rfl d_Mo_ask_118 ?_
                refine lv_iload_n hx hb d_Mo_ask_121 rfl (lv_at hl 1 rfl) ?_
                refine k_ast hx hb hK hP hD hS 1 0 rfl rfl (i := n) (v := x.toNat) (by omega) (by omega) (by omega) (by omega) d_Mo_ask_122 ?_
                clear hP hD hS; intro H locs hP hD hS
                replace hP : va_P D k_cl ([(w 0, .inr (4, [.ref (w 1), .int (zI ↑n), .ref (w 2), .ref (w 3), .ref (w 4), .ref (w 5), .int (zI ↑np), .ref (w 6), .ref (w 7), .int (zI ↑kn), .ref (w 8), .ref (w 9), .ref (w 10), .int (zI ↑ch), .int (zI le), .ref (w 11), .int (zI sf), .int (zI st), .ref (w 12)])), (w 2, .inl (cI, 30, .inl (kA (va_up K n x.toNat)))), (w 3, .inl (cI, 30, .inl (kZ on))), (w 4, .inl (cI, 30, .inl (kZ ot))), (w 5, .inl (cI, 30, .inl (kZ nu)))]) H := hP
                replace hD : va_D A ([(w 0, .inr (4, [.ref (w 1), .int (zI ↑n), .ref (w 2), .ref (w 3), .ref (w 4), .ref (w 5), .int (zI ↑np), .ref (w 6), .ref (w 7), .int (zI ↑kn), .ref (w 8), .ref (w 9), .ref (w 10), .int (zI ↑ch), .int (zI le), .ref (w 11), .int (zI sf), .int (zI st), .ref (w 12)])), (w 2, .inl (cI, 30, .inl (kA (va_up K n x.toNat)))), (w 3, .inl (cI, 30, .inl (kZ on))), (w 4, .inl (cI, 30, .inl (kZ ot))), (w 5, .inl (cI, 30, .inl (kZ nu)))]) := hD
                refine lv_aload_n hx hb d_Mo_ask_123 rfl (lv_at hl 0 rfl) ?_
                refine va_get (D := D) (ci := 4) (v := .ref (w 3)) (C := R_Mo) (T := T_Mo) (N := 19) hx hb hkw kin_Mo hown hK hP 0 rfl rfl 3 (by decide) (hkw _ kw_fieldLink_Mo_16) (fun _ h9 => h9) rfl d_Mo_ask_124 ?_
                refine lv_aload_n hx hb d_Mo_ask_127 rfl (lv_at hl 0 rfl) ?_
                refine va_get (D := D) (ci := 4) (v := .int (zI ↑n)) (C := R_Mo) (T := T_Mo) (N := 19) hx hb hkw kin_Mo hown hK hP 0 rfl rfl 1 (by decide) (hkw _ kw_fieldLink_Mo_57) (fun _ h9 => h9) rfl d_Mo_ask_128 ?_
                refine lv_iload_n hx hb d_Mo_ask_131 rfl (lv_at hl 2 rfl) ?_
                refine k_astZ hx hb hK hP hD hS 2 0 rfl rfl (i := n) (by omega) (by omega) (by omega) d_Mo_ask_132 ?_
                clear hP hD hS; intro H locs hP hD hS
                replace hP : va_P D k_cl ([(w 0, .inr (4, [.ref (w 1), .int (zI ↑n), .ref (w 2), .ref (w 3), .ref (w 4), .ref (w 5), .int (zI ↑np), .ref (w 6), .ref (w 7), .int (zI ↑kn), .ref (w 8), .ref (w 9), .ref (w 10), .int (zI ↑ch), .int (zI le), .ref (w 11), .int (zI sf), .int (zI st), .ref (w 12)])), (w 2, .inl (cI, 30, .inl (kA (va_up K n x.toNat)))), (w 3, .inl (cI, 30, .inl (kZ (va_up on n a)))), (w 4, .inl (cI, 30, .inl (kZ ot))), (w 5, .inl (cI, 30, .inl (kZ nu)))]) H := hP
                replace hD : va_D A ([(w 0, .inr (4, [.ref (w 1), .int (zI ↑n), .ref (w 2), .ref (w 3), .ref (w 4), .ref (w 5), .int (zI ↑np), .ref (w 6), .ref (w 7), .int (zI ↑kn), .ref (w 8), .ref (w 9), .ref (w 10), .int (zI ↑ch), .int (zI le), .ref (w 11), .int (zI sf), .int (zI st), .ref (w 12)])), (w 2, .inl (cI, 30, .inl (kA (va_up K n x.toNat)))), (w 3, .inl (cI, 30, .inl (kZ (va_up on n a)))), (w 4, .inl (cI, 30, .inl (kZ ot))), (w 5, .inl (cI, 30, .inl (kZ nu)))]) := hD
                refine lv_aload_n hx hb d_Mo_ask_133 rfl (lv_at hl 0 rfl) ?_
                refine va_get (D := D) (ci := 4) (v := .ref (w 4)) (C := R_Mo) (T := T_Mo) (N := 19) hx hb hkw kin_Mo hown hK hP 0 rfl rfl 4 (by decide) (hkw _ kw_fieldLink_Mo_19) (fun _ h9 => h9) rfl d_Mo_ask_134 ?_
                refine lv_aload_n hx hb d_Mo_ask_137 rfl (lv_at hl 0 rfl) ?_
                refine va_get (D := D) (ci := 4) (v := .int (zI ↑n)) (C := R_Mo) (T := T_Mo) (N := 19) hx hb hkw kin_Mo hown hK hP 0 rfl rfl 1 (by decide) (hkw _ kw_fieldLink_Mo_57) (fun _ h9 => h9) rfl d_Mo_ask_138 ?_
                refine lv_iload_n hx hb d_Mo_ask_141 rfl (lv_at hl 3 rfl) ?_
                refine k_astZ hx hb hK hP hD hS 3 0 rfl rfl (i := n) (by omega) (by omega) (by omega) d_Mo_ask_142 ?_
                clear hP hD hS; intro H locs hP hD hS
                replace hP : va_P D k_cl ([(w 0, .inr (4, [.ref (w 1), .int (zI ↑n), .ref (w 2), .ref (w 3), .ref (w 4), .ref (w 5), .int (zI ↑np), .ref (w 6), .ref (w 7), .int (zI ↑kn), .ref (w 8), .ref (w 9), .ref (w 10), .int (zI ↑ch), .int (zI le), .ref (w 11), .int (zI sf), .int (zI st), .ref (w 12)])), (w 2, .inl (cI, 30, .inl (kA (va_up K n x.toNat)))), (w 3, .inl (cI, 30, .inl (kZ (va_up on n a)))), (w 4, .inl (cI, 30, .inl (kZ (va_up ot n b)))), (w 5, .inl (cI, 30, .inl (kZ nu)))]) H := hP
                replace hD : va_D A ([(w 0, .inr (4, [.ref (w 1), .int (zI ↑n), .ref (w 2), .ref (w 3), .ref (w 4), .ref (w 5), .int (zI ↑np), .ref (w 6), .ref (w 7), .int (zI ↑kn), .ref (w 8), .ref (w 9), .ref (w 10), .int (zI ↑ch), .int (zI le), .ref (w 11), .int (zI sf), .int (zI st), .ref (w 12)])), (w 2, .inl (cI, 30, .inl (kA (va_up K n x.toNat)))), (w 3, .inl (cI, 30, .inl (kZ (va_up on n a)))), (w 4, .inl (cI, 30, .inl (kZ (va_up ot n b)))), (w 5, .inl (cI, 30, .inl (kZ nu)))]) := hD
                refine lv_aload_n hx hb d_Mo_ask_143 rfl (lv_at hl 0 rfl) ?_
                refine va_get (D := D) (ci := 4) (v := .ref (w 5)) (C := R_Mo) (T := T_Mo) (N := 19) hx hb hkw kin_Mo hown hK hP 0 rfl rfl 5 (by decide) (hkw _ kw_fieldLink_Mo_22) (fun _ h9 => h9) rfl d_Mo_ask_144 ?_
                refine lv_aload_n hx hb d_Mo_ask_147 rfl (lv_at hl 0 rfl) ?_
                refine va_get (D := D) (ci := 4) (v := .int (zI ↑n)) (C := R_Mo) (T := T_Mo) (N := 19) hx hb hkw kin_Mo hown hK hP 0 rfl rfl 1 (by decide) (hkw _ kw_fieldLink_Mo_57) (fun _ h9 => h9) rfl d_Mo_ask_148 ?_
                refine lv_iload hx hb d_Mo_ask_151 (lv_at hl 4 rfl) ?_
                refine k_astZ hx hb hK hP hD hS 4 0 rfl rfl (i := n) (by omega) (by omega) (by omega) d_Mo_ask_153 ?_
                clear hP hD hS; intro H locs hP hD hS
                replace hP : va_P D k_cl ([(w 0, .inr (4, [.ref (w 1), .int (zI ↑n), .ref (w 2), .ref (w 3), .ref (w 4), .ref (w 5), .int (zI ↑np), .ref (w 6), .ref (w 7), .int (zI ↑kn), .ref (w 8), .ref (w 9), .ref (w 10), .int (zI ↑ch), .int (zI le), .ref (w 11), .int (zI sf), .int (zI st), .ref (w 12)])), (w 2, .inl (cI, 30, .inl (kA (va_up K n x.toNat)))), (w 3, .inl (cI, 30, .inl (kZ (va_up on n a)))), (w 4, .inl (cI, 30, .inl (kZ (va_up ot n b)))), (w 5, .inl (cI, 30, .inl (kZ (va_up nu n k))))]) H := hP
                replace hD : va_D A ([(w 0, .inr (4, [.ref (w 1), .int (zI ↑n), .ref (w 2), .ref (w 3), .ref (w 4), .ref (w 5), .int (zI ↑np), .ref (w 6), .ref (w 7), .int (zI ↑kn), .ref (w 8), .ref (w 9), .ref (w 10), .int (zI ↑ch), .int (zI le), .ref (w 11), .int (zI sf), .int (zI st), .ref (w 12)])), (w 2, .inl (cI, 30, .inl (kA (va_up K n x.toNat)))), (w 3, .inl (cI, 30, .inl (kZ (va_up on n a)))), (w 4, .inl (cI, 30, .inl (kZ (va_up ot n b)))), (w 5, .inl (cI, 30, .inl (kZ (va_up nu n k))))]) := hD
                refine lv_aload_n hx hb d_Mo_ask_154 rfl (lv_at hl 0 rfl) ?_
                refine lv_dup hx hb d_Mo_ask_155 rfl ?_
                refine va_get (D := D) (ci := 4) (v := .int (zI ↑n)) (C := R_Mo) (T := T_Mo) (N := 19) hx hb hkw kin_Mo hown hK hP 0 rfl rfl 1 (by decide) (hkw _ kw_fieldLink_Mo_57) (fun _ h9 => h9) rfl d_Mo_ask_156 ?_
                refine lv_iconst (v := zI 1) hx hb d_Mo_ask_159 (by decide) ?_
                refine k_iadd (v := ↑(n + 1)) hx hb d_Mo_ask_160 (by omega) ?_
                refine va_put (D := D) (ci := 4) (v := .int (zI (↑(n + 1)))) (ty := .int) (C := R_Mo) (T := T_Mo) (N := 19) hx hb hkw kin_Mo ty_Mo ty_Mo_ok nm_Mo hown hK hP hD hS 0 rfl rfl 1 (by decide) (hkw _ kw_fieldLink_Mo_57) (fun _ h9 => h9) rfl (by decide +kernel) rfl rfl (Nat.le_of_ble_eq_true rfl) d_Mo_ask_161 ?_
                clear hP hD hS; intro H locs hP hD hS
                replace hP : va_P D k_cl ([(w 0, .inr (4, [.ref (w 1), .int (zI (↑(n + 1))), .ref (w 2), .ref (w 3), .ref (w 4), .ref (w 5), .int (zI ↑np), .ref (w 6), .ref (w 7), .int (zI ↑kn), .ref (w 8), .ref (w 9), .ref (w 10), .int (zI ↑ch), .int (zI le), .ref (w 11), .int (zI sf), .int (zI st), .ref (w 12)])), (w 2, .inl (cI, 30, .inl (kA (va_up K n x.toNat)))), (w 3, .inl (cI, 30, .inl (kZ (va_up on n a)))), (w 4, .inl (cI, 30, .inl (kZ (va_up ot n b)))), (w 5, .inl (cI, 30, .inl (kZ (va_up nu n k))))]) H := hP
                replace hD : va_D A ([(w 0, .inr (4, [.ref (w 1), .int (zI (↑(n + 1))), .ref (w 2), .ref (w 3), .ref (w 4), .ref (w 5), .int (zI ↑np), .ref (w 6), .ref (w 7), .int (zI ↑kn), .ref (w 8), .ref (w 9), .ref (w 10), .int (zI ↑ch), .int (zI le), .ref (w 11), .int (zI sf), .int (zI st), .ref (w 12)])), (w 2, .inl (cI, 30, .inl (kA (va_up K n x.toNat)))), (w 3, .inl (cI, 30, .inl (kZ (va_up on n a)))), (w 4, .inl (cI, 30, .inl (kZ (va_up ot n b)))), (w 5, .inl (cI, 30, .inl (kZ (va_up nu n k))))]) := hD
                refine lv_aload_n hx hb d_Mo_ask_164 rfl (lv_at hl 0 rfl) ?_
                refine va_get (D := D) (ci := 4) (v := .int (zI (↑(n + 1)))) (C := R_Mo) (T := T_Mo) (N := 19) hx hb hkw kin_Mo hown hK hP 0 rfl rfl 1 (by decide) (hkw _ kw_fieldLink_Mo_57) (fun _ h9 => h9) rfl d_Mo_ask_165 ?_
                refine lv_iconst (v := zI 1) hx hb d_Mo_ask_168 (by decide) ?_
                refine k_isub (v := ↑n) hx hb d_Mo_ask_169 (by omega) ?_
                rw [← hQf]
                exact k_iret hx hb hr hlocks hP hS rfl d_Mo_ask_170
              · exfalso; omega
            refine lv_iload_n hx hb d_Mo_ask_81 rfl (lv_at hl 1 rfl) ?_
            refine k_if_le (tgt := 101) hx hb d_Mo_ask_82 (by decide) ⟨by omega, by omega⟩ (fun c_82 => ?_) (fun c_82 => ?_)
            · exact join_101 _ _ _ hP hD hS (lv_sub hl [0, 1, 2, 3, 4] rfl)
            · refine lv_iload_n hx hb d_Mo_ask_85 rfl (lv_at hl 1 rfl) ?_
              refine lv_bipush (v := zI 9) hx hb d_Mo_ask_86 (by decide) ?_
              refine k_icmp_ge (tgt := 101) hx hb d_Mo_ask_88 (by decide) ⟨by omega, by omega⟩ ⟨by omega, by omega⟩ (fun c_88 => ?_) (fun c_88 => ?_)
              · exact join_101 _ _ _ hP hD hS (lv_sub hl [0, 1, 2, 3, 4] rfl)
              · refine lv_aload_n hx hb d_Mo_ask_91 rfl (lv_at hl 0 rfl) ?_
                refine lv_iload_n hx hb d_Mo_ask_92 rfl (lv_at hl 3 rfl) ?_
                refine k_beI (va_runV (As := [.int (zI b)]) (rest := []) ⟨hx, hb, hml, hown, hkw⟩ (c_Mo_isAsk l D cI cR cG w n np kn ch le sf st b ⟨by omega, by omega⟩ (by omega) _) (cwV 1 hkw (k_gV kw_methodLink_Mo_61 kw_instanceMethod_Mo_isAsk kw_selects_Mo_isAsk kw_initialized_Mo kw_code_Mo_isAsk) rfl rfl rfl (by decide +kernel) ⟨(Nat.le_of_ble_eq_true rfl), (Nat.le_of_ble_eq_true rfl)⟩) (k_preV (q0 := 0) hK hG hP hD [0] rfl rfl rfl rfl) rfl rfl hl.1 rfl (lv_room (Nat.le_of_ble_eq_true rfl)) d_Mo_ask_93 ⟨Nat.zero_le _, Nat.zero_le _⟩) hP hD hS hA [0] rfl (Eq.trans (b := [w 0]) rfl rfl) ?_
                clear hP hD hS; intro H locs hP hD hS
                replace hP : va_P D k_cl ([(w 0, .inr (4, [.ref (w 1), .int (zI ↑n), .ref (w 2), .ref (w 3), .ref (w 4), .ref (w 5), .int (zI ↑np), .ref (w 6), .ref (w 7), .int (zI ↑kn), .ref (w 8), .ref (w 9), .ref (w 10), .int (zI ↑ch), .int (zI le), .ref (w 11), .int (zI sf), .int (zI st), .ref (w 12)])), (w 2, .inl (cI, 30, .inl (kA K))), (w 3, .inl (cI, 30, .inl (kZ on))), (w 4, .inl (cI, 30, .inl (kZ ot))), (w 5, .inl (cI, 30, .inl (kZ nu)))]) H := hP
                replace hD : va_D A ([(w 0, .inr (4, [.ref (w 1), .int (zI ↑n), .ref (w 2), .ref (w 3), .ref (w 4), .ref (w 5), .int (zI ↑np), .ref (w 6), .ref (w 7), .int (zI ↑kn), .ref (w 8), .ref (w 9), .ref (w 10), .int (zI ↑ch), .int (zI le), .ref (w 11), .int (zI sf), .int (zI st), .ref (w 12)])), (w 2, .inl (cI, 30, .inl (kA K))), (w 3, .inl (cI, 30, .inl (kZ on))), (w 4, .inl (cI, 30, .inl (kZ ot))), (w 5, .inl (cI, 30, .inl (kZ nu)))]) := hD
                refine k_bif_ne (tgt := 101) hx hb d_Mo_ask_96 (by decide) (fun c_96 => ?_) (fun c_96 => ?_)
                · exact join_101 _ _ _ hP hD hS (lv_sub hl [0, 1, 2, 3, 4] rfl)
                · exfalso; omega
          refine lv_iload_n hx hb d_Mo_ask_69 rfl (lv_at hl 1 rfl) ?_
          refine k_if_le (tgt := 81) hx hb d_Mo_ask_70 (by decide) ⟨by omega, by omega⟩ (fun c_70 => ?_) (fun c_70 => ?_)
          · exact join_81 _ _ _ hP hD hS (lv_sub hl [0, 1, 2, 3, 4] rfl)
          · refine lv_aload_n hx hb d_Mo_ask_73 rfl (lv_at hl 0 rfl) ?_
            refine lv_iload_n hx hb d_Mo_ask_74 rfl (lv_at hl 2 rfl) ?_
            refine k_beI (va_runV (As := [.int (zI a)]) (rest := []) ⟨hx, hb, hml, hown, hkw⟩ (c_Mo_isAsk l D cI cR cG w n np kn ch le sf st a ⟨by omega, by omega⟩ (by omega) _) (cwV 1 hkw (k_gV kw_methodLink_Mo_61 kw_instanceMethod_Mo_isAsk kw_selects_Mo_isAsk kw_initialized_Mo kw_code_Mo_isAsk) rfl rfl rfl (by decide +kernel) ⟨(Nat.le_of_ble_eq_true rfl), (Nat.le_of_ble_eq_true rfl)⟩) (k_preV (q0 := 0) hK hG hP hD [0] rfl rfl rfl rfl) rfl rfl hl.1 rfl (lv_room (Nat.le_of_ble_eq_true rfl)) d_Mo_ask_75 ⟨Nat.zero_le _, Nat.zero_le _⟩) hP hD hS hA [0] rfl (Eq.trans (b := [w 0]) rfl rfl) ?_
            clear hP hD hS; intro H locs hP hD hS
            replace hP : va_P D k_cl ([(w 0, .inr (4, [.ref (w 1), .int (zI ↑n), .ref (w 2), .ref (w 3), .ref (w 4), .ref (w 5), .int (zI ↑np), .ref (w 6), .ref (w 7), .int (zI ↑kn), .ref (w 8), .ref (w 9), .ref (w 10), .int (zI ↑ch), .int (zI le), .ref (w 11), .int (zI sf), .int (zI st), .ref (w 12)])), (w 2, .inl (cI, 30, .inl (kA K))), (w 3, .inl (cI, 30, .inl (kZ on))), (w 4, .inl (cI, 30, .inl (kZ ot))), (w 5, .inl (cI, 30, .inl (kZ nu)))]) H := hP
            replace hD : va_D A ([(w 0, .inr (4, [.ref (w 1), .int (zI ↑n), .ref (w 2), .ref (w 3), .ref (w 4), .ref (w 5), .int (zI ↑np), .ref (w 6), .ref (w 7), .int (zI ↑kn), .ref (w 8), .ref (w 9), .ref (w 10), .int (zI ↑ch), .int (zI le), .ref (w 11), .int (zI sf), .int (zI st), .ref (w 12)])), (w 2, .inl (cI, 30, .inl (kA K))), (w 3, .inl (cI, 30, .inl (kZ on))), (w 4, .inl (cI, 30, .inl (kZ ot))), (w 5, .inl (cI, 30, .inl (kZ nu)))]) := hD
            refine k_bif_eq (tgt := 99) hx hb d_Mo_ask_78 (by decide) (fun c_78 => ?_) (fun c_78 => ?_)
            · exfalso; omega
            · exact join_81 _ _ _ hP hD hS (lv_sub hl [0, 1, 2, 3, 4] rfl)
        refine lv_istore (lv' := [(5, .int (zI ↑c5)), (0, .ref (w 0)), (1, .int (zI x)), (2, .int (zI a)), (3, .int (zI b)), (4, .int (zI k))]) hx hb d_Mo_ask_38 hl (by decide) rfl ?_
        clear hl; intro ls hl
        refine lv_iload hx hb d_Mo_ask_40 (lv_at hl 0 rfl) ?_
        refine k_if_eq (tgt := 69) hx hb d_Mo_ask_42 (by decide) ⟨by omega, by omega⟩ (fun c_42 => ?_) (fun c_42 => ?_)
        · exact join_69 _ _ _ hP hD hS (lv_sub hl [1, 2, 3, 4, 5] rfl)
        · refine lv_iload hx hb d_Mo_ask_45 (lv_at hl 5 rfl) ?_
          refine k_if_lt (tgt := 66) hx hb d_Mo_ask_47 (by decide) ⟨by omega, by omega⟩ (fun c_47 => ?_) (fun c_47 => ?_)
          · refine lv_bipush (v := zI (-2)) hx hb d_Mo_ask_66 (by decide) ?_
            exfalso; omega
          · refine lv_iload hx hb d_Mo_ask_50 (lv_at hl 5 rfl) ?_
            refine lv_iload_n hx hb d_Mo_ask_52 rfl (lv_at hl 2 rfl) ?_
            refine k_if_ne (tgt := 61) hx hb d_Mo_ask_53 (by decide) ⟨by omega, by omega⟩ (fun c_53 => ?_) (fun c_53 => ?_)
            · refine lv_bipush (v := zI 30) hx hb d_Mo_ask_61 (by decide) ?_
              refine k_icmp_le (tgt := 69) hx hb d_Mo_ask_63 (by decide) ⟨by omega, by omega⟩ ⟨by omega, by omega⟩ (fun c_63 => ?_) (fun c_63 => ?_)
              · exact join_69 _ _ _ hP hD hS (lv_sub hl [1, 2, 3, 4, 5] rfl)
              · refine lv_bipush (v := zI (-2)) hx hb d_Mo_ask_66 (by decide) ?_
                exfalso; omega
            · refine lv_bipush (v := zI 9) hx hb d_Mo_ask_56 (by decide) ?_
              refine lv_goto (tgt := 63) hx hb d_Mo_ask_58 (by decide) ?_
              refine k_icmp_le (tgt := 69) hx hb d_Mo_ask_63 (by decide) ⟨by omega, by omega⟩ ⟨by omega, by omega⟩ (fun c_63 => ?_) (fun c_63 => ?_)
              · exact join_69 _ _ _ hP hD hS (lv_sub hl [1, 2, 3, 4, 5] rfl)
              · refine lv_bipush (v := zI (-2)) hx hb d_Mo_ask_66 (by decide) ?_
                exfalso; omega
      refine lv_iload_n hx hb d_Mo_ask_13 rfl (lv_at hl 1 rfl) ?_
      refine k_if_eq (tgt := 33) hx hb d_Mo_ask_14 (by decide) ⟨by omega, by omega⟩ (fun c_14 => ?_) (fun c_14 => ?_)
      · refine lv_iconst (v := zI 1) hx hb d_Mo_ask_33 (by decide) ?_
        refine lv_goto (tgt := 38) hx hb d_Mo_ask_34 (by decide) ?_
        exact join_38 1 (by omega) _ _ _ hP hD hS (lv_sub hl [0, 1, 2, 3, 4] rfl)
      · refine lv_iload_n hx hb d_Mo_ask_17 rfl (lv_at hl 1 rfl) ?_
        refine lv_iconst (v := zI 2) hx hb d_Mo_ask_18 (by decide) ?_
        refine k_icmp_lt (tgt := 27) hx hb d_Mo_ask_19 (by decide) ⟨by omega, by omega⟩ ⟨by omega, by omega⟩ (fun c_19 => ?_) (fun c_19 => ?_)
        · refine lv_iload_n hx hb d_Mo_ask_27 rfl (lv_at hl 1 rfl) ?_
          refine lv_bipush (v := zI 8) hx hb d_Mo_ask_28 (by decide) ?_
          refine k_icmp_lt (tgt := 37) hx hb d_Mo_ask_30 (by decide) ⟨by omega, by omega⟩ ⟨by omega, by omega⟩ (fun c_30 => ?_) (fun c_30 => ?_)
          · refine lv_iconst (v := zI 0) hx hb d_Mo_ask_37 (by decide) ?_
            exact join_38 0 (by omega) _ _ _ hP hD hS (lv_sub hl [0, 1, 2, 3, 4] rfl)
          · refine lv_iconst (v := zI 1) hx hb d_Mo_ask_33 (by decide) ?_
            refine lv_goto (tgt := 38) hx hb d_Mo_ask_34 (by decide) ?_
            exact join_38 1 (by omega) _ _ _ hP hD hS (lv_sub hl [0, 1, 2, 3, 4] rfl)
        · refine lv_iload_n hx hb d_Mo_ask_22 rfl (lv_at hl 1 rfl) ?_
          refine lv_iconst (v := zI 4) hx hb d_Mo_ask_23 (by decide) ?_
          refine k_icmp_le (tgt := 33) hx hb d_Mo_ask_24 (by decide) ⟨by omega, by omega⟩ ⟨by omega, by omega⟩ (fun c_24 => ?_) (fun c_24 => ?_)
          · refine lv_iconst (v := zI 1) hx hb d_Mo_ask_33 (by decide) ?_
            refine lv_goto (tgt := 38) hx hb d_Mo_ask_34 (by decide) ?_
            exact join_38 1 (by omega) _ _ _ hP hD hS (lv_sub hl [0, 1, 2, 3, 4] rfl)
          · refine lv_iload_n hx hb d_Mo_ask_27 rfl (lv_at hl 1 rfl) ?_
            refine lv_bipush (v := zI 8) hx hb d_Mo_ask_28 (by decide) ?_
            refine k_icmp_lt (tgt := 37) hx hb d_Mo_ask_30 (by decide) ⟨by omega, by omega⟩ ⟨by omega, by omega⟩ (fun c_30 => ?_) (fun c_30 => ?_)
            · refine lv_iconst (v := zI 0) hx hb d_Mo_ask_37 (by decide) ?_
              exact join_38 0 (by omega) _ _ _ hP hD hS (lv_sub hl [0, 1, 2, 3, 4] rfl)
            · refine lv_iconst (v := zI 1) hx hb d_Mo_ask_33 (by decide) ?_
              refine lv_goto (tgt := 38) hx hb d_Mo_ask_34 (by decide) ?_
              exact join_38 1 (by omega) _ _ _ hP hD hS (lv_sub hl [0, 1, 2, 3, 4] rfl)
    · exfalso; omega

abbrev rm_Mo_forget : Room := { frames := 0, cells := 0, slots := 0, locals := 0 }
set_option maxHeartbeats 4000000 in
set_option maxRecDepth 100000 in
theorem c_Mo_forget (l : Launch) (D : va_G) (cI cR cG : ClassId) (w : Nat → Nat) (n np kn ch : Nat) (le sf st : Int)  : k_M l y_Mo_forget (.code y_Mo_forget b_Mo_forget 2 (some .int) :: kW) rm_Mo_forget D k_cl (k_ty cI cR cG) [.ref (w 0)] ([(w 0, .inr (4, [.ref (w 1), .int (zI ↑n), .ref (w 2), .ref (w 3), .ref (w 4), .ref (w 5), .int (zI ↑np), .ref (w 6), .ref (w 7), .int (zI ↑kn), .ref (w 8), .ref (w 9), .ref (w 10), .int (zI ↑ch), .int (zI le), .ref (w 11), .int (zI sf), .int (zI st), .ref (w 12)]))]) (k_Qi D k_cl (zI ↑n) [(w 0, .inr (4, [.ref (w 1), .int (zI 0), .ref (w 2), .ref (w 3), .ref (w 4), .ref (w 5), .int (zI ↑np), .ref (w 6), .ref (w 7), .int (zI ↑kn), .ref (w 8), .ref (w 9), .ref (w 10), .int (zI ↑ch), .int (zI le), .ref (w 11), .int (zI sf), .int (zI st), .ref (w 12)]))]) := by
  refine k_start (cc := b_Mo_forget) (maxL := 2) (ret := (some .int)) (by decide) rfl (Nat.le_of_ble_eq_true rfl) ?_
  intro p ev s m ar below meth c A ls Qf hQf hx hb hr hml hts hown hlocks hin hK hG hA hP hD hS hl
  replace hown : s.vm.findClass R_Mo = some m.cls := hown
  replace hl : lv_has ls 2 [(0, .ref (w 0))] := hl
  have hkw : ∀ w ∈ kW, w.before ar s = true := fun w h => hts w (List.mem_cons_of_mem _ h)
  replace hP : va_P D k_cl ([(w 0, .inr (4, [.ref (w 1), .int (zI ↑n), .ref (w 2), .ref (w 3), .ref (w 4), .ref (w 5), .int (zI ↑np), .ref (w 6), .ref (w 7), .int (zI ↑kn), .ref (w 8), .ref (w 9), .ref (w 10), .int (zI ↑ch), .int (zI le), .ref (w 11), .int (zI sf), .int (zI st), .ref (w 12)]))]) s.heap := hP
  replace hD : va_D A ([(w 0, .inr (4, [.ref (w 1), .int (zI ↑n), .ref (w 2), .ref (w 3), .ref (w 4), .ref (w 5), .int (zI ↑np), .ref (w 6), .ref (w 7), .int (zI ↑kn), .ref (w 8), .ref (w 9), .ref (w 10), .int (zI ↑ch), .int (zI le), .ref (w 11), .int (zI sf), .int (zI st), .ref (w 12)]))]) := hD
  refine lv_aload_n hx hb d_Mo_forget_0 rfl (lv_at hl 0 rfl) ?_
  refine va_get (D := D) (ci := 4) (v := .int (zI ↑n)) (C := R_Mo) (T := T_Mo) (N := 19) hx hb hkw kin_Mo hown hK hP 0 rfl rfl 1 (by decide) (hkw _ kw_fieldLink_Mo_57) (fun _ h9 => h9) rfl d_Mo_forget_1 ?_
  refine lv_istore_n (lv' := [(1, .int (zI ↑n)), (0, .ref (w 0))]) hx hb d_Mo_forget_4 rfl hl (by decide) rfl ?_
  clear hl; intro ls hl
  refine lv_aload_n hx hb d_Mo_forget_5 rfl (lv_at hl 1 rfl) ?_
  refine lv_iconst (v := zI 0) hx hb d_Mo_forget_6 (by decide) ?_
  refine va_put (D := D) (ci := 4) (v := .int (zI 0)) (ty := .int) (C := R_Mo) (T := T_Mo) (N := 19) hx hb hkw kin_Mo ty_Mo ty_Mo_ok nm_Mo hown hK hP hD hS 0 rfl rfl 1 (by decide) (hkw _ kw_fieldLink_Mo_57) (fun _ h9 => h9) rfl (by decide +kernel) rfl rfl (Nat.le_of_ble_eq_true rfl) d_Mo_forget_7 ?_
  clear hP hD hS; intro H locs hP hD hS
  replace hP : va_P D k_cl ([(w 0, .inr (4, [.ref (w 1), .int (zI 0), .ref (w 2), .ref (w 3), .ref (w 4), .ref (w 5), .int (zI ↑np), .ref (w 6), .ref (w 7), .int (zI ↑kn), .ref (w 8), .ref (w 9), .ref (w 10), .int (zI ↑ch), .int (zI le), .ref (w 11), .int (zI sf), .int (zI st), .ref (w 12)]))]) H := hP
  replace hD : va_D A ([(w 0, .inr (4, [.ref (w 1), .int (zI 0), .ref (w 2), .ref (w 3), .ref (w 4), .ref (w 5), .int (zI ↑np), .ref (w 6), .ref (w 7), .int (zI ↑kn), .ref (w 8), .ref (w 9), .ref (w 10), .int (zI ↑ch), .int (zI le), .ref (w 11), .int (zI sf), .int (zI st), .ref (w 12)]))]) := hD
  refine lv_iload_n hx hb d_Mo_forget_10 rfl (lv_at hl 0 rfl) ?_
  rw [← hQf]
  exact k_iret hx hb hr hlocks hP hS rfl d_Mo_forget_11

abbrev rm_Mo_comes : Room := { frames := 0, cells := 0, slots := 0, locals := 0 }
set_option maxHeartbeats 4000000 in
set_option maxRecDepth 100000 in
theorem c_Mo_comes (l : Launch) (D : va_G) (cI cR cG : ClassId) (w : Nat → Nat) (n np kn ch : Nat) (le sf st : Int) (i v : Nat) (F : Nat → Nat) (hi : i < 30) (hv : v < 30) (hF : ∀ j, F j ≤ 30) : k_M l y_Mo_comes (.code y_Mo_comes b_Mo_comes 3 none :: kW) rm_Mo_comes D k_cl (k_ty cI cR cG) [.ref (w 0), .int (zI ↑i), .int (zI ↑v)] ([(w 0, .inr (4, [.ref (w 1), .int (zI ↑n), .ref (w 2), .ref (w 3), .ref (w 4), .ref (w 5), .int (zI ↑np), .ref (w 6), .ref (w 7), .int (zI ↑kn), .ref (w 8), .ref (w 9), .ref (w 10), .int (zI ↑ch), .int (zI le), .ref (w 11), .int (zI sf), .int (zI st), .ref (w 12)])), (w 9, .inl (cI, 30, .inl (kM F)))]) (k_Qv D k_cl [(w 0, .inr (4, [.ref (w 1), .int (zI ↑n), .ref (w 2), .ref (w 3), .ref (w 4), .ref (w 5), .int (zI ↑np), .ref (w 6), .ref (w 7), .int (zI ↑kn), .ref (w 8), .ref (w 9), .ref (w 10), .int (zI ↑ch), .int (zI le), .ref (w 11), .int (zI sf), .int (zI st), .ref (w 12)])), (w 9, .inl (cI, 30, .inl (kM (rAdd F i v))))]) := by
  refine k_start (cc := b_Mo_comes) (maxL := 3) (ret := none) (by decide) rfl (Nat.le_of_ble_eq_true rfl) ?_
  intro p ev s m ar below meth c A ls Qf hQf hx hb hr hml hts hown hlocks hin hK hG hA hP hD hS hl
  replace hown : s.vm.findClass R_Mo = some m.cls := hown
  replace hl : lv_has ls 3 [(0, .ref (w 0)), (1, .int (zI ↑i)), (2, .int (zI ↑v))] := hl
  have hkw : ∀ w ∈ kW, w.before ar s = true := fun w h => hts w (List.mem_cons_of_mem _ h)
  replace hP : va_P D k_cl ([(w 0, .inr (4, [.ref (w 1), .int (zI ↑n), .ref (w 2), .ref (w 3), .ref (w 4), .ref (w 5), .int (zI ↑np), .ref (w 6), .ref (w 7), .int (zI ↑kn), .ref (w 8), .ref (w 9), .ref (w 10), .int (zI ↑ch), .int (zI le), .ref (w 11), .int (zI sf), .int (zI st), .ref (w 12)])), (w 9, .inl (cI, 30, .inl (kM F)))]) s.heap := hP
  replace hD : va_D A ([(w 0, .inr (4, [.ref (w 1), .int (zI ↑n), .ref (w 2), .ref (w 3), .ref (w 4), .ref (w 5), .int (zI ↑np), .ref (w 6), .ref (w 7), .int (zI ↑kn), .ref (w 8), .ref (w 9), .ref (w 10), .int (zI ↑ch), .int (zI le), .ref (w 11), .int (zI sf), .int (zI st), .ref (w 12)])), (w 9, .inl (cI, 30, .inl (kM F)))]) := hD
  refine lv_aload_n hx hb d_Mo_comes_0 rfl (lv_at hl 0 rfl) ?_
  refine va_get (D := D) (ci := 4) (v := .ref (w 9)) (C := R_Mo) (T := T_Mo) (N := 19) hx hb hkw kin_Mo hown hK hP 0 rfl rfl 11 (by decide) (hkw _ kw_fieldLink_Mo_34) (fun _ h9 => h9) rfl d_Mo_comes_1 ?_
  refine lv_iload_n hx hb d_Mo_comes_4 rfl (lv_at hl 1 rfl) ?_
  refine k_aldM hx hb hK hP 1 0 rfl rfl (i := i) (by omega) (by omega) (by omega) d_Mo_comes_5 ?_
  have hv_1 := hF i
  have hm_2 := mz_or (F i)
  refine k_if_lt (tgt := 19) hx hb d_Mo_comes_6 (by decide) ⟨by omega, by omega⟩ (fun c_6 => ?_) (fun c_6 => ?_)
  · refine lv_aload_n hx hb d_Mo_comes_19 rfl (lv_at hl 0 rfl) ?_
    refine va_get (D := D) (ci := 4) (v := .ref (w 9)) (C := R_Mo) (T := T_Mo) (N := 19) hx hb hkw kin_Mo hown hK hP 0 rfl rfl 11 (by decide) (hkw _ kw_fieldLink_Mo_34) (fun _ h9 => h9) rfl d_Mo_comes_20 ?_
    refine lv_iload_n hx hb d_Mo_comes_23 rfl (lv_at hl 1 rfl) ?_
    refine lv_iload_n hx hb d_Mo_comes_24 rfl (lv_at hl 2 rfl) ?_
    have hm_3 := mz_or (v)
    refine k_astM hx hb hK hP hD hS 1 0 rfl rfl (i := i) (v := v) (by omega) (by omega) (by omega) (by omega) d_Mo_comes_25 ?_
    clear hP hD hS; intro H locs hP hD hS
    replace hP : va_P D k_cl ([(w 0, .inr (4, [.ref (w 1), .int (zI ↑n), .ref (w 2), .ref (w 3), .ref (w 4), .ref (w 5), .int (zI ↑np), .ref (w 6), .ref (w 7), .int (zI ↑kn), .ref (w 8), .ref (w 9), .ref (w 10), .int (zI ↑ch), .int (zI le), .ref (w 11), .int (zI sf), .int (zI st), .ref (w 12)])), (w 9, .inl (cI, 30, .inl (kM (va_up F i v))))]) H := hP
    replace hD : va_D A ([(w 0, .inr (4, [.ref (w 1), .int (zI ↑n), .ref (w 2), .ref (w 3), .ref (w 4), .ref (w 5), .int (zI ↑np), .ref (w 6), .ref (w 7), .int (zI ↑kn), .ref (w 8), .ref (w 9), .ref (w 10), .int (zI ↑ch), .int (zI le), .ref (w 11), .int (zI sf), .int (zI st), .ref (w 12)])), (w 9, .inl (cI, 30, .inl (kM (va_up F i v))))]) := hD
    replace hP : va_P D k_cl [(w 0, .inr (4, [.ref (w 1), .int (zI ↑n), .ref (w 2), .ref (w 3), .ref (w 4), .ref (w 5), .int (zI ↑np), .ref (w 6), .ref (w 7), .int (zI ↑kn), .ref (w 8), .ref (w 9), .ref (w 10), .int (zI ↑ch), .int (zI le), .ref (w 11), .int (zI sf), .int (zI st), .ref (w 12)])), (w 9, .inl (cI, 30, .inl (kM (rAdd F i v))))] H := by rw [show rAdd F i v = va_up F i v from if_pos (by omega)]; exact hP
    rw [← hQf]
    exact k_vret hx hb hr hlocks hP hS d_Mo_comes_26
  · refine lv_iload_n hx hb d_Mo_comes_9 rfl (lv_at hl 2 rfl) ?_
    refine lv_aload_n hx hb d_Mo_comes_10 rfl (lv_at hl 0 rfl) ?_
    refine va_get (D := D) (ci := 4) (v := .ref (w 9)) (C := R_Mo) (T := T_Mo) (N := 19) hx hb hkw kin_Mo hown hK hP 0 rfl rfl 11 (by decide) (hkw _ kw_fieldLink_Mo_34) (fun _ h9 => h9) rfl d_Mo_comes_11 ?_
    refine lv_iload_n hx hb d_Mo_comes_14 rfl (lv_at hl 1 rfl) ?_
    refine k_aldM hx hb hK hP 1 0 rfl rfl (i := i) (by omega) (by omega) (by omega) d_Mo_comes_15 ?_
    have hv_4 := hF i
    have hm_5 := mz_or (F i)
    refine k_icmp_ge (tgt := 26) hx hb d_Mo_comes_16 (by decide) ⟨by omega, by omega⟩ ⟨by omega, by omega⟩ (fun c_16 => ?_) (fun c_16 => ?_)
    · replace hP : va_P D k_cl [(w 0, .inr (4, [.ref (w 1), .int (zI ↑n), .ref (w 2), .ref (w 3), .ref (w 4), .ref (w 5), .int (zI ↑np), .ref (w 6), .ref (w 7), .int (zI ↑kn), .ref (w 8), .ref (w 9), .ref (w 10), .int (zI ↑ch), .int (zI le), .ref (w 11), .int (zI sf), .int (zI st), .ref (w 12)])), (w 9, .inl (cI, 30, .inl (kM (rAdd F i v))))] s.heap := by rw [show rAdd F i v = F from if_neg (by omega)]; exact hP
      rw [← hQf]
      exact k_vret hx hb hr hlocks hP hS d_Mo_comes_26
    · refine lv_aload_n hx hb d_Mo_comes_19 rfl (lv_at hl 0 rfl) ?_
      refine va_get (D := D) (ci := 4) (v := .ref (w 9)) (C := R_Mo) (T := T_Mo) (N := 19) hx hb hkw kin_Mo hown hK hP 0 rfl rfl 11 (by decide) (hkw _ kw_fieldLink_Mo_34) (fun _ h9 => h9) rfl d_Mo_comes_20 ?_
      refine lv_iload_n hx hb d_Mo_comes_23 rfl (lv_at hl 1 rfl) ?_
      refine lv_iload_n hx hb d_Mo_comes_24 rfl (lv_at hl 2 rfl) ?_
      have hm_6 := mz_or (v)
      refine k_astM hx hb hK hP hD hS 1 0 rfl rfl (i := i) (v := v) (by omega) (by omega) (by omega) (by omega) d_Mo_comes_25 ?_
      clear hP hD hS; intro H locs hP hD hS
      replace hP : va_P D k_cl ([(w 0, .inr (4, [.ref (w 1), .int (zI ↑n), .ref (w 2), .ref (w 3), .ref (w 4), .ref (w 5), .int (zI ↑np), .ref (w 6), .ref (w 7), .int (zI ↑kn), .ref (w 8), .ref (w 9), .ref (w 10), .int (zI ↑ch), .int (zI le), .ref (w 11), .int (zI sf), .int (zI st), .ref (w 12)])), (w 9, .inl (cI, 30, .inl (kM (va_up F i v))))]) H := hP
      replace hD : va_D A ([(w 0, .inr (4, [.ref (w 1), .int (zI ↑n), .ref (w 2), .ref (w 3), .ref (w 4), .ref (w 5), .int (zI ↑np), .ref (w 6), .ref (w 7), .int (zI ↑kn), .ref (w 8), .ref (w 9), .ref (w 10), .int (zI ↑ch), .int (zI le), .ref (w 11), .int (zI sf), .int (zI st), .ref (w 12)])), (w 9, .inl (cI, 30, .inl (kM (va_up F i v))))]) := hD
      replace hP : va_P D k_cl [(w 0, .inr (4, [.ref (w 1), .int (zI ↑n), .ref (w 2), .ref (w 3), .ref (w 4), .ref (w 5), .int (zI ↑np), .ref (w 6), .ref (w 7), .int (zI ↑kn), .ref (w 8), .ref (w 9), .ref (w 10), .int (zI ↑ch), .int (zI le), .ref (w 11), .int (zI sf), .int (zI st), .ref (w 12)])), (w 9, .inl (cI, 30, .inl (kM (rAdd F i v))))] H := by rw [show rAdd F i v = va_up F i v from if_pos (by omega)]; exact hP
      rw [← hQf]
      exact k_vret hx hb hr hlocks hP hS d_Mo_comes_26

abbrev rm_Mo_gap : Room := { frames := 0, cells := 0, slots := 0, locals := 0 }
set_option maxHeartbeats 4000000 in
set_option maxRecDepth 100000 in
theorem c_Mo_gap (l : Launch) (D : va_G) (cI cR cG : ClassId) (i j x y : Int) (hi : 0 ≤ i ∧ i ≤ 30) (hj : 0 ≤ j ∧ j ≤ 30) (hx0 : 0 ≤ x ∧ x ≤ 30) (hy : 0 ≤ y ∧ y ≤ 30) : k_M l y_Mo_gap (.code y_Mo_gap b_Mo_gap 4 (some .int) :: kW) rm_Mo_gap D k_cl (k_ty cI cR cG) [.int (zI i), .int (zI j), .int (zI x), .int (zI y)] ([]) (k_Qi D k_cl (zI (mGap i j x y)) []) := by
  refine k_start (cc := b_Mo_gap) (maxL := 4) (ret := (some .int)) (by decide) rfl (Nat.le_of_ble_eq_true rfl) ?_
  intro p ev s m ar below meth c A ls Qf hQf hx hb hr hml hts hown hlocks hin hK hG hA hP hD hS hl
  replace hown : s.vm.findClass R_Mo = some m.cls := hown
  replace hl : lv_has ls 4 [(0, .int (zI i)), (1, .int (zI j)), (2, .int (zI x)), (3, .int (zI y))] := hl
  have hkw : ∀ w ∈ kW, w.before ar s = true := fun w h => hts w (List.mem_cons_of_mem _ h)
  replace hP : va_P D k_cl ([]) s.heap := hP
  replace hD : va_D A ([]) := hD
  refine lv_iload_n hx hb d_Mo_gap_0 rfl (lv_at hl 2 rfl) ?_
  refine lv_iload_n hx hb d_Mo_gap_1 rfl (lv_at hl 1 rfl) ?_
  refine k_icmp_le (tgt := 13) hx hb d_Mo_gap_2 (by decide) ⟨by omega, by omega⟩ ⟨by omega, by omega⟩ (fun c_2 => ?_) (fun c_2 => ?_)
  · refine lv_iload_n hx hb d_Mo_gap_13 rfl (lv_at hl 0 rfl) ?_
    refine lv_iload_n hx hb d_Mo_gap_14 rfl (lv_at hl 3 rfl) ?_
    refine k_icmp_le (tgt := 26) hx hb d_Mo_gap_15 (by decide) ⟨by omega, by omega⟩ ⟨by omega, by omega⟩ (fun c_15 => ?_) (fun c_15 => ?_)
    · refine lv_iconst (v := zI (-1)) hx hb d_Mo_gap_26 (by decide) ?_
      rw [← hQf]
      exact k_iret hx hb hr hlocks hP hS (congrArg zI (by unfold mGap; (repeat' split); all_goals first | rfl | omega)) d_Mo_gap_27
    · refine lv_iload_n hx hb d_Mo_gap_18 rfl (lv_at hl 0 rfl) ?_
      refine lv_iload_n hx hb d_Mo_gap_19 rfl (lv_at hl 3 rfl) ?_
      refine k_isub hx hb d_Mo_gap_20 rfl ?_
      refine lv_iconst (v := zI 1) hx hb d_Mo_gap_21 (by decide) ?_
      refine k_isub hx hb d_Mo_gap_22 rfl ?_
      refine lv_goto (tgt := 27) hx hb d_Mo_gap_23 (by decide) ?_
      rw [← hQf]
      exact k_iret hx hb hr hlocks hP hS (congrArg zI (by unfold mGap; (repeat' split); all_goals first | rfl | omega)) d_Mo_gap_27
  · refine lv_iload_n hx hb d_Mo_gap_5 rfl (lv_at hl 2 rfl) ?_
    refine lv_iload_n hx hb d_Mo_gap_6 rfl (lv_at hl 1 rfl) ?_
    refine k_isub hx hb d_Mo_gap_7 rfl ?_
    refine lv_iconst (v := zI 1) hx hb d_Mo_gap_8 (by decide) ?_
    refine k_isub hx hb d_Mo_gap_9 rfl ?_
    refine lv_goto (tgt := 27) hx hb d_Mo_gap_10 (by decide) ?_
    rw [← hQf]
    exact k_iret hx hb hr hlocks hP hS (congrArg zI (by unfold mGap; (repeat' split); all_goals first | rfl | omega)) d_Mo_gap_27

abbrev rm_Mo_pair : Room := { frames := 1, cells := 0, slots := 0, locals := 23 }
set_option maxHeartbeats 4000000 in
set_option maxRecDepth 100000 in
theorem c_Mo_pair (l : Launch) (D : va_G) (cI cR cG : ClassId) (w : Nat → Nat) (n np kn ch : Nat) (le sf st : Int) (k i j x y : Nat) (K F : Nat → Nat) (nu : Nat → Int) (hk : k < 30) (hi : i < 30) (hj : j < 30) (hx0 : x < 30) (hy : y < 30) (hK0 : ∀ u, K u ≤ 10) (hnu : ∀ u, k_sm (nu u)) (hF : ∀ j, F j ≤ 30) : k_M l y_Mo_pair (.code y_Mo_pair b_Mo_pair 10 none :: kW) rm_Mo_pair D k_cl (k_ty cI cR cG) [.ref (w 0), .int (zI ↑k), .int (zI ↑i), .int (zI ↑j), .int (zI ↑x), .int (zI ↑y)] ([(w 0, .inr (4, [.ref (w 1), .int (zI ↑n), .ref (w 2), .ref (w 3), .ref (w 4), .ref (w 5), .int (zI ↑np), .ref (w 6), .ref (w 7), .int (zI ↑kn), .ref (w 8), .ref (w 9), .ref (w 10), .int (zI ↑ch), .int (zI le), .ref (w 11), .int (zI sf), .int (zI st), .ref (w 12)])), (w 2, .inl (cI, 30, .inl (kA K))), (w 5, .inl (cI, 30, .inl (kZ nu))), (w 9, .inl (cI, 30, .inl (kM F)))]) (k_Qv D k_cl [(w 0, .inr (4, [.ref (w 1), .int (zI ↑n), .ref (w 2), .ref (w 3), .ref (w 4), .ref (w 5), .int (zI ↑np), .ref (w 6), .ref (w 7), .int (zI ↑kn), .ref (w 8), .ref (w 9), .ref (w 10), .int (zI ↑ch), .int (zI le), .ref (w 11), .int (zI sf), .int (zI st), .ref (w 12)])), (w 2, .inl (cI, 30, .inl (kA K))), (w 5, .inl (cI, 30, .inl (kZ nu))), (w 9, .inl (cI, 30, .inl (kM (mPair (K k) (nu k) F i j x y))))]) := by
  refine k_start (cc := b_Mo_pair) (maxL := 10) (ret := none) (by decide) rfl (Nat.le_of_ble_eq_true rfl) ?_
  intro p ev s m ar below meth c A ls Qf hQf hx hb hr hml hts hown hlocks hin hK hG hA hP hD hS hl
  replace hown : s.vm.findClass R_Mo = some m.cls := hown
  replace hl : lv_has ls 10 [(0, .ref (w 0)), (1, .int (zI ↑k)), (2, .int (zI ↑i)), (3, .int (zI ↑j)), (4, .int (zI ↑x)), (5, .int (zI ↑y))] := hl
  have hkw : ∀ w ∈ kW, w.before ar s = true := fun w h => hts w (List.mem_cons_of_mem _ h)
  replace hP : va_P D k_cl ([(w 0, .inr (4, [.ref (w 1), .int (zI ↑n), .ref (w 2), .ref (w 3), .ref (w 4), .ref (w 5), .int (zI ↑np), .ref (w 6), .ref (w 7), .int (zI ↑kn), .ref (w 8), .ref (w 9), .ref (w 10), .int (zI ↑ch), .int (zI le), .ref (w 11), .int (zI sf), .int (zI st), .ref (w 12)])), (w 2, .inl (cI, 30, .inl (kA K))), (w 5, .inl (cI, 30, .inl (kZ nu))), (w 9, .inl (cI, 30, .inl (kM F)))]) s.heap := hP
  replace hD : va_D A ([(w 0, .inr (4, [.ref (w 1), .int (zI ↑n), .ref (w 2), .ref (w 3), .ref (w 4), .ref (w 5), .int (zI ↑np), .ref (w 6), .ref (w 7), .int (zI ↑kn), .ref (w 8), .ref (w 9), .ref (w 10), .int (zI ↑ch), .int (zI le), .ref (w 11), .int (zI sf), .int (zI st), .ref (w 12)])), (w 2, .inl (cI, 30, .inl (kA K))), (w 5, .inl (cI, 30, .inl (kZ nu))), (w 9, .inl (cI, 30, .inl (kM F)))]) := hD
  refine lv_aload_n hx hb d_Mo_pair_0 rfl (lv_at hl 0 rfl) ?_
  refine va_get (D := D) (ci := 4) (v := .ref (w 5)) (C := R_Mo) (T := T_Mo) (N := 19) hx hb hkw kin_Mo hown hK hP 0 rfl rfl 5 (by decide) (hkw _ kw_fieldLink_Mo_22) (fun _ h9 => h9) rfl d_Mo_pair_1 ?_
  refine lv_iload_n hx hb d_Mo_pair_4 rfl (lv_at hl 1 rfl) ?_
  refine k_aldZ hx hb hK hP 2 0 rfl rfl (i := k) (by omega) (by omega) (by omega) d_Mo_pair_5 ?_
  have hv_1 := hnu k
  refine lv_istore (lv' := [(6, .int (zI (nu k))), (0, .ref (w 0)), (1, .int (zI ↑k)), (2, .int (zI ↑i)), (3, .int (zI ↑j)), (4, .int (zI ↑x)), (5, .int (zI ↑y))]) hx hb d_Mo_pair_6 hl (by decide) rfl ?_
  clear hl; intro ls hl
  refine lv_aload_n hx hb d_Mo_pair_8 rfl (lv_at hl 1 rfl) ?_
  refine va_get (D := D) (ci := 4) (v := .ref (w 2)) (C := R_Mo) (T := T_Mo) (N := 19) hx hb hkw kin_Mo hown hK hP 0 rfl rfl 2 (by decide) (hkw _ kw_fieldLink_Mo_13) (fun _ h9 => h9) rfl d_Mo_pair_9 ?_
  refine lv_iload_n hx hb d_Mo_pair_12 rfl (lv_at hl 2 rfl) ?_
  refine k_ald hx hb hK hP 1 0 rfl rfl (i := k) (by omega) (by omega) (by omega) d_Mo_pair_13 ?_
  have hv_2 := hK0 k
  refine lv_istore (lv' := [(7, .int (zI (↑(K k)))), (6, .int (zI (nu k))), (0, .ref (w 0)), (1, .int (zI ↑k)), (2, .int (zI ↑i)), (3, .int (zI ↑j)), (4, .int (zI ↑x)), (5, .int (zI ↑y))]) hx hb d_Mo_pair_14 hl (by decide) rfl ?_
  clear hl; intro ls hl
  refine lv_iload hx hb d_Mo_pair_16 (lv_at hl 0 rfl) ?_
  refine lv_iconst (v := zI 2) hx hb d_Mo_pair_18 (by decide) ?_
  refine k_icmp_eq (tgt := 28) hx hb d_Mo_pair_19 (by decide) ⟨by omega, by omega⟩ ⟨by omega, by omega⟩ (fun c_19 => ?_) (fun c_19 => ?_)
  · refine lv_iload hx hb d_Mo_pair_28 (lv_at hl 6 rfl) ?_
    refine lv_iload_n hx hb d_Mo_pair_30 rfl (lv_at hl 5 rfl) ?_
    refine k_icmp_le (tgt := 52) hx hb d_Mo_pair_31 (by decide) ⟨by omega, by omega⟩ ⟨by omega, by omega⟩ (fun c_31 => ?_) (fun c_31 => ?_)
    · refine lv_iload hx hb d_Mo_pair_52 (lv_at hl 0 rfl) ?_
      refine lv_iconst (v := zI 3) hx hb d_Mo_pair_54 (by decide) ?_
      refine k_icmp_ne (tgt := 210) hx hb d_Mo_pair_55 (by decide) ⟨by omega, by omega⟩ ⟨by omega, by omega⟩ (fun c_55 => ?_) (fun c_55 => ?_)
      · have e9 : mPair (K k) (nu k) F i j x y = F := by unfold mPair; (repeat' split); all_goals first | rfl | (exfalso; omega) | (congr 1 <;> omega)
        replace hP : va_P D k_cl [(w 0, .inr (4, [.ref (w 1), .int (zI ↑n), .ref (w 2), .ref (w 3), .ref (w 4), .ref (w 5), .int (zI ↑np), .ref (w 6), .ref (w 7), .int (zI ↑kn), .ref (w 8), .ref (w 9), .ref (w 10), .int (zI ↑ch), .int (zI le), .ref (w 11), .int (zI sf), .int (zI st), .ref (w 12)])), (w 2, .inl (cI, 30, .inl (kA K))), (w 5, .inl (cI, 30, .inl (kZ nu))), (w 9, .inl (cI, 30, .inl (kM (mPair (K k) (nu k) F i j x y))))] s.heap := by rw [e9]; exact hP
        rw [← hQf]
        exact k_vret hx hb hr hlocks hP hS d_Mo_pair_210
      · refine lv_iload_n hx hb d_Mo_pair_58 rfl (lv_at hl 4 rfl) ?_
        refine lv_iload hx hb d_Mo_pair_59 (lv_at hl 7 rfl) ?_
        refine k_icmp_le (tgt := 210) hx hb d_Mo_pair_61 (by decide) ⟨by omega, by omega⟩ ⟨by omega, by omega⟩ (fun c_61 => ?_) (fun c_61 => ?_)
        · have e9 : mPair (K k) (nu k) F i j x y = F := by unfold mPair; (repeat' split); all_goals first | rfl | (exfalso; omega) | (congr 1 <;> omega)
          replace hP : va_P D k_cl [(w 0, .inr (4, [.ref (w 1), .int (zI ↑n), .ref (w 2), .ref (w 3), .ref (w 4), .ref (w 5), .int (zI ↑np), .ref (w 6), .ref (w 7), .int (zI ↑kn), .ref (w 8), .ref (w 9), .ref (w 10), .int (zI ↑ch), .int (zI le), .ref (w 11), .int (zI sf), .int (zI st), .ref (w 12)])), (w 2, .inl (cI, 30, .inl (kA K))), (w 5, .inl (cI, 30, .inl (kZ nu))), (w 9, .inl (cI, 30, .inl (kM (mPair (K k) (nu k) F i j x y))))] s.heap := by rw [e9]; exact hP
          rw [← hQf]
          exact k_vret hx hb hr hlocks hP hS d_Mo_pair_210
        · refine lv_iload_n hx hb d_Mo_pair_64 rfl (lv_at hl 4 rfl) ?_
          refine lv_iload hx hb d_Mo_pair_65 (lv_at hl 7 rfl) ?_
          refine k_isub hx hb d_Mo_pair_67 rfl ?_
          refine lv_iconst (v := zI 1) hx hb d_Mo_pair_68 (by decide) ?_
          refine k_isub hx hb d_Mo_pair_69 rfl ?_
          refine lv_iload hx hb d_Mo_pair_70 (lv_at hl 1 rfl) ?_
          refine k_icmp_gt (tgt := 210) hx hb d_Mo_pair_72 (by decide) ⟨by omega, by omega⟩ ⟨by omega, by omega⟩ (fun c_72 => ?_) (fun c_72 => ?_)
          · have e9 : mPair (K k) (nu k) F i j x y = F := by unfold mPair; (repeat' split); all_goals first | rfl | (exfalso; omega) | (congr 1 <;> omega)
            replace hP : va_P D k_cl [(w 0, .inr (4, [.ref (w 1), .int (zI ↑n), .ref (w 2), .ref (w 3), .ref (w 4), .ref (w 5), .int (zI ↑np), .ref (w 6), .ref (w 7), .int (zI ↑kn), .ref (w 8), .ref (w 9), .ref (w 10), .int (zI ↑ch), .int (zI le), .ref (w 11), .int (zI sf), .int (zI st), .ref (w 12)])), (w 2, .inl (cI, 30, .inl (kA K))), (w 5, .inl (cI, 30, .inl (kZ nu))), (w 9, .inl (cI, 30, .inl (kM (mPair (K k) (nu k) F i j x y))))] s.heap := by rw [e9]; exact hP
            rw [← hQf]
            exact k_vret hx hb hr hlocks hP hS d_Mo_pair_210
          · refine lv_aload_n hx hb d_Mo_pair_75 rfl (lv_at hl 2 rfl) ?_
            refine lv_iload hx hb d_Mo_pair_76 (lv_at hl 6 rfl) ?_
            refine lv_iload_n hx hb d_Mo_pair_78 rfl (lv_at hl 5 rfl) ?_
            refine k_beV (va_runV (As := [.int (zI ↑x), .int (zI ↑j)]) (rest := []) ⟨hx, hb, hml, hown, hkw⟩ (c_Mo_comes l D cI cR cG w n np kn ch le sf st x j F (by omega) (by omega) hF _) (cwV 2 hkw (k_gV kw_methodLink_Mo_64 kw_instanceMethod_Mo_comes kw_selects_Mo_comes kw_initialized_Mo kw_code_Mo_comes) rfl rfl rfl (by decide +kernel) ⟨(Nat.le_of_ble_eq_true rfl), (Nat.le_of_ble_eq_true rfl)⟩) (k_preV (q0 := 0) hK hG hP hD [0, 3] rfl rfl rfl rfl) rfl rfl hl.1 rfl (lv_room (Nat.le_of_ble_eq_true rfl)) d_Mo_pair_79 ⟨Nat.zero_le _, Nat.zero_le _⟩) hP hD hS hA [0, 3] rfl (Eq.trans (b := [w 0, w 9]) rfl rfl) ?_
            clear hP hD hS; intro H locs hP hD hS
            replace hP : va_P D k_cl ([(w 0, .inr (4, [.ref (w 1), .int (zI ↑n), .ref (w 2), .ref (w 3), .ref (w 4), .ref (w 5), .int (zI ↑np), .ref (w 6), .ref (w 7), .int (zI ↑kn), .ref (w 8), .ref (w 9), .ref (w 10), .int (zI ↑ch), .int (zI le), .ref (w 11), .int (zI sf), .int (zI st), .ref (w 12)])), (w 2, .inl (cI, 30, .inl (kA K))), (w 5, .inl (cI, 30, .inl (kZ nu))), (w 9, .inl (cI, 30, .inl (kM (rAdd F x j))))]) H := hP
            replace hD : va_D A ([(w 0, .inr (4, [.ref (w 1), .int (zI ↑n), .ref (w 2), .ref (w 3), .ref (w 4), .ref (w 5), .int (zI ↑np), .ref (w 6), .ref (w 7), .int (zI ↑kn), .ref (w 8), .ref (w 9), .ref (w 10), .int (zI ↑ch), .int (zI le), .ref (w 11), .int (zI sf), .int (zI st), .ref (w 12)])), (w 2, .inl (cI, 30, .inl (kA K))), (w 5, .inl (cI, 30, .inl (kZ nu))), (w 9, .inl (cI, 30, .inl (kM (rAdd F x j))))]) := hD
            refine lv_goto (tgt := 210) hx hb d_Mo_pair_82 (by decide) ?_
            have e9 : mPair (K k) (nu k) F i j x y = rAdd F x j := by unfold mPair; (repeat' split); all_goals first | rfl | (exfalso; omega) | (congr 1 <;> omega)
            replace hP : va_P D k_cl [(w 0, .inr (4, [.ref (w 1), .int (zI ↑n), .ref (w 2), .ref (w 3), .ref (w 4), .ref (w 5), .int (zI ↑np), .ref (w 6), .ref (w 7), .int (zI ↑kn), .ref (w 8), .ref (w 9), .ref (w 10), .int (zI ↑ch), .int (zI le), .ref (w 11), .int (zI sf), .int (zI st), .ref (w 12)])), (w 2, .inl (cI, 30, .inl (kA K))), (w 5, .inl (cI, 30, .inl (kZ nu))), (w 9, .inl (cI, 30, .inl (kM (mPair (K k) (nu k) F i j x y))))] H := by rw [e9]; exact hP
            rw [← hQf]
            exact k_vret hx hb hr hlocks hP hS d_Mo_pair_210
    · refine lv_iload hx hb d_Mo_pair_34 (lv_at hl 6 rfl) ?_
      refine lv_iload_n hx hb d_Mo_pair_36 rfl (lv_at hl 5 rfl) ?_
      refine k_isub hx hb d_Mo_pair_37 rfl ?_
      refine lv_iconst (v := zI 1) hx hb d_Mo_pair_38 (by decide) ?_
      refine k_isub hx hb d_Mo_pair_39 rfl ?_
      refine lv_iload hx hb d_Mo_pair_40 (lv_at hl 1 rfl) ?_
      refine k_icmp_gt (tgt := 52) hx hb d_Mo_pair_42 (by decide) ⟨by omega, by omega⟩ ⟨by omega, by omega⟩ (fun c_42 => ?_) (fun c_42 => ?_)
      · refine lv_iload hx hb d_Mo_pair_52 (lv_at hl 0 rfl) ?_
        refine lv_iconst (v := zI 3) hx hb d_Mo_pair_54 (by decide) ?_
        refine k_icmp_ne (tgt := 210) hx hb d_Mo_pair_55 (by decide) ⟨by omega, by omega⟩ ⟨by omega, by omega⟩ (fun c_55 => ?_) (fun c_55 => ?_)
        · have e9 : mPair (K k) (nu k) F i j x y = F := by unfold mPair; (repeat' split); all_goals first | rfl | (exfalso; omega) | (congr 1 <;> omega)
          replace hP : va_P D k_cl [(w 0, .inr (4, [.ref (w 1), .int (zI ↑n), .ref (w 2), .ref (w 3), .ref (w 4), .ref (w 5), .int (zI ↑np), .ref (w 6), .ref (w 7), .int (zI ↑kn), .ref (w 8), .ref (w 9), .ref (w 10), .int (zI ↑ch), .int (zI le), .ref (w 11), .int (zI sf), .int (zI st), .ref (w 12)])), (w 2, .inl (cI, 30, .inl (kA K))), (w 5, .inl (cI, 30, .inl (kZ nu))), (w 9, .inl (cI, 30, .inl (kM (mPair (K k) (nu k) F i j x y))))] s.heap := by rw [e9]; exact hP
          rw [← hQf]
          exact k_vret hx hb hr hlocks hP hS d_Mo_pair_210
        · refine lv_iload_n hx hb d_Mo_pair_58 rfl (lv_at hl 4 rfl) ?_
          refine lv_iload hx hb d_Mo_pair_59 (lv_at hl 7 rfl) ?_
          refine k_icmp_le (tgt := 210) hx hb d_Mo_pair_61 (by decide) ⟨by omega, by omega⟩ ⟨by omega, by omega⟩ (fun c_61 => ?_) (fun c_61 => ?_)
          · have e9 : mPair (K k) (nu k) F i j x y = F := by unfold mPair; (repeat' split); all_goals first | rfl | (exfalso; omega) | (congr 1 <;> omega)
            replace hP : va_P D k_cl [(w 0, .inr (4, [.ref (w 1), .int (zI ↑n), .ref (w 2), .ref (w 3), .ref (w 4), .ref (w 5), .int (zI ↑np), .ref (w 6), .ref (w 7), .int (zI ↑kn), .ref (w 8), .ref (w 9), .ref (w 10), .int (zI ↑ch), .int (zI le), .ref (w 11), .int (zI sf), .int (zI st), .ref (w 12)])), (w 2, .inl (cI, 30, .inl (kA K))), (w 5, .inl (cI, 30, .inl (kZ nu))), (w 9, .inl (cI, 30, .inl (kM (mPair (K k) (nu k) F i j x y))))] s.heap := by rw [e9]; exact hP
            rw [← hQf]
            exact k_vret hx hb hr hlocks hP hS d_Mo_pair_210
          · refine lv_iload_n hx hb d_Mo_pair_64 rfl (lv_at hl 4 rfl) ?_
            refine lv_iload hx hb d_Mo_pair_65 (lv_at hl 7 rfl) ?_
            refine k_isub hx hb d_Mo_pair_67 rfl ?_
            refine lv_iconst (v := zI 1) hx hb d_Mo_pair_68 (by decide) ?_
            refine k_isub hx hb d_Mo_pair_69 rfl ?_
            refine lv_iload hx hb d_Mo_pair_70 (lv_at hl 1 rfl) ?_
            refine k_icmp_gt (tgt := 210) hx hb d_Mo_pair_72 (by decide) ⟨by omega, by omega⟩ ⟨by omega, by omega⟩ (fun c_72 => ?_) (fun c_72 => ?_)
            · have e9 : mPair (K k) (nu k) F i j x y = F := by unfold mPair; (repeat' split); all_goals first | rfl | (exfalso; omega) | (congr 1 <;> omega)
              replace hP : va_P D k_cl [(w 0, .inr (4, [.ref (w 1), .int (zI ↑n), .ref (w 2), .ref (w 3), .ref (w 4), .ref (w 5), .int (zI ↑np), .ref (w 6), .ref (w 7), .int (zI ↑kn), .ref (w 8), .ref (w 9), .ref (w 10), .int (zI ↑ch), .int (zI le), .ref (w 11), .int (zI sf), .int (zI st), .ref (w 12)])), (w 2, .inl (cI, 30, .inl (kA K))), (w 5, .inl (cI, 30, .inl (kZ nu))), (w 9, .inl (cI, 30, .inl (kM (mPair (K k) (nu k) F i j x y))))] s.heap := by rw [e9]; exact hP
              rw [← hQf]
              exact k_vret hx hb hr hlocks hP hS d_Mo_pair_210
            · refine lv_aload_n hx hb d_Mo_pair_75 rfl (lv_at hl 2 rfl) ?_
              refine lv_iload hx hb d_Mo_pair_76 (lv_at hl 6 rfl) ?_
              refine lv_iload_n hx hb d_Mo_pair_78 rfl (lv_at hl 5 rfl) ?_
              refine k_beV (va_runV (As := [.int (zI ↑x), .int (zI ↑j)]) (rest := []) ⟨hx, hb, hml, hown, hkw⟩ (c_Mo_comes l D cI cR cG w n np kn ch le sf st x j F (by omega) (by omega) hF _) (cwV 2 hkw (k_gV kw_methodLink_Mo_64 kw_instanceMethod_Mo_comes kw_selects_Mo_comes kw_initialized_Mo kw_code_Mo_comes) rfl rfl rfl (by decide +kernel) ⟨(Nat.le_of_ble_eq_true rfl), (Nat.le_of_ble_eq_true rfl)⟩) (k_preV (q0 := 0) hK hG hP hD [0, 3] rfl rfl rfl rfl) rfl rfl hl.1 rfl (lv_room (Nat.le_of_ble_eq_true rfl)) d_Mo_pair_79 ⟨Nat.zero_le _, Nat.zero_le _⟩) hP hD hS hA [0, 3] rfl (Eq.trans (b := [w 0, w 9]) rfl rfl) ?_
              clear hP hD hS; intro H locs hP hD hS
              replace hP : va_P D k_cl ([(w 0, .inr (4, [.ref (w 1), .int (zI ↑n), .ref (w 2), .ref (w 3), .ref (w 4), .ref (w 5), .int (zI ↑np), .ref (w 6), .ref (w 7), .int (zI ↑kn), .ref (w 8), .ref (w 9), .ref (w 10), .int (zI ↑ch), .int (zI le), .ref (w 11), .int (zI sf), .int (zI st), .ref (w 12)])), (w 2, .inl (cI, 30, .inl (kA K))), (w 5, .inl (cI, 30, .inl (kZ nu))), (w 9, .inl (cI, 30, .inl (kM (rAdd F x j))))]) H := hP
              replace hD : va_D A ([(w 0, .inr (4, [.ref (w 1), .int (zI ↑n), .ref (w 2), .ref (w 3), .ref (w 4), .ref (w 5), .int (zI ↑np), .ref (w 6), .ref (w 7), .int (zI ↑kn), .ref (w 8), .ref (w 9), .ref (w 10), .int (zI ↑ch), .int (zI le), .ref (w 11), .int (zI sf), .int (zI st), .ref (w 12)])), (w 2, .inl (cI, 30, .inl (kA K))), (w 5, .inl (cI, 30, .inl (kZ nu))), (w 9, .inl (cI, 30, .inl (kM (rAdd F x j))))]) := hD
              refine lv_goto (tgt := 210) hx hb d_Mo_pair_82 (by decide) ?_
              have e9 : mPair (K k) (nu k) F i j x y = rAdd F x j := by unfold mPair; (repeat' split); all_goals first | rfl | (exfalso; omega) | (congr 1 <;> omega)
              replace hP : va_P D k_cl [(w 0, .inr (4, [.ref (w 1), .int (zI ↑n), .ref (w 2), .ref (w 3), .ref (w 4), .ref (w 5), .int (zI ↑np), .ref (w 6), .ref (w 7), .int (zI ↑kn), .ref (w 8), .ref (w 9), .ref (w 10), .int (zI ↑ch), .int (zI le), .ref (w 11), .int (zI sf), .int (zI st), .ref (w 12)])), (w 2, .inl (cI, 30, .inl (kA K))), (w 5, .inl (cI, 30, .inl (kZ nu))), (w 9, .inl (cI, 30, .inl (kM (mPair (K k) (nu k) F i j x y))))] H := by rw [e9]; exact hP
              rw [← hQf]
              exact k_vret hx hb hr hlocks hP hS d_Mo_pair_210
      · refine lv_aload_n hx hb d_Mo_pair_45 rfl (lv_at hl 2 rfl) ?_
        refine lv_iload_n hx hb d_Mo_pair_46 rfl (lv_at hl 4 rfl) ?_
        refine lv_iload hx hb d_Mo_pair_47 (lv_at hl 7 rfl) ?_
        refine k_beV (va_runV (As := [.int (zI ↑i), .int (zI ↑y)]) (rest := []) ⟨hx, hb, hml, hown, hkw⟩ (c_Mo_comes l D cI cR cG w n np kn ch le sf st i y F (by omega) (by omega) hF _) (cwV 2 hkw (k_gV kw_methodLink_Mo_64 kw_instanceMethod_Mo_comes kw_selects_Mo_comes kw_initialized_Mo kw_code_Mo_comes) rfl rfl rfl (by decide +kernel) ⟨(Nat.le_of_ble_eq_true rfl), (Nat.le_of_ble_eq_true rfl)⟩) (k_preV (q0 := 0) hK hG hP hD [0, 3] rfl rfl rfl rfl) rfl rfl hl.1 rfl (lv_room (Nat.le_of_ble_eq_true rfl)) d_Mo_pair_49 ⟨Nat.zero_le _, Nat.zero_le _⟩) hP hD hS hA [0, 3] rfl (Eq.trans (b := [w 0, w 9]) rfl rfl) ?_
        clear hP hD hS; intro H locs hP hD hS
        replace hP : va_P D k_cl ([(w 0, .inr (4, [.ref (w 1), .int (zI ↑n), .ref (w 2), .ref (w 3), .ref (w 4), .ref (w 5), .int (zI ↑np), .ref (w 6), .ref (w 7), .int (zI ↑kn), .ref (w 8), .ref (w 9), .ref (w 10), .int (zI ↑ch), .int (zI le), .ref (w 11), .int (zI sf), .int (zI st), .ref (w 12)])), (w 2, .inl (cI, 30, .inl (kA K))), (w 5, .inl (cI, 30, .inl (kZ nu))), (w 9, .inl (cI, 30, .inl (kM (rAdd F i y))))]) H := hP
        replace hD : va_D A ([(w 0, .inr (4, [.ref (w 1), .int (zI ↑n), .ref (w 2), .ref (w 3), .ref (w 4), .ref (w 5), .int (zI ↑np), .ref (w 6), .ref (w 7), .int (zI ↑kn), .ref (w 8), .ref (w 9), .ref (w 10), .int (zI ↑ch), .int (zI le), .ref (w 11), .int (zI sf), .int (zI st), .ref (w 12)])), (w 2, .inl (cI, 30, .inl (kA K))), (w 5, .inl (cI, 30, .inl (kZ nu))), (w 9, .inl (cI, 30, .inl (kM (rAdd F i y))))]) := hD
        refine lv_iload hx hb d_Mo_pair_52 (lv_at hl 0 rfl) ?_
        refine lv_iconst (v := zI 3) hx hb d_Mo_pair_54 (by decide) ?_
        refine k_icmp_ne (tgt := 210) hx hb d_Mo_pair_55 (by decide) ⟨by omega, by omega⟩ ⟨by omega, by omega⟩ (fun c_55 => ?_) (fun c_55 => ?_)
        · have e9 : mPair (K k) (nu k) F i j x y = rAdd F i y := by unfold mPair; (repeat' split); all_goals first | rfl | (exfalso; omega) | (congr 1 <;> omega)
          replace hP : va_P D k_cl [(w 0, .inr (4, [.ref (w 1), .int (zI ↑n), .ref (w 2), .ref (w 3), .ref (w 4), .ref (w 5), .int (zI ↑np), .ref (w 6), .ref (w 7), .int (zI ↑kn), .ref (w 8), .ref (w 9), .ref (w 10), .int (zI ↑ch), .int (zI le), .ref (w 11), .int (zI sf), .int (zI st), .ref (w 12)])), (w 2, .inl (cI, 30, .inl (kA K))), (w 5, .inl (cI, 30, .inl (kZ nu))), (w 9, .inl (cI, 30, .inl (kM (mPair (K k) (nu k) F i j x y))))] H := by rw [e9]; exact hP
          rw [← hQf]
          exact k_vret hx hb hr hlocks hP hS d_Mo_pair_210
        · refine lv_iload_n hx hb d_Mo_pair_58 rfl (lv_at hl 4 rfl) ?_
          refine lv_iload hx hb d_Mo_pair_59 (lv_at hl 7 rfl) ?_
          refine k_icmp_le (tgt := 210) hx hb d_Mo_pair_61 (by decide) ⟨by omega, by omega⟩ ⟨by omega, by omega⟩ (fun c_61 => ?_) (fun c_61 => ?_)
          · have e9 : mPair (K k) (nu k) F i j x y = rAdd F i y := by unfold mPair; (repeat' split); all_goals first | rfl | (exfalso; omega) | (congr 1 <;> omega)
            replace hP : va_P D k_cl [(w 0, .inr (4, [.ref (w 1), .int (zI ↑n), .ref (w 2), .ref (w 3), .ref (w 4), .ref (w 5), .int (zI ↑np), .ref (w 6), .ref (w 7), .int (zI ↑kn), .ref (w 8), .ref (w 9), .ref (w 10), .int (zI ↑ch), .int (zI le), .ref (w 11), .int (zI sf), .int (zI st), .ref (w 12)])), (w 2, .inl (cI, 30, .inl (kA K))), (w 5, .inl (cI, 30, .inl (kZ nu))), (w 9, .inl (cI, 30, .inl (kM (mPair (K k) (nu k) F i j x y))))] H := by rw [e9]; exact hP
            rw [← hQf]
            exact k_vret hx hb hr hlocks hP hS d_Mo_pair_210
          · refine lv_iload_n hx hb d_Mo_pair_64 rfl (lv_at hl 4 rfl) ?_
            refine lv_iload hx hb d_Mo_pair_65 (lv_at hl 7 rfl) ?_
            refine k_isub hx hb d_Mo_pair_67 rfl ?_
            refine lv_iconst (v := zI 1) hx hb d_Mo_pair_68 (by decide) ?_
            refine k_isub hx hb d_Mo_pair_69 rfl ?_
            refine lv_iload hx hb d_Mo_pair_70 (lv_at hl 1 rfl) ?_
            refine k_icmp_gt (tgt := 210) hx hb d_Mo_pair_72 (by decide) ⟨by omega, by omega⟩ ⟨by omega, by omega⟩ (fun c_72 => ?_) (fun c_72 => ?_)
            · have e9 : mPair (K k) (nu k) F i j x y = rAdd F i y := by unfold mPair; (repeat' split); all_goals first | rfl | (exfalso; omega) | (congr 1 <;> omega)
              replace hP : va_P D k_cl [(w 0, .inr (4, [.ref (w 1), .int (zI ↑n), .ref (w 2), .ref (w 3), .ref (w 4), .ref (w 5), .int (zI ↑np), .ref (w 6), .ref (w 7), .int (zI ↑kn), .ref (w 8), .ref (w 9), .ref (w 10), .int (zI ↑ch), .int (zI le), .ref (w 11), .int (zI sf), .int (zI st), .ref (w 12)])), (w 2, .inl (cI, 30, .inl (kA K))), (w 5, .inl (cI, 30, .inl (kZ nu))), (w 9, .inl (cI, 30, .inl (kM (mPair (K k) (nu k) F i j x y))))] H := by rw [e9]; exact hP
              rw [← hQf]
              exact k_vret hx hb hr hlocks hP hS d_Mo_pair_210
            · refine lv_aload_n hx hb d_Mo_pair_75 rfl (lv_at hl 2 rfl) ?_
              refine lv_iload hx hb d_Mo_pair_76 (lv_at hl 6 rfl) ?_
              refine lv_iload_n hx hb d_Mo_pair_78 rfl (lv_at hl 5 rfl) ?_
              refine k_beV (va_runV (As := [.int (zI ↑x), .int (zI ↑j)]) (rest := []) ⟨hx, hb, hml, hown, hkw⟩ (c_Mo_comes l D cI cR cG w n np kn ch le sf st x j (rAdd F i y) (by omega) (by omega) (rAdd_le hF (by omega)) _) (cwV 2 hkw (k_gV kw_methodLink_Mo_64 kw_instanceMethod_Mo_comes kw_selects_Mo_comes kw_initialized_Mo kw_code_Mo_comes) rfl rfl rfl (by decide +kernel) ⟨(Nat.le_of_ble_eq_true rfl), (Nat.le_of_ble_eq_true rfl)⟩) (k_preV (q0 := 0) hK hG hP hD [0, 3] rfl rfl rfl rfl) rfl rfl hl.1 rfl (lv_room (Nat.le_of_ble_eq_true rfl)) d_Mo_pair_79 ⟨Nat.zero_le _, Nat.zero_le _⟩) hP hD hS hA [0, 3] rfl (Eq.trans (b := [w 0, w 9]) rfl rfl) ?_
              clear hP hD hS; intro H locs hP hD hS
              replace hP : va_P D k_cl ([(w 0, .inr (4, [.ref (w 1), .int (zI ↑n), .ref (w 2), .ref (w 3), .ref (w 4), .ref (w 5), .int (zI ↑np), .ref (w 6), .ref (w 7), .int (zI ↑kn), .ref (w 8), .ref (w 9), .ref (w 10), .int (zI ↑ch), .int (zI le), .ref (w 11), .int (zI sf), .int (zI st), .ref (w 12)])), (w 2, .inl (cI, 30, .inl (kA K))), (w 5, .inl (cI, 30, .inl (kZ nu))), (w 9, .inl (cI, 30, .inl (kM (rAdd (rAdd F i y) x j))))]) H := hP
              replace hD : va_D A ([(w 0, .inr (4, [.ref (w 1), .int (zI ↑n), .ref (w 2), .ref (w 3), .ref (w 4), .ref (w 5), .int (zI ↑np), .ref (w 6), .ref (w 7), .int (zI ↑kn), .ref (w 8), .ref (w 9), .ref (w 10), .int (zI ↑ch), .int (zI le), .ref (w 11), .int (zI sf), .int (zI st), .ref (w 12)])), (w 2, .inl (cI, 30, .inl (kA K))), (w 5, .inl (cI, 30, .inl (kZ nu))), (w 9, .inl (cI, 30, .inl (kM (rAdd (rAdd F i y) x j))))]) := hD
              refine lv_goto (tgt := 210) hx hb d_Mo_pair_82 (by decide) ?_
              have e9 : mPair (K k) (nu k) F i j x y = rAdd (rAdd F i y) x j := by unfold mPair; (repeat' split); all_goals first | rfl | (exfalso; omega) | (congr 1 <;> omega)
              replace hP : va_P D k_cl [(w 0, .inr (4, [.ref (w 1), .int (zI ↑n), .ref (w 2), .ref (w 3), .ref (w 4), .ref (w 5), .int (zI ↑np), .ref (w 6), .ref (w 7), .int (zI ↑kn), .ref (w 8), .ref (w 9), .ref (w 10), .int (zI ↑ch), .int (zI le), .ref (w 11), .int (zI sf), .int (zI st), .ref (w 12)])), (w 2, .inl (cI, 30, .inl (kA K))), (w 5, .inl (cI, 30, .inl (kZ nu))), (w 9, .inl (cI, 30, .inl (kM (mPair (K k) (nu k) F i j x y))))] H := by rw [e9]; exact hP
              rw [← hQf]
              exact k_vret hx hb hr hlocks hP hS d_Mo_pair_210
  · refine lv_iload hx hb d_Mo_pair_22 (lv_at hl 0 rfl) ?_
    refine lv_iconst (v := zI 3) hx hb d_Mo_pair_24 (by decide) ?_
    refine k_icmp_ne (tgt := 85) hx hb d_Mo_pair_25 (by decide) ⟨by omega, by omega⟩ ⟨by omega, by omega⟩ (fun c_25 => ?_) (fun c_25 => ?_)
    · refine lv_iload hx hb d_Mo_pair_85 (lv_at hl 0 rfl) ?_
      refine lv_iconst (v := zI 4) hx hb d_Mo_pair_87 (by decide) ?_
      refine k_icmp_ne (tgt := 142) hx hb d_Mo_pair_88 (by decide) ⟨by omega, by omega⟩ ⟨by omega, by omega⟩ (fun c_88 => ?_) (fun c_88 => ?_)
      · refine lv_iload hx hb d_Mo_pair_142 (lv_at hl 0 rfl) ?_
        refine lv_iconst (v := zI 5) hx hb d_Mo_pair_144 (by decide) ?_
        refine k_icmp_ne (tgt := 163) hx hb d_Mo_pair_145 (by decide) ⟨by omega, by omega⟩ ⟨by omega, by omega⟩ (fun c_145 => ?_) (fun c_145 => ?_)
        · refine lv_iload hx hb d_Mo_pair_163 (lv_at hl 0 rfl) ?_
          refine lv_bipush (v := zI 6) hx hb d_Mo_pair_165 (by decide) ?_
          refine k_icmp_ne (tgt := 185) hx hb d_Mo_pair_167 (by decide) ⟨by omega, by omega⟩ ⟨by omega, by omega⟩ (fun c_167 => ?_) (fun c_167 => ?_)
          · refine lv_iload hx hb d_Mo_pair_185 (lv_at hl 0 rfl) ?_
            refine lv_bipush (v := zI 7) hx hb d_Mo_pair_187 (by decide) ?_
            refine k_icmp_ne (tgt := 210) hx hb d_Mo_pair_189 (by decide) ⟨by omega, by omega⟩ ⟨by omega, by omega⟩ (fun c_189 => ?_) (fun c_189 => ?_)
            · have e9 : mPair (K k) (nu k) F i j x y = F := by unfold mPair; (repeat' split); all_goals first | rfl | (exfalso; omega) | (congr 1 <;> omega)
              replace hP : va_P D k_cl [(w 0, .inr (4, [.ref (w 1), .int (zI ↑n), .ref (w 2), .ref (w 3), .ref (w 4), .ref (w 5), .int (zI ↑np), .ref (w 6), .ref (w 7), .int (zI ↑kn), .ref (w 8), .ref (w 9), .ref (w 10), .int (zI ↑ch), .int (zI le), .ref (w 11), .int (zI sf), .int (zI st), .ref (w 12)])), (w 2, .inl (cI, 30, .inl (kA K))), (w 5, .inl (cI, 30, .inl (kZ nu))), (w 9, .inl (cI, 30, .inl (kM (mPair (K k) (nu k) F i j x y))))] s.heap := by rw [e9]; exact hP
              rw [← hQf]
              exact k_vret hx hb hr hlocks hP hS d_Mo_pair_210
            · refine lv_iload_n hx hb d_Mo_pair_192 rfl (lv_at hl 4 rfl) ?_
              refine lv_iload_n hx hb d_Mo_pair_193 rfl (lv_at hl 5 rfl) ?_
              refine lv_iload hx hb d_Mo_pair_194 (lv_at hl 6 rfl) ?_
              refine lv_iload hx hb d_Mo_pair_196 (lv_at hl 7 rfl) ?_
              refine k_beI (va_runS (As := [.int (zI ↑i), .int (zI ↑j), .int (zI ↑x), .int (zI ↑y)]) (rest := []) ⟨hx, hb, hml, hown, hkw⟩ (c_Mo_gap l D cI cR cG ↑i ↑j ↑x ↑y (by omega) (by omega) (by omega) (by omega) _) (va_cwS 4 hkw (k_gS kw_methodLink_Mo_68 kw_static_Mo_gap kw_initialized_Mo kw_code_Mo_gap) rfl rfl rfl (by decide +kernel) ⟨(Nat.le_of_ble_eq_true rfl), (Nat.le_of_ble_eq_true rfl)⟩) (k_preS hK hG hP hD [] rfl rfl) rfl rfl hl.1 rfl (lv_room (Nat.le_of_ble_eq_true rfl)) d_Mo_pair_198 ⟨Nat.zero_le _, Nat.zero_le _⟩) hP hD hS hA [] rfl (Eq.trans (b := []) rfl rfl) ?_
              clear hP hD hS; intro H locs hP hD hS
              replace hP : va_P D k_cl ([(w 0, .inr (4, [.ref (w 1), .int (zI ↑n), .ref (w 2), .ref (w 3), .ref (w 4), .ref (w 5), .int (zI ↑np), .ref (w 6), .ref (w 7), .int (zI ↑kn), .ref (w 8), .ref (w 9), .ref (w 10), .int (zI ↑ch), .int (zI le), .ref (w 11), .int (zI sf), .int (zI st), .ref (w 12)])), (w 2, .inl (cI, 30, .inl (kA K))), (w 5, .inl (cI, 30, .inl (kZ nu))), (w 9, .inl (cI, 30, .inl (kM F)))]) H := hP
              replace hD : va_D A ([(w 0, .inr (4, [.ref (w 1), .int (zI ↑n), .ref (w 2), .ref (w 3), .ref (w 4), .ref (w 5), .int (zI ↑np), .ref (w 6), .ref (w 7), .int (zI ↑kn), .ref (w 8), .ref (w 9), .ref (w 10), .int (zI ↑ch), .int (zI le), .ref (w 11), .int (zI sf), .int (zI st), .ref (w 12)])), (w 2, .inl (cI, 30, .inl (kA K))), (w 5, .inl (cI, 30, .inl (kZ nu))), (w 9, .inl (cI, 30, .inl (kM F)))]) := hD
              have hg_3 := mGap_bd (i := ↑i) (j := ↑j) (x := ↑x) (y := ↑y) (by omega) (by omega) (by omega) (by omega)
              refine k_if_ge (tgt := 210) hx hb d_Mo_pair_201 (by decide) ⟨by omega, by omega⟩ (fun c_201 => ?_) (fun c_201 => ?_)
              · have e9 : mPair (K k) (nu k) F i j x y = F := by unfold mPair; (repeat' split); all_goals first | rfl | (exfalso; omega) | (congr 1 <;> omega)
                replace hP : va_P D k_cl [(w 0, .inr (4, [.ref (w 1), .int (zI ↑n), .ref (w 2), .ref (w 3), .ref (w 4), .ref (w 5), .int (zI ↑np), .ref (w 6), .ref (w 7), .int (zI ↑kn), .ref (w 8), .ref (w 9), .ref (w 10), .int (zI ↑ch), .int (zI le), .ref (w 11), .int (zI sf), .int (zI st), .ref (w 12)])), (w 2, .inl (cI, 30, .inl (kA K))), (w 5, .inl (cI, 30, .inl (kZ nu))), (w 9, .inl (cI, 30, .inl (kM (mPair (K k) (nu k) F i j x y))))] H := by rw [e9]; exact hP
                rw [← hQf]
                exact k_vret hx hb hr hlocks hP hS d_Mo_pair_210
              · refine lv_aload_n hx hb d_Mo_pair_204 rfl (lv_at hl 2 rfl) ?_
                refine lv_iload_n hx hb d_Mo_pair_205 rfl (lv_at hl 4 rfl) ?_
                refine lv_iload_n hx hb d_Mo_pair_206 rfl (lv_at hl 5 rfl) ?_
                refine k_beV (va_runV (As := [.int (zI ↑i), .int (zI ↑j)]) (rest := []) ⟨hx, hb, hml, hown, hkw⟩ (c_Mo_comes l D cI cR cG w n np kn ch le sf st i j F (by omega) (by omega) hF _) (cwV 2 hkw (k_gV kw_methodLink_Mo_64 kw_instanceMethod_Mo_comes kw_selects_Mo_comes kw_initialized_Mo kw_code_Mo_comes) rfl rfl rfl (by decide +kernel) ⟨(Nat.le_of_ble_eq_true rfl), (Nat.le_of_ble_eq_true rfl)⟩) (k_preV (q0 := 0) hK hG hP hD [0, 3] rfl rfl rfl rfl) rfl rfl hl.1 rfl (lv_room (Nat.le_of_ble_eq_true rfl)) d_Mo_pair_207 ⟨Nat.zero_le _, Nat.zero_le _⟩) hP hD hS hA [0, 3] rfl (Eq.trans (b := [w 0, w 9]) rfl rfl) ?_
                clear hP hD hS; intro H locs hP hD hS
                replace hP : va_P D k_cl ([(w 0, .inr (4, [.ref (w 1), .int (zI ↑n), .ref (w 2), .ref (w 3), .ref (w 4), .ref (w 5), .int (zI ↑np), .ref (w 6), .ref (w 7), .int (zI ↑kn), .ref (w 8), .ref (w 9), .ref (w 10), .int (zI ↑ch), .int (zI le), .ref (w 11), .int (zI sf), .int (zI st), .ref (w 12)])), (w 2, .inl (cI, 30, .inl (kA K))), (w 5, .inl (cI, 30, .inl (kZ nu))), (w 9, .inl (cI, 30, .inl (kM (rAdd F i j))))]) H := hP
                replace hD : va_D A ([(w 0, .inr (4, [.ref (w 1), .int (zI ↑n), .ref (w 2), .ref (w 3), .ref (w 4), .ref (w 5), .int (zI ↑np), .ref (w 6), .ref (w 7), .int (zI ↑kn), .ref (w 8), .ref (w 9), .ref (w 10), .int (zI ↑ch), .int (zI le), .ref (w 11), .int (zI sf), .int (zI st), .ref (w 12)])), (w 2, .inl (cI, 30, .inl (kA K))), (w 5, .inl (cI, 30, .inl (kZ nu))), (w 9, .inl (cI, 30, .inl (kM (rAdd F i j))))]) := hD
                have e9 : mPair (K k) (nu k) F i j x y = rAdd F i j := by unfold mPair; (repeat' split); all_goals first | rfl | (exfalso; omega) | (congr 1 <;> omega)
                replace hP : va_P D k_cl [(w 0, .inr (4, [.ref (w 1), .int (zI ↑n), .ref (w 2), .ref (w 3), .ref (w 4), .ref (w 5), .int (zI ↑np), .ref (w 6), .ref (w 7), .int (zI ↑kn), .ref (w 8), .ref (w 9), .ref (w 10), .int (zI ↑ch), .int (zI le), .ref (w 11), .int (zI sf), .int (zI st), .ref (w 12)])), (w 2, .inl (cI, 30, .inl (kA K))), (w 5, .inl (cI, 30, .inl (kZ nu))), (w 9, .inl (cI, 30, .inl (kM (mPair (K k) (nu k) F i j x y))))] H := by rw [e9]; exact hP
                rw [← hQf]
                exact k_vret hx hb hr hlocks hP hS d_Mo_pair_210
          · refine lv_iload hx hb d_Mo_pair_170 (lv_at hl 6 rfl) ?_
            refine lv_iload_n hx hb d_Mo_pair_172 rfl (lv_at hl 4 rfl) ?_
            refine k_icmp_gt (tgt := 210) hx hb d_Mo_pair_173 (by decide) ⟨by omega, by omega⟩ ⟨by omega, by omega⟩ (fun c_173 => ?_) (fun c_173 => ?_)
            · have e9 : mPair (K k) (nu k) F i j x y = F := by unfold mPair; (repeat' split); all_goals first | rfl | (exfalso; omega) | (congr 1 <;> omega)
              replace hP : va_P D k_cl [(w 0, .inr (4, [.ref (w 1), .int (zI ↑n), .ref (w 2), .ref (w 3), .ref (w 4), .ref (w 5), .int (zI ↑np), .ref (w 6), .ref (w 7), .int (zI ↑kn), .ref (w 8), .ref (w 9), .ref (w 10), .int (zI ↑ch), .int (zI le), .ref (w 11), .int (zI sf), .int (zI st), .ref (w 12)])), (w 2, .inl (cI, 30, .inl (kA K))), (w 5, .inl (cI, 30, .inl (kZ nu))), (w 9, .inl (cI, 30, .inl (kM (mPair (K k) (nu k) F i j x y))))] s.heap := by rw [e9]; exact hP
              rw [← hQf]
              exact k_vret hx hb hr hlocks hP hS d_Mo_pair_210
            · refine lv_iload_n hx hb d_Mo_pair_176 rfl (lv_at hl 5 rfl) ?_
              refine lv_iload hx hb d_Mo_pair_177 (lv_at hl 7 rfl) ?_
              refine k_icmp_gt (tgt := 210) hx hb d_Mo_pair_179 (by decide) ⟨by omega, by omega⟩ ⟨by omega, by omega⟩ (fun c_179 => ?_) (fun c_179 => ?_)
              · have e9 : mPair (K k) (nu k) F i j x y = F := by unfold mPair; (repeat' split); all_goals first | rfl | (exfalso; omega) | (congr 1 <;> omega)
                replace hP : va_P D k_cl [(w 0, .inr (4, [.ref (w 1), .int (zI ↑n), .ref (w 2), .ref (w 3), .ref (w 4), .ref (w 5), .int (zI ↑np), .ref (w 6), .ref (w 7), .int (zI ↑kn), .ref (w 8), .ref (w 9), .ref (w 10), .int (zI ↑ch), .int (zI le), .ref (w 11), .int (zI sf), .int (zI st), .ref (w 12)])), (w 2, .inl (cI, 30, .inl (kA K))), (w 5, .inl (cI, 30, .inl (kZ nu))), (w 9, .inl (cI, 30, .inl (kM (mPair (K k) (nu k) F i j x y))))] s.heap := by rw [e9]; exact hP
                rw [← hQf]
                exact k_vret hx hb hr hlocks hP hS d_Mo_pair_210
              · refine lv_goto (tgt := 204) hx hb d_Mo_pair_182 (by decide) ?_
                refine lv_aload_n hx hb d_Mo_pair_204 rfl (lv_at hl 2 rfl) ?_
                refine lv_iload_n hx hb d_Mo_pair_205 rfl (lv_at hl 4 rfl) ?_
                refine lv_iload_n hx hb d_Mo_pair_206 rfl (lv_at hl 5 rfl) ?_
                refine k_beV (va_runV (As := [.int (zI ↑i), .int (zI ↑j)]) (rest := []) ⟨hx, hb, hml, hown, hkw⟩ (c_Mo_comes l D cI cR cG w n np kn ch le sf st i j F (by omega) (by omega) hF _) (cwV 2 hkw (k_gV kw_methodLink_Mo_64 kw_instanceMethod_Mo_comes kw_selects_Mo_comes kw_initialized_Mo kw_code_Mo_comes) rfl rfl rfl (by decide +kernel) ⟨(Nat.le_of_ble_eq_true rfl), (Nat.le_of_ble_eq_true rfl)⟩) (k_preV (q0 := 0) hK hG hP hD [0, 3] rfl rfl rfl rfl) rfl rfl hl.1 rfl (lv_room (Nat.le_of_ble_eq_true rfl)) d_Mo_pair_207 ⟨Nat.zero_le _, Nat.zero_le _⟩) hP hD hS hA [0, 3] rfl (Eq.trans (b := [w 0, w 9]) rfl rfl) ?_
                clear hP hD hS; intro H locs hP hD hS
                replace hP : va_P D k_cl ([(w 0, .inr (4, [.ref (w 1), .int (zI ↑n), .ref (w 2), .ref (w 3), .ref (w 4), .ref (w 5), .int (zI ↑np), .ref (w 6), .ref (w 7), .int (zI ↑kn), .ref (w 8), .ref (w 9), .ref (w 10), .int (zI ↑ch), .int (zI le), .ref (w 11), .int (zI sf), .int (zI st), .ref (w 12)])), (w 2, .inl (cI, 30, .inl (kA K))), (w 5, .inl (cI, 30, .inl (kZ nu))), (w 9, .inl (cI, 30, .inl (kM (rAdd F i j))))]) H := hP
                replace hD : va_D A ([(w 0, .inr (4, [.ref (w 1), .int (zI ↑n), .ref (w 2), .ref (w 3), .ref (w 4), .ref (w 5), .int (zI ↑np), .ref (w 6), .ref (w 7), .int (zI ↑kn), .ref (w 8), .ref (w 9), .ref (w 10), .int (zI ↑ch), .int (zI le), .ref (w 11), .int (zI sf), .int (zI st), .ref (w 12)])), (w 2, .inl (cI, 30, .inl (kA K))), (w 5, .inl (cI, 30, .inl (kZ nu))), (w 9, .inl (cI, 30, .inl (kM (rAdd F i j))))]) := hD
                have e9 : mPair (K k) (nu k) F i j x y = rAdd F i j := by unfold mPair; (repeat' split); all_goals first | rfl | (exfalso; omega) | (congr 1 <;> omega)
                replace hP : va_P D k_cl [(w 0, .inr (4, [.ref (w 1), .int (zI ↑n), .ref (w 2), .ref (w 3), .ref (w 4), .ref (w 5), .int (zI ↑np), .ref (w 6), .ref (w 7), .int (zI ↑kn), .ref (w 8), .ref (w 9), .ref (w 10), .int (zI ↑ch), .int (zI le), .ref (w 11), .int (zI sf), .int (zI st), .ref (w 12)])), (w 2, .inl (cI, 30, .inl (kA K))), (w 5, .inl (cI, 30, .inl (kZ nu))), (w 9, .inl (cI, 30, .inl (kM (mPair (K k) (nu k) F i j x y))))] H := by rw [e9]; exact hP
                rw [← hQf]
                exact k_vret hx hb hr hlocks hP hS d_Mo_pair_210
        · refine lv_iload_n hx hb d_Mo_pair_148 rfl (lv_at hl 4 rfl) ?_
          refine lv_iload hx hb d_Mo_pair_149 (lv_at hl 6 rfl) ?_
          refine k_icmp_gt (tgt := 210) hx hb d_Mo_pair_151 (by decide) ⟨by omega, by omega⟩ ⟨by omega, by omega⟩ (fun c_151 => ?_) (fun c_151 => ?_)
          · have e9 : mPair (K k) (nu k) F i j x y = F := by unfold mPair; (repeat' split); all_goals first | rfl | (exfalso; omega) | (congr 1 <;> omega)
            replace hP : va_P D k_cl [(w 0, .inr (4, [.ref (w 1), .int (zI ↑n), .ref (w 2), .ref (w 3), .ref (w 4), .ref (w 5), .int (zI ↑np), .ref (w 6), .ref (w 7), .int (zI ↑kn), .ref (w 8), .ref (w 9), .ref (w 10), .int (zI ↑ch), .int (zI le), .ref (w 11), .int (zI sf), .int (zI st), .ref (w 12)])), (w 2, .inl (cI, 30, .inl (kA K))), (w 5, .inl (cI, 30, .inl (kZ nu))), (w 9, .inl (cI, 30, .inl (kM (mPair (K k) (nu k) F i j x y))))] s.heap := by rw [e9]; exact hP
            rw [← hQf]
            exact k_vret hx hb hr hlocks hP hS d_Mo_pair_210
          · refine lv_iload hx hb d_Mo_pair_154 (lv_at hl 7 rfl) ?_
            refine lv_iload_n hx hb d_Mo_pair_156 rfl (lv_at hl 5 rfl) ?_
            refine k_icmp_gt (tgt := 210) hx hb d_Mo_pair_157 (by decide) ⟨by omega, by omega⟩ ⟨by omega, by omega⟩ (fun c_157 => ?_) (fun c_157 => ?_)
            · have e9 : mPair (K k) (nu k) F i j x y = F := by unfold mPair; (repeat' split); all_goals first | rfl | (exfalso; omega) | (congr 1 <;> omega)
              replace hP : va_P D k_cl [(w 0, .inr (4, [.ref (w 1), .int (zI ↑n), .ref (w 2), .ref (w 3), .ref (w 4), .ref (w 5), .int (zI ↑np), .ref (w 6), .ref (w 7), .int (zI ↑kn), .ref (w 8), .ref (w 9), .ref (w 10), .int (zI ↑ch), .int (zI le), .ref (w 11), .int (zI sf), .int (zI st), .ref (w 12)])), (w 2, .inl (cI, 30, .inl (kA K))), (w 5, .inl (cI, 30, .inl (kZ nu))), (w 9, .inl (cI, 30, .inl (kM (mPair (K k) (nu k) F i j x y))))] s.heap := by rw [e9]; exact hP
              rw [← hQf]
              exact k_vret hx hb hr hlocks hP hS d_Mo_pair_210
            · refine lv_goto (tgt := 204) hx hb d_Mo_pair_160 (by decide) ?_
              refine lv_aload_n hx hb d_Mo_pair_204 rfl (lv_at hl 2 rfl) ?_
              refine lv_iload_n hx hb d_Mo_pair_205 rfl (lv_at hl 4 rfl) ?_
              refine lv_iload_n hx hb d_Mo_pair_206 rfl (lv_at hl 5 rfl) ?_
              refine k_beV (va_runV (As := [.int (zI ↑i), .int (zI ↑j)]) (rest := []) ⟨hx, hb, hml, hown, hkw⟩ (c_Mo_comes l D cI cR cG w n np kn ch le sf st i j F (by omega) (by omega) hF _) (cwV 2 hkw (k_gV kw_methodLink_Mo_64 kw_instanceMethod_Mo_comes kw_selects_Mo_comes kw_initialized_Mo kw_code_Mo_comes) rfl rfl rfl (by decide +kernel) ⟨(Nat.le_of_ble_eq_true rfl), (Nat.le_of_ble_eq_true rfl)⟩) (k_preV (q0 := 0) hK hG hP hD [0, 3] rfl rfl rfl rfl) rfl rfl hl.1 rfl (lv_room (Nat.le_of_ble_eq_true rfl)) d_Mo_pair_207 ⟨Nat.zero_le _, Nat.zero_le _⟩) hP hD hS hA [0, 3] rfl (Eq.trans (b := [w 0, w 9]) rfl rfl) ?_
              clear hP hD hS; intro H locs hP hD hS
              replace hP : va_P D k_cl ([(w 0, .inr (4, [.ref (w 1), .int (zI ↑n), .ref (w 2), .ref (w 3), .ref (w 4), .ref (w 5), .int (zI ↑np), .ref (w 6), .ref (w 7), .int (zI ↑kn), .ref (w 8), .ref (w 9), .ref (w 10), .int (zI ↑ch), .int (zI le), .ref (w 11), .int (zI sf), .int (zI st), .ref (w 12)])), (w 2, .inl (cI, 30, .inl (kA K))), (w 5, .inl (cI, 30, .inl (kZ nu))), (w 9, .inl (cI, 30, .inl (kM (rAdd F i j))))]) H := hP
              replace hD : va_D A ([(w 0, .inr (4, [.ref (w 1), .int (zI ↑n), .ref (w 2), .ref (w 3), .ref (w 4), .ref (w 5), .int (zI ↑np), .ref (w 6), .ref (w 7), .int (zI ↑kn), .ref (w 8), .ref (w 9), .ref (w 10), .int (zI ↑ch), .int (zI le), .ref (w 11), .int (zI sf), .int (zI st), .ref (w 12)])), (w 2, .inl (cI, 30, .inl (kA K))), (w 5, .inl (cI, 30, .inl (kZ nu))), (w 9, .inl (cI, 30, .inl (kM (rAdd F i j))))]) := hD
              have e9 : mPair (K k) (nu k) F i j x y = rAdd F i j := by unfold mPair; (repeat' split); all_goals first | rfl | (exfalso; omega) | (congr 1 <;> omega)
              replace hP : va_P D k_cl [(w 0, .inr (4, [.ref (w 1), .int (zI ↑n), .ref (w 2), .ref (w 3), .ref (w 4), .ref (w 5), .int (zI ↑np), .ref (w 6), .ref (w 7), .int (zI ↑kn), .ref (w 8), .ref (w 9), .ref (w 10), .int (zI ↑ch), .int (zI le), .ref (w 11), .int (zI sf), .int (zI st), .ref (w 12)])), (w 2, .inl (cI, 30, .inl (kA K))), (w 5, .inl (cI, 30, .inl (kZ nu))), (w 9, .inl (cI, 30, .inl (kM (mPair (K k) (nu k) F i j x y))))] H := by rw [e9]; exact hP
              rw [← hQf]
              exact k_vret hx hb hr hlocks hP hS d_Mo_pair_210
      · refine lv_iload_n hx hb d_Mo_pair_91 rfl (lv_at hl 4 rfl) ?_
        refine lv_iload hx hb d_Mo_pair_92 (lv_at hl 6 rfl) ?_
        refine k_icmp_ge (tgt := 101) hx hb d_Mo_pair_94 (by decide) ⟨by omega, by omega⟩ ⟨by omega, by omega⟩ (fun c_94 => ?_) (fun c_94 => ?_)
        · refine lv_iload hx hb d_Mo_pair_101 (lv_at hl 6 rfl) ?_
          refine lv_istore (lv' := [(8, .int (zI ↑x)), (7, .int (zI (↑(K k)))), (6, .int (zI (nu k))), (0, .ref (w 0)), (1, .int (zI ↑k)), (2, .int (zI ↑i)), (3, .int (zI ↑j)), (4, .int (zI ↑x)), (5, .int (zI ↑y))]) hx hb d_Mo_pair_103 hl (by decide) rfl ?_
          clear hl; intro ls hl
          refine lv_iload_n hx hb d_Mo_pair_105 rfl (lv_at hl 6 rfl) ?_
          refine lv_iload hx hb d_Mo_pair_106 (lv_at hl 8 rfl) ?_
          refine k_icmp_le (tgt := 115) hx hb d_Mo_pair_108 (by decide) ⟨by omega, by omega⟩ ⟨by omega, by omega⟩ (fun c_108 => ?_) (fun c_108 => ?_)
          · refine lv_iload hx hb d_Mo_pair_115 (lv_at hl 8 rfl) ?_
            refine lv_istore (lv' := [(9, .int (zI ↑y)), (8, .int (zI ↑x)), (7, .int (zI (↑(K k)))), (6, .int (zI (nu k))), (0, .ref (w 0)), (1, .int (zI ↑k)), (2, .int (zI ↑i)), (3, .int (zI ↑j)), (4, .int (zI ↑x)), (5, .int (zI ↑y))]) hx hb d_Mo_pair_117 hl (by decide) rfl ?_
            clear hl; intro ls hl
            refine lv_iload hx hb d_Mo_pair_119 (lv_at hl 0 rfl) ?_
            refine lv_iload hx hb d_Mo_pair_121 (lv_at hl 1 rfl) ?_
            refine k_isub hx hb d_Mo_pair_123 rfl ?_
            refine lv_iconst (v := zI 1) hx hb d_Mo_pair_124 (by decide) ?_
            refine k_iadd hx hb d_Mo_pair_125 rfl ?_
            refine lv_iload hx hb d_Mo_pair_126 (lv_at hl 3 rfl) ?_
            refine k_icmp_gt (tgt := 139) hx hb d_Mo_pair_128 (by decide) ⟨by omega, by omega⟩ ⟨by omega, by omega⟩ (fun c_128 => ?_) (fun c_128 => ?_)
            · refine lv_goto (tgt := 210) hx hb d_Mo_pair_139 (by decide) ?_
              have e9 : mPair (K k) (nu k) F i j x y = F := by unfold mPair; (repeat' split); all_goals first | rfl | (exfalso; omega) | (congr 1 <;> omega)
              replace hP : va_P D k_cl [(w 0, .inr (4, [.ref (w 1), .int (zI ↑n), .ref (w 2), .ref (w 3), .ref (w 4), .ref (w 5), .int (zI ↑np), .ref (w 6), .ref (w 7), .int (zI ↑kn), .ref (w 8), .ref (w 9), .ref (w 10), .int (zI ↑ch), .int (zI le), .ref (w 11), .int (zI sf), .int (zI st), .ref (w 12)])), (w 2, .inl (cI, 30, .inl (kA K))), (w 5, .inl (cI, 30, .inl (kZ nu))), (w 9, .inl (cI, 30, .inl (kM (mPair (K k) (nu k) F i j x y))))] s.heap := by rw [e9]; exact hP
              rw [← hQf]
              exact k_vret hx hb hr hlocks hP hS d_Mo_pair_210
            · refine lv_aload_n hx hb d_Mo_pair_131 rfl (lv_at hl 4 rfl) ?_
              refine lv_iload hx hb d_Mo_pair_132 (lv_at hl 1 rfl) ?_
              refine lv_iload hx hb d_Mo_pair_134 (lv_at hl 0 rfl) ?_
              refine k_beV (va_runV (As := [.int (zI ↑x), .int (zI ↑y)]) (rest := []) ⟨hx, hb, hml, hown, hkw⟩ (c_Mo_comes l D cI cR cG w n np kn ch le sf st x y F (by omega) (by omega) hF _) (cwV 2 hkw (k_gV kw_methodLink_Mo_64 kw_instanceMethod_Mo_comes kw_selects_Mo_comes kw_initialized_Mo kw_code_Mo_comes) rfl rfl rfl (by decide +kernel) ⟨(Nat.le_of_ble_eq_true rfl), (Nat.le_of_ble_eq_true rfl)⟩) (k_preV (q0 := 0) hK hG hP hD [0, 3] rfl rfl rfl rfl) rfl rfl hl.1 rfl (lv_room (Nat.le_of_ble_eq_true rfl)) d_Mo_pair_136 ⟨Nat.zero_le _, Nat.zero_le _⟩) hP hD hS hA [0, 3] rfl (Eq.trans (b := [w 0, w 9]) rfl rfl) ?_
              clear hP hD hS; intro H locs hP hD hS
              replace hP : va_P D k_cl ([(w 0, .inr (4, [.ref (w 1), .int (zI ↑n), .ref (w 2), .ref (w 3), .ref (w 4), .ref (w 5), .int (zI ↑np), .ref (w 6), .ref (w 7), .int (zI ↑kn), .ref (w 8), .ref (w 9), .ref (w 10), .int (zI ↑ch), .int (zI le), .ref (w 11), .int (zI sf), .int (zI st), .ref (w 12)])), (w 2, .inl (cI, 30, .inl (kA K))), (w 5, .inl (cI, 30, .inl (kZ nu))), (w 9, .inl (cI, 30, .inl (kM (rAdd F x y))))]) H := hP
              replace hD : va_D A ([(w 0, .inr (4, [.ref (w 1), .int (zI ↑n), .ref (w 2), .ref (w 3), .ref (w 4), .ref (w 5), .int (zI ↑np), .ref (w 6), .ref (w 7), .int (zI ↑kn), .ref (w 8), .ref (w 9), .ref (w 10), .int (zI ↑ch), .int (zI le), .ref (w 11), .int (zI sf), .int (zI st), .ref (w 12)])), (w 2, .inl (cI, 30, .inl (kA K))), (w 5, .inl (cI, 30, .inl (kZ nu))), (w 9, .inl (cI, 30, .inl (kM (rAdd F x y))))]) := hD
              refine lv_goto (tgt := 210) hx hb d_Mo_pair_139 (by decide) ?_
              have e9 : mPair (K k) (nu k) F i j x y = rAdd F x y := by unfold mPair; (repeat' split); all_goals first | rfl | (exfalso; omega) | (congr 1 <;> omega)
              replace hP : va_P D k_cl [(w 0, .inr (4, [.ref (w 1), .int (zI ↑n), .ref (w 2), .ref (w 3), .ref (w 4), .ref (w 5), .int (zI ↑np), .ref (w 6), .ref (w 7), .int (zI ↑kn), .ref (w 8), .ref (w 9), .ref (w 10), .int (zI ↑ch), .int (zI le), .ref (w 11), .int (zI sf), .int (zI st), .ref (w 12)])), (w 2, .inl (cI, 30, .inl (kA K))), (w 5, .inl (cI, 30, .inl (kZ nu))), (w 9, .inl (cI, 30, .inl (kM (mPair (K k) (nu k) F i j x y))))] H := by rw [e9]; exact hP
              rw [← hQf]
              exact k_vret hx hb hr hlocks hP hS d_Mo_pair_210
          · refine lv_iload_n hx hb d_Mo_pair_111 rfl (lv_at hl 6 rfl) ?_
            refine lv_goto (tgt := 117) hx hb d_Mo_pair_112 (by decide) ?_
            refine lv_istore (lv' := [(9, .int (zI ↑j)), (8, .int (zI ↑x)), (7, .int (zI (↑(K k)))), (6, .int (zI (nu k))), (0, .ref (w 0)), (1, .int (zI ↑k)), (2, .int (zI ↑i)), (3, .int (zI ↑j)), (4, .int (zI ↑x)), (5, .int (zI ↑y))]) hx hb d_Mo_pair_117 hl (by decide) rfl ?_
            clear hl; intro ls hl
            refine lv_iload hx hb d_Mo_pair_119 (lv_at hl 0 rfl) ?_
            refine lv_iload hx hb d_Mo_pair_121 (lv_at hl 1 rfl) ?_
            refine k_isub hx hb d_Mo_pair_123 rfl ?_
            refine lv_iconst (v := zI 1) hx hb d_Mo_pair_124 (by decide) ?_
            refine k_iadd hx hb d_Mo_pair_125 rfl ?_
            refine lv_iload hx hb d_Mo_pair_126 (lv_at hl 3 rfl) ?_
            refine k_icmp_gt (tgt := 139) hx hb d_Mo_pair_128 (by decide) ⟨by omega, by omega⟩ ⟨by omega, by omega⟩ (fun c_128 => ?_) (fun c_128 => ?_)
            · refine lv_goto (tgt := 210) hx hb d_Mo_pair_139 (by decide) ?_
              have e9 : mPair (K k) (nu k) F i j x y = F := by unfold mPair; (repeat' split); all_goals first | rfl | (exfalso; omega) | (congr 1 <;> omega)
              replace hP : va_P D k_cl [(w 0, .inr (4, [.ref (w 1), .int (zI ↑n), .ref (w 2), .ref (w 3), .ref (w 4), .ref (w 5), .int (zI ↑np), .ref (w 6), .ref (w 7), .int (zI ↑kn), .ref (w 8), .ref (w 9), .ref (w 10), .int (zI ↑ch), .int (zI le), .ref (w 11), .int (zI sf), .int (zI st), .ref (w 12)])), (w 2, .inl (cI, 30, .inl (kA K))), (w 5, .inl (cI, 30, .inl (kZ nu))), (w 9, .inl (cI, 30, .inl (kM (mPair (K k) (nu k) F i j x y))))] s.heap := by rw [e9]; exact hP
              rw [← hQf]
              exact k_vret hx hb hr hlocks hP hS d_Mo_pair_210
            · refine lv_aload_n hx hb d_Mo_pair_131 rfl (lv_at hl 4 rfl) ?_
              refine lv_iload hx hb d_Mo_pair_132 (lv_at hl 1 rfl) ?_
              refine lv_iload hx hb d_Mo_pair_134 (lv_at hl 0 rfl) ?_
              refine k_beV (va_runV (As := [.int (zI ↑x), .int (zI ↑j)]) (rest := []) ⟨hx, hb, hml, hown, hkw⟩ (c_Mo_comes l D cI cR cG w n np kn ch le sf st x j F (by omega) (by omega) hF _) (cwV 2 hkw (k_gV kw_methodLink_Mo_64 kw_instanceMethod_Mo_comes kw_selects_Mo_comes kw_initialized_Mo kw_code_Mo_comes) rfl rfl rfl (by decide +kernel) ⟨(Nat.le_of_ble_eq_true rfl), (Nat.le_of_ble_eq_true rfl)⟩) (k_preV (q0 := 0) hK hG hP hD [0, 3] rfl rfl rfl rfl) rfl rfl hl.1 rfl (lv_room (Nat.le_of_ble_eq_true rfl)) d_Mo_pair_136 ⟨Nat.zero_le _, Nat.zero_le _⟩) hP hD hS hA [0, 3] rfl (Eq.trans (b := [w 0, w 9]) rfl rfl) ?_
              clear hP hD hS; intro H locs hP hD hS
              replace hP : va_P D k_cl ([(w 0, .inr (4, [.ref (w 1), .int (zI ↑n), .ref (w 2), .ref (w 3), .ref (w 4), .ref (w 5), .int (zI ↑np), .ref (w 6), .ref (w 7), .int (zI ↑kn), .ref (w 8), .ref (w 9), .ref (w 10), .int (zI ↑ch), .int (zI le), .ref (w 11), .int (zI sf), .int (zI st), .ref (w 12)])), (w 2, .inl (cI, 30, .inl (kA K))), (w 5, .inl (cI, 30, .inl (kZ nu))), (w 9, .inl (cI, 30, .inl (kM (rAdd F x j))))]) H := hP
              replace hD : va_D A ([(w 0, .inr (4, [.ref (w 1), .int (zI ↑n), .ref (w 2), .ref (w 3), .ref (w 4), .ref (w 5), .int (zI ↑np), .ref (w 6), .ref (w 7), .int (zI ↑kn), .ref (w 8), .ref (w 9), .ref (w 10), .int (zI ↑ch), .int (zI le), .ref (w 11), .int (zI sf), .int (zI st), .ref (w 12)])), (w 2, .inl (cI, 30, .inl (kA K))), (w 5, .inl (cI, 30, .inl (kZ nu))), (w 9, .inl (cI, 30, .inl (kM (rAdd F x j))))]) := hD
              refine lv_goto (tgt := 210) hx hb d_Mo_pair_139 (by decide) ?_
              have e9 : mPair (K k) (nu k) F i j x y = rAdd F x j := by unfold mPair; (repeat' split); all_goals first | rfl | (exfalso; omega) | (congr 1 <;> omega)
              replace hP : va_P D k_cl [(w 0, .inr (4, [.ref (w 1), .int (zI ↑n), .ref (w 2), .ref (w 3), .ref (w 4), .ref (w 5), .int (zI ↑np), .ref (w 6), .ref (w 7), .int (zI ↑kn), .ref (w 8), .ref (w 9), .ref (w 10), .int (zI ↑ch), .int (zI le), .ref (w 11), .int (zI sf), .int (zI st), .ref (w 12)])), (w 2, .inl (cI, 30, .inl (kA K))), (w 5, .inl (cI, 30, .inl (kZ nu))), (w 9, .inl (cI, 30, .inl (kM (mPair (K k) (nu k) F i j x y))))] H := by rw [e9]; exact hP
              rw [← hQf]
              exact k_vret hx hb hr hlocks hP hS d_Mo_pair_210
        · refine lv_iload_n hx hb d_Mo_pair_97 rfl (lv_at hl 4 rfl) ?_
          refine lv_goto (tgt := 103) hx hb d_Mo_pair_98 (by decide) ?_
          refine lv_istore (lv' := [(8, .int (zI ↑i)), (7, .int (zI (↑(K k)))), (6, .int (zI (nu k))), (0, .ref (w 0)), (1, .int (zI ↑k)), (2, .int (zI ↑i)), (3, .int (zI ↑j)), (4, .int (zI ↑x)), (5, .int (zI ↑y))]) hx hb d_Mo_pair_103 hl (by decide) rfl ?_
          clear hl; intro ls hl
          refine lv_iload_n hx hb d_Mo_pair_105 rfl (lv_at hl 6 rfl) ?_
          refine lv_iload hx hb d_Mo_pair_106 (lv_at hl 8 rfl) ?_
          refine k_icmp_le (tgt := 115) hx hb d_Mo_pair_108 (by decide) ⟨by omega, by omega⟩ ⟨by omega, by omega⟩ (fun c_108 => ?_) (fun c_108 => ?_)
          · refine lv_iload hx hb d_Mo_pair_115 (lv_at hl 8 rfl) ?_
            refine lv_istore (lv' := [(9, .int (zI ↑y)), (8, .int (zI ↑i)), (7, .int (zI (↑(K k)))), (6, .int (zI (nu k))), (0, .ref (w 0)), (1, .int (zI ↑k)), (2, .int (zI ↑i)), (3, .int (zI ↑j)), (4, .int (zI ↑x)), (5, .int (zI ↑y))]) hx hb d_Mo_pair_117 hl (by decide) rfl ?_
            clear hl; intro ls hl
            refine lv_iload hx hb d_Mo_pair_119 (lv_at hl 0 rfl) ?_
            refine lv_iload hx hb d_Mo_pair_121 (lv_at hl 1 rfl) ?_
            refine k_isub hx hb d_Mo_pair_123 rfl ?_
            refine lv_iconst (v := zI 1) hx hb d_Mo_pair_124 (by decide) ?_
            refine k_iadd hx hb d_Mo_pair_125 rfl ?_
            refine lv_iload hx hb d_Mo_pair_126 (lv_at hl 3 rfl) ?_
            refine k_icmp_gt (tgt := 139) hx hb d_Mo_pair_128 (by decide) ⟨by omega, by omega⟩ ⟨by omega, by omega⟩ (fun c_128 => ?_) (fun c_128 => ?_)
            · refine lv_goto (tgt := 210) hx hb d_Mo_pair_139 (by decide) ?_
              have e9 : mPair (K k) (nu k) F i j x y = F := by unfold mPair; (repeat' split); all_goals first | rfl | (exfalso; omega) | (congr 1 <;> omega)
              replace hP : va_P D k_cl [(w 0, .inr (4, [.ref (w 1), .int (zI ↑n), .ref (w 2), .ref (w 3), .ref (w 4), .ref (w 5), .int (zI ↑np), .ref (w 6), .ref (w 7), .int (zI ↑kn), .ref (w 8), .ref (w 9), .ref (w 10), .int (zI ↑ch), .int (zI le), .ref (w 11), .int (zI sf), .int (zI st), .ref (w 12)])), (w 2, .inl (cI, 30, .inl (kA K))), (w 5, .inl (cI, 30, .inl (kZ nu))), (w 9, .inl (cI, 30, .inl (kM (mPair (K k) (nu k) F i j x y))))] s.heap := by rw [e9]; exact hP
              rw [← hQf]
              exact k_vret hx hb hr hlocks hP hS d_Mo_pair_210
            · refine lv_aload_n hx hb d_Mo_pair_131 rfl (lv_at hl 4 rfl) ?_
              refine lv_iload hx hb d_Mo_pair_132 (lv_at hl 1 rfl) ?_
              refine lv_iload hx hb d_Mo_pair_134 (lv_at hl 0 rfl) ?_
              refine k_beV (va_runV (As := [.int (zI ↑i), .int (zI ↑y)]) (rest := []) ⟨hx, hb, hml, hown, hkw⟩ (c_Mo_comes l D cI cR cG w n np kn ch le sf st i y F (by omega) (by omega) hF _) (cwV 2 hkw (k_gV kw_methodLink_Mo_64 kw_instanceMethod_Mo_comes kw_selects_Mo_comes kw_initialized_Mo kw_code_Mo_comes) rfl rfl rfl (by decide +kernel) ⟨(Nat.le_of_ble_eq_true rfl), (Nat.le_of_ble_eq_true rfl)⟩) (k_preV (q0 := 0) hK hG hP hD [0, 3] rfl rfl rfl rfl) rfl rfl hl.1 rfl (lv_room (Nat.le_of_ble_eq_true rfl)) d_Mo_pair_136 ⟨Nat.zero_le _, Nat.zero_le _⟩) hP hD hS hA [0, 3] rfl (Eq.trans (b := [w 0, w 9]) rfl rfl) ?_
              clear hP hD hS; intro H locs hP hD hS
              replace hP : va_P D k_cl ([(w 0, .inr (4, [.ref (w 1), .int (zI ↑n), .ref (w 2), .ref (w 3), .ref (w 4), .ref (w 5), .int (zI ↑np), .ref (w 6), .ref (w 7), .int (zI ↑kn), .ref (w 8), .ref (w 9), .ref (w 10), .int (zI ↑ch), .int (zI le), .ref (w 11), .int (zI sf), .int (zI st), .ref (w 12)])), (w 2, .inl (cI, 30, .inl (kA K))), (w 5, .inl (cI, 30, .inl (kZ nu))), (w 9, .inl (cI, 30, .inl (kM (rAdd F i y))))]) H := hP
              replace hD : va_D A ([(w 0, .inr (4, [.ref (w 1), .int (zI ↑n), .ref (w 2), .ref (w 3), .ref (w 4), .ref (w 5), .int (zI ↑np), .ref (w 6), .ref (w 7), .int (zI ↑kn), .ref (w 8), .ref (w 9), .ref (w 10), .int (zI ↑ch), .int (zI le), .ref (w 11), .int (zI sf), .int (zI st), .ref (w 12)])), (w 2, .inl (cI, 30, .inl (kA K))), (w 5, .inl (cI, 30, .inl (kZ nu))), (w 9, .inl (cI, 30, .inl (kM (rAdd F i y))))]) := hD
              refine lv_goto (tgt := 210) hx hb d_Mo_pair_139 (by decide) ?_
              have e9 : mPair (K k) (nu k) F i j x y = rAdd F i y := by unfold mPair; (repeat' split); all_goals first | rfl | (exfalso; omega) | (congr 1 <;> omega)
              replace hP : va_P D k_cl [(w 0, .inr (4, [.ref (w 1), .int (zI ↑n), .ref (w 2), .ref (w 3), .ref (w 4), .ref (w 5), .int (zI ↑np), .ref (w 6), .ref (w 7), .int (zI ↑kn), .ref (w 8), .ref (w 9), .ref (w 10), .int (zI ↑ch), .int (zI le), .ref (w 11), .int (zI sf), .int (zI st), .ref (w 12)])), (w 2, .inl (cI, 30, .inl (kA K))), (w 5, .inl (cI, 30, .inl (kZ nu))), (w 9, .inl (cI, 30, .inl (kM (mPair (K k) (nu k) F i j x y))))] H := by rw [e9]; exact hP
              rw [← hQf]
              exact k_vret hx hb hr hlocks hP hS d_Mo_pair_210
          · refine lv_iload_n hx hb d_Mo_pair_111 rfl (lv_at hl 6 rfl) ?_
            refine lv_goto (tgt := 117) hx hb d_Mo_pair_112 (by decide) ?_
            refine lv_istore (lv' := [(9, .int (zI ↑j)), (8, .int (zI ↑i)), (7, .int (zI (↑(K k)))), (6, .int (zI (nu k))), (0, .ref (w 0)), (1, .int (zI ↑k)), (2, .int (zI ↑i)), (3, .int (zI ↑j)), (4, .int (zI ↑x)), (5, .int (zI ↑y))]) hx hb d_Mo_pair_117 hl (by decide) rfl ?_
            clear hl; intro ls hl
            refine lv_iload hx hb d_Mo_pair_119 (lv_at hl 0 rfl) ?_
            refine lv_iload hx hb d_Mo_pair_121 (lv_at hl 1 rfl) ?_
            refine k_isub hx hb d_Mo_pair_123 rfl ?_
            refine lv_iconst (v := zI 1) hx hb d_Mo_pair_124 (by decide) ?_
            refine k_iadd hx hb d_Mo_pair_125 rfl ?_
            refine lv_iload hx hb d_Mo_pair_126 (lv_at hl 3 rfl) ?_
            refine k_icmp_gt (tgt := 139) hx hb d_Mo_pair_128 (by decide) ⟨by omega, by omega⟩ ⟨by omega, by omega⟩ (fun c_128 => ?_) (fun c_128 => ?_)
            · refine lv_goto (tgt := 210) hx hb d_Mo_pair_139 (by decide) ?_
              have e9 : mPair (K k) (nu k) F i j x y = F := by unfold mPair; (repeat' split); all_goals first | rfl | (exfalso; omega) | (congr 1 <;> omega)
              replace hP : va_P D k_cl [(w 0, .inr (4, [.ref (w 1), .int (zI ↑n), .ref (w 2), .ref (w 3), .ref (w 4), .ref (w 5), .int (zI ↑np), .ref (w 6), .ref (w 7), .int (zI ↑kn), .ref (w 8), .ref (w 9), .ref (w 10), .int (zI ↑ch), .int (zI le), .ref (w 11), .int (zI sf), .int (zI st), .ref (w 12)])), (w 2, .inl (cI, 30, .inl (kA K))), (w 5, .inl (cI, 30, .inl (kZ nu))), (w 9, .inl (cI, 30, .inl (kM (mPair (K k) (nu k) F i j x y))))] s.heap := by rw [e9]; exact hP
              rw [← hQf]
              exact k_vret hx hb hr hlocks hP hS d_Mo_pair_210
            · refine lv_aload_n hx hb d_Mo_pair_131 rfl (lv_at hl 4 rfl) ?_
              refine lv_iload hx hb d_Mo_pair_132 (lv_at hl 1 rfl) ?_
              refine lv_iload hx hb d_Mo_pair_134 (lv_at hl 0 rfl) ?_
              refine k_beV (va_runV (As := [.int (zI ↑i), .int (zI ↑j)]) (rest := []) ⟨hx, hb, hml, hown, hkw⟩ (c_Mo_comes l D cI cR cG w n np kn ch le sf st i j F (by omega) (by omega) hF _) (cwV 2 hkw (k_gV kw_methodLink_Mo_64 kw_instanceMethod_Mo_comes kw_selects_Mo_comes kw_initialized_Mo kw_code_Mo_comes) rfl rfl rfl (by decide +kernel) ⟨(Nat.le_of_ble_eq_true rfl), (Nat.le_of_ble_eq_true rfl)⟩) (k_preV (q0 := 0) hK hG hP hD [0, 3] rfl rfl rfl rfl) rfl rfl hl.1 rfl (lv_room (Nat.le_of_ble_eq_true rfl)) d_Mo_pair_136 ⟨Nat.zero_le _, Nat.zero_le _⟩) hP hD hS hA [0, 3] rfl (Eq.trans (b := [w 0, w 9]) rfl rfl) ?_
              clear hP hD hS; intro H locs hP hD hS
              replace hP : va_P D k_cl ([(w 0, .inr (4, [.ref (w 1), .int (zI ↑n), .ref (w 2), .ref (w 3), .ref (w 4), .ref (w 5), .int (zI ↑np), .ref (w 6), .ref (w 7), .int (zI ↑kn), .ref (w 8), .ref (w 9), .ref (w 10), .int (zI ↑ch), .int (zI le), .ref (w 11), .int (zI sf), .int (zI st), .ref (w 12)])), (w 2, .inl (cI, 30, .inl (kA K))), (w 5, .inl (cI, 30, .inl (kZ nu))), (w 9, .inl (cI, 30, .inl (kM (rAdd F i j))))]) H := hP
              replace hD : va_D A ([(w 0, .inr (4, [.ref (w 1), .int (zI ↑n), .ref (w 2), .ref (w 3), .ref (w 4), .ref (w 5), .int (zI ↑np), .ref (w 6), .ref (w 7), .int (zI ↑kn), .ref (w 8), .ref (w 9), .ref (w 10), .int (zI ↑ch), .int (zI le), .ref (w 11), .int (zI sf), .int (zI st), .ref (w 12)])), (w 2, .inl (cI, 30, .inl (kA K))), (w 5, .inl (cI, 30, .inl (kZ nu))), (w 9, .inl (cI, 30, .inl (kM (rAdd F i j))))]) := hD
              refine lv_goto (tgt := 210) hx hb d_Mo_pair_139 (by decide) ?_
              have e9 : mPair (K k) (nu k) F i j x y = rAdd F i j := by unfold mPair; (repeat' split); all_goals first | rfl | (exfalso; omega) | (congr 1 <;> omega)
              replace hP : va_P D k_cl [(w 0, .inr (4, [.ref (w 1), .int (zI ↑n), .ref (w 2), .ref (w 3), .ref (w 4), .ref (w 5), .int (zI ↑np), .ref (w 6), .ref (w 7), .int (zI ↑kn), .ref (w 8), .ref (w 9), .ref (w 10), .int (zI ↑ch), .int (zI le), .ref (w 11), .int (zI sf), .int (zI st), .ref (w 12)])), (w 2, .inl (cI, 30, .inl (kA K))), (w 5, .inl (cI, 30, .inl (kZ nu))), (w 9, .inl (cI, 30, .inl (kM (mPair (K k) (nu k) F i j x y))))] H := by rw [e9]; exact hP
              rw [← hQf]
              exact k_vret hx hb hr hlocks hP hS d_Mo_pair_210
    · refine lv_iload hx hb d_Mo_pair_28 (lv_at hl 6 rfl) ?_
      refine lv_iload_n hx hb d_Mo_pair_30 rfl (lv_at hl 5 rfl) ?_
      refine k_icmp_le (tgt := 52) hx hb d_Mo_pair_31 (by decide) ⟨by omega, by omega⟩ ⟨by omega, by omega⟩ (fun c_31 => ?_) (fun c_31 => ?_)
      · refine lv_iload hx hb d_Mo_pair_52 (lv_at hl 0 rfl) ?_
        refine lv_iconst (v := zI 3) hx hb d_Mo_pair_54 (by decide) ?_
        refine k_icmp_ne (tgt := 210) hx hb d_Mo_pair_55 (by decide) ⟨by omega, by omega⟩ ⟨by omega, by omega⟩ (fun c_55 => ?_) (fun c_55 => ?_)
        · have e9 : mPair (K k) (nu k) F i j x y = F := by unfold mPair; (repeat' split); all_goals first | rfl | (exfalso; omega) | (congr 1 <;> omega)
          replace hP : va_P D k_cl [(w 0, .inr (4, [.ref (w 1), .int (zI ↑n), .ref (w 2), .ref (w 3), .ref (w 4), .ref (w 5), .int (zI ↑np), .ref (w 6), .ref (w 7), .int (zI ↑kn), .ref (w 8), .ref (w 9), .ref (w 10), .int (zI ↑ch), .int (zI le), .ref (w 11), .int (zI sf), .int (zI st), .ref (w 12)])), (w 2, .inl (cI, 30, .inl (kA K))), (w 5, .inl (cI, 30, .inl (kZ nu))), (w 9, .inl (cI, 30, .inl (kM (mPair (K k) (nu k) F i j x y))))] s.heap := by rw [e9]; exact hP
          rw [← hQf]
          exact k_vret hx hb hr hlocks hP hS d_Mo_pair_210
        · refine lv_iload_n hx hb d_Mo_pair_58 rfl (lv_at hl 4 rfl) ?_
          refine lv_iload hx hb d_Mo_pair_59 (lv_at hl 7 rfl) ?_
          refine k_icmp_le (tgt := 210) hx hb d_Mo_pair_61 (by decide) ⟨by omega, by omega⟩ ⟨by omega, by omega⟩ (fun c_61 => ?_) (fun c_61 => ?_)
          · have e9 : mPair (K k) (nu k) F i j x y = F := by unfold mPair; (repeat' split); all_goals first | rfl | (exfalso; omega) | (congr 1 <;> omega)
            replace hP : va_P D k_cl [(w 0, .inr (4, [.ref (w 1), .int (zI ↑n), .ref (w 2), .ref (w 3), .ref (w 4), .ref (w 5), .int (zI ↑np), .ref (w 6), .ref (w 7), .int (zI ↑kn), .ref (w 8), .ref (w 9), .ref (w 10), .int (zI ↑ch), .int (zI le), .ref (w 11), .int (zI sf), .int (zI st), .ref (w 12)])), (w 2, .inl (cI, 30, .inl (kA K))), (w 5, .inl (cI, 30, .inl (kZ nu))), (w 9, .inl (cI, 30, .inl (kM (mPair (K k) (nu k) F i j x y))))] s.heap := by rw [e9]; exact hP
            rw [← hQf]
            exact k_vret hx hb hr hlocks hP hS d_Mo_pair_210
          · refine lv_iload_n hx hb d_Mo_pair_64 rfl (lv_at hl 4 rfl) ?_
            refine lv_iload hx hb d_Mo_pair_65 (lv_at hl 7 rfl) ?_
            refine k_isub hx hb d_Mo_pair_67 rfl ?_
            refine lv_iconst (v := zI 1) hx hb d_Mo_pair_68 (by decide) ?_
            refine k_isub hx hb d_Mo_pair_69 rfl ?_
            refine lv_iload hx hb d_Mo_pair_70 (lv_at hl 1 rfl) ?_
            refine k_icmp_gt (tgt := 210) hx hb d_Mo_pair_72 (by decide) ⟨by omega, by omega⟩ ⟨by omega, by omega⟩ (fun c_72 => ?_) (fun c_72 => ?_)
            · have e9 : mPair (K k) (nu k) F i j x y = F := by unfold mPair; (repeat' split); all_goals first | rfl | (exfalso; omega) | (congr 1 <;> omega)
              replace hP : va_P D k_cl [(w 0, .inr (4, [.ref (w 1), .int (zI ↑n), .ref (w 2), .ref (w 3), .ref (w 4), .ref (w 5), .int (zI ↑np), .ref (w 6), .ref (w 7), .int (zI ↑kn), .ref (w 8), .ref (w 9), .ref (w 10), .int (zI ↑ch), .int (zI le), .ref (w 11), .int (zI sf), .int (zI st), .ref (w 12)])), (w 2, .inl (cI, 30, .inl (kA K))), (w 5, .inl (cI, 30, .inl (kZ nu))), (w 9, .inl (cI, 30, .inl (kM (mPair (K k) (nu k) F i j x y))))] s.heap := by rw [e9]; exact hP
              rw [← hQf]
              exact k_vret hx hb hr hlocks hP hS d_Mo_pair_210
            · refine lv_aload_n hx hb d_Mo_pair_75 rfl (lv_at hl 2 rfl) ?_
              refine lv_iload hx hb d_Mo_pair_76 (lv_at hl 6 rfl) ?_
              refine lv_iload_n hx hb d_Mo_pair_78 rfl (lv_at hl 5 rfl) ?_
              refine k_beV (va_runV (As := [.int (zI ↑x), .int (zI ↑j)]) (rest := []) ⟨hx, hb, hml, hown, hkw⟩ (c_Mo_comes l D cI cR cG w n np kn ch le sf st x j F (by omega) (by omega) hF _) (cwV 2 hkw (k_gV kw_methodLink_Mo_64 kw_instanceMethod_Mo_comes kw_selects_Mo_comes kw_initialized_Mo kw_code_Mo_comes) rfl rfl rfl (by decide +kernel) ⟨(Nat.le_of_ble_eq_true rfl), (Nat.le_of_ble_eq_true rfl)⟩) (k_preV (q0 := 0) hK hG hP hD [0, 3] rfl rfl rfl rfl) rfl rfl hl.1 rfl (lv_room (Nat.le_of_ble_eq_true rfl)) d_Mo_pair_79 ⟨Nat.zero_le _, Nat.zero_le _⟩) hP hD hS hA [0, 3] rfl (Eq.trans (b := [w 0, w 9]) rfl rfl) ?_
              clear hP hD hS; intro H locs hP hD hS
              replace hP : va_P D k_cl ([(w 0, .inr (4, [.ref (w 1), .int (zI ↑n), .ref (w 2), .ref (w 3), .ref (w 4), .ref (w 5), .int (zI ↑np), .ref (w 6), .ref (w 7), .int (zI ↑kn), .ref (w 8), .ref (w 9), .ref (w 10), .int (zI ↑ch), .int (zI le), .ref (w 11), .int (zI sf), .int (zI st), .ref (w 12)])), (w 2, .inl (cI, 30, .inl (kA K))), (w 5, .inl (cI, 30, .inl (kZ nu))), (w 9, .inl (cI, 30, .inl (kM (rAdd F x j))))]) H := hP
              replace hD : va_D A ([(w 0, .inr (4, [.ref (w 1), .int (zI ↑n), .ref (w 2), .ref (w 3), .ref (w 4), .ref (w 5), .int (zI ↑np), .ref (w 6), .ref (w 7), .int (zI ↑kn), .ref (w 8), .ref (w 9), .ref (w 10), .int (zI ↑ch), .int (zI le), .ref (w 11), .int (zI sf), .int (zI st), .ref (w 12)])), (w 2, .inl (cI, 30, .inl (kA K))), (w 5, .inl (cI, 30, .inl (kZ nu))), (w 9, .inl (cI, 30, .inl (kM (rAdd F x j))))]) := hD
              refine lv_goto (tgt := 210) hx hb d_Mo_pair_82 (by decide) ?_
              have e9 : mPair (K k) (nu k) F i j x y = rAdd F x j := by unfold mPair; (repeat' split); all_goals first | rfl | (exfalso; omega) | (congr 1 <;> omega)
              replace hP : va_P D k_cl [(w 0, .inr (4, [.ref (w 1), .int (zI ↑n), .ref (w 2), .ref (w 3), .ref (w 4), .ref (w 5), .int (zI ↑np), .ref (w 6), .ref (w 7), .int (zI ↑kn), .ref (w 8), .ref (w 9), .ref (w 10), .int (zI ↑ch), .int (zI le), .ref (w 11), .int (zI sf), .int (zI st), .ref (w 12)])), (w 2, .inl (cI, 30, .inl (kA K))), (w 5, .inl (cI, 30, .inl (kZ nu))), (w 9, .inl (cI, 30, .inl (kM (mPair (K k) (nu k) F i j x y))))] H := by rw [e9]; exact hP
              rw [← hQf]
              exact k_vret hx hb hr hlocks hP hS d_Mo_pair_210
      · refine lv_iload hx hb d_Mo_pair_34 (lv_at hl 6 rfl) ?_
        refine lv_iload_n hx hb d_Mo_pair_36 rfl (lv_at hl 5 rfl) ?_
        refine k_isub hx hb d_Mo_pair_37 rfl ?_
        refine lv_iconst (v := zI 1) hx hb d_Mo_pair_38 (by decide) ?_
        refine k_isub hx hb d_Mo_pair_39 rfl ?_
        refine lv_iload hx hb d_Mo_pair_40 (lv_at hl 1 rfl) ?_
        refine k_icmp_gt (tgt := 52) hx hb d_Mo_pair_42 (by decide) ⟨by omega, by omega⟩ ⟨by omega, by omega⟩ (fun c_42 => ?_) (fun c_42 => ?_)
        · refine lv_iload hx hb d_Mo_pair_52 (lv_at hl 0 rfl) ?_
          refine lv_iconst (v := zI 3) hx hb d_Mo_pair_54 (by decide) ?_
          refine k_icmp_ne (tgt := 210) hx hb d_Mo_pair_55 (by decide) ⟨by omega, by omega⟩ ⟨by omega, by omega⟩ (fun c_55 => ?_) (fun c_55 => ?_)
          · have e9 : mPair (K k) (nu k) F i j x y = F := by unfold mPair; (repeat' split); all_goals first | rfl | (exfalso; omega) | (congr 1 <;> omega)
            replace hP : va_P D k_cl [(w 0, .inr (4, [.ref (w 1), .int (zI ↑n), .ref (w 2), .ref (w 3), .ref (w 4), .ref (w 5), .int (zI ↑np), .ref (w 6), .ref (w 7), .int (zI ↑kn), .ref (w 8), .ref (w 9), .ref (w 10), .int (zI ↑ch), .int (zI le), .ref (w 11), .int (zI sf), .int (zI st), .ref (w 12)])), (w 2, .inl (cI, 30, .inl (kA K))), (w 5, .inl (cI, 30, .inl (kZ nu))), (w 9, .inl (cI, 30, .inl (kM (mPair (K k) (nu k) F i j x y))))] s.heap := by rw [e9]; exact hP
            rw [← hQf]
            exact k_vret hx hb hr hlocks hP hS d_Mo_pair_210
          · refine lv_iload_n hx hb d_Mo_pair_58 rfl (lv_at hl 4 rfl) ?_
            refine lv_iload hx hb d_Mo_pair_59 (lv_at hl 7 rfl) ?_
            refine k_icmp_le (tgt := 210) hx hb d_Mo_pair_61 (by decide) ⟨by omega, by omega⟩ ⟨by omega, by omega⟩ (fun c_61 => ?_) (fun c_61 => ?_)
            · have e9 : mPair (K k) (nu k) F i j x y = F := by unfold mPair; (repeat' split); all_goals first | rfl | (exfalso; omega) | (congr 1 <;> omega)
              replace hP : va_P D k_cl [(w 0, .inr (4, [.ref (w 1), .int (zI ↑n), .ref (w 2), .ref (w 3), .ref (w 4), .ref (w 5), .int (zI ↑np), .ref (w 6), .ref (w 7), .int (zI ↑kn), .ref (w 8), .ref (w 9), .ref (w 10), .int (zI ↑ch), .int (zI le), .ref (w 11), .int (zI sf), .int (zI st), .ref (w 12)])), (w 2, .inl (cI, 30, .inl (kA K))), (w 5, .inl (cI, 30, .inl (kZ nu))), (w 9, .inl (cI, 30, .inl (kM (mPair (K k) (nu k) F i j x y))))] s.heap := by rw [e9]; exact hP
              rw [← hQf]
              exact k_vret hx hb hr hlocks hP hS d_Mo_pair_210
            · refine lv_iload_n hx hb d_Mo_pair_64 rfl (lv_at hl 4 rfl) ?_
              refine lv_iload hx hb d_Mo_pair_65 (lv_at hl 7 rfl) ?_
              refine k_isub hx hb d_Mo_pair_67 rfl ?_
              refine lv_iconst (v := zI 1) hx hb d_Mo_pair_68 (by decide) ?_
              refine k_isub hx hb d_Mo_pair_69 rfl ?_
              refine lv_iload hx hb d_Mo_pair_70 (lv_at hl 1 rfl) ?_
              refine k_icmp_gt (tgt := 210) hx hb d_Mo_pair_72 (by decide) ⟨by omega, by omega⟩ ⟨by omega, by omega⟩ (fun c_72 => ?_) (fun c_72 => ?_)
              · have e9 : mPair (K k) (nu k) F i j x y = F := by unfold mPair; (repeat' split); all_goals first | rfl | (exfalso; omega) | (congr 1 <;> omega)
                replace hP : va_P D k_cl [(w 0, .inr (4, [.ref (w 1), .int (zI ↑n), .ref (w 2), .ref (w 3), .ref (w 4), .ref (w 5), .int (zI ↑np), .ref (w 6), .ref (w 7), .int (zI ↑kn), .ref (w 8), .ref (w 9), .ref (w 10), .int (zI ↑ch), .int (zI le), .ref (w 11), .int (zI sf), .int (zI st), .ref (w 12)])), (w 2, .inl (cI, 30, .inl (kA K))), (w 5, .inl (cI, 30, .inl (kZ nu))), (w 9, .inl (cI, 30, .inl (kM (mPair (K k) (nu k) F i j x y))))] s.heap := by rw [e9]; exact hP
                rw [← hQf]
                exact k_vret hx hb hr hlocks hP hS d_Mo_pair_210
              · refine lv_aload_n hx hb d_Mo_pair_75 rfl (lv_at hl 2 rfl) ?_
                refine lv_iload hx hb d_Mo_pair_76 (lv_at hl 6 rfl) ?_
                refine lv_iload_n hx hb d_Mo_pair_78 rfl (lv_at hl 5 rfl) ?_
                refine k_beV (va_runV (As := [.int (zI ↑x), .int (zI ↑j)]) (rest := []) ⟨hx, hb, hml, hown, hkw⟩ (c_Mo_comes l D cI cR cG w n np kn ch le sf st x j F (by omega) (by omega) hF _) (cwV 2 hkw (k_gV kw_methodLink_Mo_64 kw_instanceMethod_Mo_comes kw_selects_Mo_comes kw_initialized_Mo kw_code_Mo_comes) rfl rfl rfl (by decide +kernel) ⟨(Nat.le_of_ble_eq_true rfl), (Nat.le_of_ble_eq_true rfl)⟩) (k_preV (q0 := 0) hK hG hP hD [0, 3] rfl rfl rfl rfl) rfl rfl hl.1 rfl (lv_room (Nat.le_of_ble_eq_true rfl)) d_Mo_pair_79 ⟨Nat.zero_le _, Nat.zero_le _⟩) hP hD hS hA [0, 3] rfl (Eq.trans (b := [w 0, w 9]) rfl rfl) ?_
                clear hP hD hS; intro H locs hP hD hS
                replace hP : va_P D k_cl ([(w 0, .inr (4, [.ref (w 1), .int (zI ↑n), .ref (w 2), .ref (w 3), .ref (w 4), .ref (w 5), .int (zI ↑np), .ref (w 6), .ref (w 7), .int (zI ↑kn), .ref (w 8), .ref (w 9), .ref (w 10), .int (zI ↑ch), .int (zI le), .ref (w 11), .int (zI sf), .int (zI st), .ref (w 12)])), (w 2, .inl (cI, 30, .inl (kA K))), (w 5, .inl (cI, 30, .inl (kZ nu))), (w 9, .inl (cI, 30, .inl (kM (rAdd F x j))))]) H := hP
                replace hD : va_D A ([(w 0, .inr (4, [.ref (w 1), .int (zI ↑n), .ref (w 2), .ref (w 3), .ref (w 4), .ref (w 5), .int (zI ↑np), .ref (w 6), .ref (w 7), .int (zI ↑kn), .ref (w 8), .ref (w 9), .ref (w 10), .int (zI ↑ch), .int (zI le), .ref (w 11), .int (zI sf), .int (zI st), .ref (w 12)])), (w 2, .inl (cI, 30, .inl (kA K))), (w 5, .inl (cI, 30, .inl (kZ nu))), (w 9, .inl (cI, 30, .inl (kM (rAdd F x j))))]) := hD
                refine lv_goto (tgt := 210) hx hb d_Mo_pair_82 (by decide) ?_
                have e9 : mPair (K k) (nu k) F i j x y = rAdd F x j := by unfold mPair; (repeat' split); all_goals first | rfl | (exfalso; omega) | (congr 1 <;> omega)
                replace hP : va_P D k_cl [(w 0, .inr (4, [.ref (w 1), .int (zI ↑n), .ref (w 2), .ref (w 3), .ref (w 4), .ref (w 5), .int (zI ↑np), .ref (w 6), .ref (w 7), .int (zI ↑kn), .ref (w 8), .ref (w 9), .ref (w 10), .int (zI ↑ch), .int (zI le), .ref (w 11), .int (zI sf), .int (zI st), .ref (w 12)])), (w 2, .inl (cI, 30, .inl (kA K))), (w 5, .inl (cI, 30, .inl (kZ nu))), (w 9, .inl (cI, 30, .inl (kM (mPair (K k) (nu k) F i j x y))))] H := by rw [e9]; exact hP
                rw [← hQf]
                exact k_vret hx hb hr hlocks hP hS d_Mo_pair_210
        · refine lv_aload_n hx hb d_Mo_pair_45 rfl (lv_at hl 2 rfl) ?_
          refine lv_iload_n hx hb d_Mo_pair_46 rfl (lv_at hl 4 rfl) ?_
          refine lv_iload hx hb d_Mo_pair_47 (lv_at hl 7 rfl) ?_
          refine k_beV (va_runV (As := [.int (zI ↑i), .int (zI ↑y)]) (rest := []) ⟨hx, hb, hml, hown, hkw⟩ (c_Mo_comes l D cI cR cG w n np kn ch le sf st i y F (by omega) (by omega) hF _) (cwV 2 hkw (k_gV kw_methodLink_Mo_64 kw_instanceMethod_Mo_comes kw_selects_Mo_comes kw_initialized_Mo kw_code_Mo_comes) rfl rfl rfl (by decide +kernel) ⟨(Nat.le_of_ble_eq_true rfl), (Nat.le_of_ble_eq_true rfl)⟩) (k_preV (q0 := 0) hK hG hP hD [0, 3] rfl rfl rfl rfl) rfl rfl hl.1 rfl (lv_room (Nat.le_of_ble_eq_true rfl)) d_Mo_pair_49 ⟨Nat.zero_le _, Nat.zero_le _⟩) hP hD hS hA [0, 3] rfl (Eq.trans (b := [w 0, w 9]) rfl rfl) ?_
          clear hP hD hS; intro H locs hP hD hS
          replace hP : va_P D k_cl ([(w 0, .inr (4, [.ref (w 1), .int (zI ↑n), .ref (w 2), .ref (w 3), .ref (w 4), .ref (w 5), .int (zI ↑np), .ref (w 6), .ref (w 7), .int (zI ↑kn), .ref (w 8), .ref (w 9), .ref (w 10), .int (zI ↑ch), .int (zI le), .ref (w 11), .int (zI sf), .int (zI st), .ref (w 12)])), (w 2, .inl (cI, 30, .inl (kA K))), (w 5, .inl (cI, 30, .inl (kZ nu))), (w 9, .inl (cI, 30, .inl (kM (rAdd F i y))))]) H := hP
          replace hD : va_D A ([(w 0, .inr (4, [.ref (w 1), .int (zI ↑n), .ref (w 2), .ref (w 3), .ref (w 4), .ref (w 5), .int (zI ↑np), .ref (w 6), .ref (w 7), .int (zI ↑kn), .ref (w 8), .ref (w 9), .ref (w 10), .int (zI ↑ch), .int (zI le), .ref (w 11), .int (zI sf), .int (zI st), .ref (w 12)])), (w 2, .inl (cI, 30, .inl (kA K))), (w 5, .inl (cI, 30, .inl (kZ nu))), (w 9, .inl (cI, 30, .inl (kM (rAdd F i y))))]) := hD
          refine lv_iload hx hb d_Mo_pair_52 (lv_at hl 0 rfl) ?_
          refine lv_iconst (v := zI 3) hx hb d_Mo_pair_54 (by decide) ?_
          refine k_icmp_ne (tgt := 210) hx hb d_Mo_pair_55 (by decide) ⟨by omega, by omega⟩ ⟨by omega, by omega⟩ (fun c_55 => ?_) (fun c_55 => ?_)
          · have e9 : mPair (K k) (nu k) F i j x y = rAdd F i y := by unfold mPair; (repeat' split); all_goals first | rfl | (exfalso; omega) | (congr 1 <;> omega)
            replace hP : va_P D k_cl [(w 0, .inr (4, [.ref (w 1), .int (zI ↑n), .ref (w 2), .ref (w 3), .ref (w 4), .ref (w 5), .int (zI ↑np), .ref (w 6), .ref (w 7), .int (zI ↑kn), .ref (w 8), .ref (w 9), .ref (w 10), .int (zI ↑ch), .int (zI le), .ref (w 11), .int (zI sf), .int (zI st), .ref (w 12)])), (w 2, .inl (cI, 30, .inl (kA K))), (w 5, .inl (cI, 30, .inl (kZ nu))), (w 9, .inl (cI, 30, .inl (kM (mPair (K k) (nu k) F i j x y))))] H := by rw [e9]; exact hP
            rw [← hQf]
            exact k_vret hx hb hr hlocks hP hS d_Mo_pair_210
          · refine lv_iload_n hx hb d_Mo_pair_58 rfl (lv_at hl 4 rfl) ?_
            refine lv_iload hx hb d_Mo_pair_59 (lv_at hl 7 rfl) ?_
            refine k_icmp_le (tgt := 210) hx hb d_Mo_pair_61 (by decide) ⟨by omega, by omega⟩ ⟨by omega, by omega⟩ (fun c_61 => ?_) (fun c_61 => ?_)
            · have e9 : mPair (K k) (nu k) F i j x y = rAdd F i y := by unfold mPair; (repeat' split); all_goals first | rfl | (exfalso; omega) | (congr 1 <;> omega)
              replace hP : va_P D k_cl [(w 0, .inr (4, [.ref (w 1), .int (zI ↑n), .ref (w 2), .ref (w 3), .ref (w 4), .ref (w 5), .int (zI ↑np), .ref (w 6), .ref (w 7), .int (zI ↑kn), .ref (w 8), .ref (w 9), .ref (w 10), .int (zI ↑ch), .int (zI le), .ref (w 11), .int (zI sf), .int (zI st), .ref (w 12)])), (w 2, .inl (cI, 30, .inl (kA K))), (w 5, .inl (cI, 30, .inl (kZ nu))), (w 9, .inl (cI, 30, .inl (kM (mPair (K k) (nu k) F i j x y))))] H := by rw [e9]; exact hP
              rw [← hQf]
              exact k_vret hx hb hr hlocks hP hS d_Mo_pair_210
            · refine lv_iload_n hx hb d_Mo_pair_64 rfl (lv_at hl 4 rfl) ?_
              refine lv_iload hx hb d_Mo_pair_65 (lv_at hl 7 rfl) ?_
              refine k_isub hx hb d_Mo_pair_67 rfl ?_
              refine lv_iconst (v := zI 1) hx hb d_Mo_pair_68 (by decide) ?_
              refine k_isub hx hb d_Mo_pair_69 rfl ?_
              refine lv_iload hx hb d_Mo_pair_70 (lv_at hl 1 rfl) ?_
              refine k_icmp_gt (tgt := 210) hx hb d_Mo_pair_72 (by decide) ⟨by omega, by omega⟩ ⟨by omega, by omega⟩ (fun c_72 => ?_) (fun c_72 => ?_)
              · have e9 : mPair (K k) (nu k) F i j x y = rAdd F i y := by unfold mPair; (repeat' split); all_goals first | rfl | (exfalso; omega) | (congr 1 <;> omega)
                replace hP : va_P D k_cl [(w 0, .inr (4, [.ref (w 1), .int (zI ↑n), .ref (w 2), .ref (w 3), .ref (w 4), .ref (w 5), .int (zI ↑np), .ref (w 6), .ref (w 7), .int (zI ↑kn), .ref (w 8), .ref (w 9), .ref (w 10), .int (zI ↑ch), .int (zI le), .ref (w 11), .int (zI sf), .int (zI st), .ref (w 12)])), (w 2, .inl (cI, 30, .inl (kA K))), (w 5, .inl (cI, 30, .inl (kZ nu))), (w 9, .inl (cI, 30, .inl (kM (mPair (K k) (nu k) F i j x y))))] H := by rw [e9]; exact hP
                rw [← hQf]
                exact k_vret hx hb hr hlocks hP hS d_Mo_pair_210
              · refine lv_aload_n hx hb d_Mo_pair_75 rfl (lv_at hl 2 rfl) ?_
                refine lv_iload hx hb d_Mo_pair_76 (lv_at hl 6 rfl) ?_
                refine lv_iload_n hx hb d_Mo_pair_78 rfl (lv_at hl 5 rfl) ?_
                refine k_beV (va_runV (As := [.int (zI ↑x), .int (zI ↑j)]) (rest := []) ⟨hx, hb, hml, hown, hkw⟩ (c_Mo_comes l D cI cR cG w n np kn ch le sf st x j (rAdd F i y) (by omega) (by omega) (rAdd_le hF (by omega)) _) (cwV 2 hkw (k_gV kw_methodLink_Mo_64 kw_instanceMethod_Mo_comes kw_selects_Mo_comes kw_initialized_Mo kw_code_Mo_comes) rfl rfl rfl (by decide +kernel) ⟨(Nat.le_of_ble_eq_true rfl), (Nat.le_of_ble_eq_true rfl)⟩) (k_preV (q0 := 0) hK hG hP hD [0, 3] rfl rfl rfl rfl) rfl rfl hl.1 rfl (lv_room (Nat.le_of_ble_eq_true rfl)) d_Mo_pair_79 ⟨Nat.zero_le _, Nat.zero_le _⟩) hP hD hS hA [0, 3] rfl (Eq.trans (b := [w 0, w 9]) rfl rfl) ?_
                clear hP hD hS; intro H locs hP hD hS
                replace hP : va_P D k_cl ([(w 0, .inr (4, [.ref (w 1), .int (zI ↑n), .ref (w 2), .ref (w 3), .ref (w 4), .ref (w 5), .int (zI ↑np), .ref (w 6), .ref (w 7), .int (zI ↑kn), .ref (w 8), .ref (w 9), .ref (w 10), .int (zI ↑ch), .int (zI le), .ref (w 11), .int (zI sf), .int (zI st), .ref (w 12)])), (w 2, .inl (cI, 30, .inl (kA K))), (w 5, .inl (cI, 30, .inl (kZ nu))), (w 9, .inl (cI, 30, .inl (kM (rAdd (rAdd F i y) x j))))]) H := hP
                replace hD : va_D A ([(w 0, .inr (4, [.ref (w 1), .int (zI ↑n), .ref (w 2), .ref (w 3), .ref (w 4), .ref (w 5), .int (zI ↑np), .ref (w 6), .ref (w 7), .int (zI ↑kn), .ref (w 8), .ref (w 9), .ref (w 10), .int (zI ↑ch), .int (zI le), .ref (w 11), .int (zI sf), .int (zI st), .ref (w 12)])), (w 2, .inl (cI, 30, .inl (kA K))), (w 5, .inl (cI, 30, .inl (kZ nu))), (w 9, .inl (cI, 30, .inl (kM (rAdd (rAdd F i y) x j))))]) := hD
                refine lv_goto (tgt := 210) hx hb d_Mo_pair_82 (by decide) ?_
                have e9 : mPair (K k) (nu k) F i j x y = rAdd (rAdd F i y) x j := by unfold mPair; (repeat' split); all_goals first | rfl | (exfalso; omega) | (congr 1 <;> omega)
                replace hP : va_P D k_cl [(w 0, .inr (4, [.ref (w 1), .int (zI ↑n), .ref (w 2), .ref (w 3), .ref (w 4), .ref (w 5), .int (zI ↑np), .ref (w 6), .ref (w 7), .int (zI ↑kn), .ref (w 8), .ref (w 9), .ref (w 10), .int (zI ↑ch), .int (zI le), .ref (w 11), .int (zI sf), .int (zI st), .ref (w 12)])), (w 2, .inl (cI, 30, .inl (kA K))), (w 5, .inl (cI, 30, .inl (kZ nu))), (w 9, .inl (cI, 30, .inl (kM (mPair (K k) (nu k) F i j x y))))] H := by rw [e9]; exact hP
                rw [← hQf]
                exact k_vret hx hb hr hlocks hP hS d_Mo_pair_210

abbrev rm_Mo_isFar : Room := { frames := 1, cells := 0, slots := 0, locals := 23 }
set_option maxHeartbeats 4000000 in
set_option maxRecDepth 100000 in
theorem c_Mo_isFar (l : Launch) (D : va_G) (cI cR cG : ClassId) (w : Nat → Nat) (n np kn ch : Nat) (le sf st : Int) (k i j o : Nat) (ot nu : Nat → Int) (G : Nat → Nat) (hk : k < 30) (hi : i < 30) (hj : j < 30) (ho : ot k = ↑o ∧ o < 30) (hnu : ∀ u, k_sm (nu u)) (hG0 : ∀ u, G u ≤ 30) : k_M l y_Mo_isFar (.code y_Mo_isFar b_Mo_isFar 8 (some .boolean) :: kW) rm_Mo_isFar D k_cl (k_ty cI cR cG) [.ref (w 0), .int (zI ↑k), .int (zI ↑i), .int (zI ↑j)] ([(w 0, .inr (4, [.ref (w 1), .int (zI ↑n), .ref (w 2), .ref (w 3), .ref (w 4), .ref (w 5), .int (zI ↑np), .ref (w 6), .ref (w 7), .int (zI ↑kn), .ref (w 8), .ref (w 9), .ref (w 10), .int (zI ↑ch), .int (zI le), .ref (w 11), .int (zI sf), .int (zI st), .ref (w 12)])), (w 4, .inl (cI, 30, .inl (kZ ot))), (w 5, .inl (cI, 30, .inl (kZ nu))), (w 8, .inl (cI, 900, .inl (kM G)))]) (k_Qi D k_cl (k_b (mFar (fun z => G (30 * o + z)) (nu k) i j 30 0 1 = 1)) [(w 0, .inr (4, [.ref (w 1), .int (zI ↑n), .ref (w 2), .ref (w 3), .ref (w 4), .ref (w 5), .int (zI ↑np), .ref (w 6), .ref (w 7), .int (zI ↑kn), .ref (w 8), .ref (w 9), .ref (w 10), .int (zI ↑ch), .int (zI le), .ref (w 11), .int (zI sf), .int (zI st), .ref (w 12)])), (w 4, .inl (cI, 30, .inl (kZ ot))), (w 5, .inl (cI, 30, .inl (kZ nu))), (w 8, .inl (cI, 900, .inl (kM G)))]) := by
  refine k_start (cc := b_Mo_isFar) (maxL := 8) (ret := (some .boolean)) (by decide) rfl (Nat.le_of_ble_eq_true rfl) ?_
  intro p ev s m ar below meth c A ls Qf hQf hx hb hr hml hts hown hlocks hin hK hG hA hP hD hS hl
  replace hown : s.vm.findClass R_Mo = some m.cls := hown
  replace hl : lv_has ls 8 [(0, .ref (w 0)), (1, .int (zI ↑k)), (2, .int (zI ↑i)), (3, .int (zI ↑j))] := hl
  have hkw : ∀ w ∈ kW, w.before ar s = true := fun w h => hts w (List.mem_cons_of_mem _ h)
  replace hP : va_P D k_cl ([(w 0, .inr (4, [.ref (w 1), .int (zI ↑n), .ref (w 2), .ref (w 3), .ref (w 4), .ref (w 5), .int (zI ↑np), .ref (w 6), .ref (w 7), .int (zI ↑kn), .ref (w 8), .ref (w 9), .ref (w 10), .int (zI ↑ch), .int (zI le), .ref (w 11), .int (zI sf), .int (zI st), .ref (w 12)])), (w 4, .inl (cI, 30, .inl (kZ ot))), (w 5, .inl (cI, 30, .inl (kZ nu))), (w 8, .inl (cI, 900, .inl (kM G)))]) s.heap := hP
  replace hD : va_D A ([(w 0, .inr (4, [.ref (w 1), .int (zI ↑n), .ref (w 2), .ref (w 3), .ref (w 4), .ref (w 5), .int (zI ↑np), .ref (w 6), .ref (w 7), .int (zI ↑kn), .ref (w 8), .ref (w 9), .ref (w 10), .int (zI ↑ch), .int (zI le), .ref (w 11), .int (zI sf), .int (zI st), .ref (w 12)])), (w 4, .inl (cI, 30, .inl (kZ ot))), (w 5, .inl (cI, 30, .inl (kZ nu))), (w 8, .inl (cI, 900, .inl (kM G)))]) := hD
  refine lv_iconst (v := zI 1) hx hb d_Mo_isFar_0 (by decide) ?_
  refine lv_istore (lv' := [(4, .int (zI 1)), (0, .ref (w 0)), (1, .int (zI ↑k)), (2, .int (zI ↑i)), (3, .int (zI ↑j))]) hx hb d_Mo_isFar_1 hl (by decide) rfl ?_
  clear hl; intro ls hl
  refine lv_iconst (v := zI 0) hx hb d_Mo_isFar_3 (by decide) ?_
  refine lv_istore (lv' := [(5, .int (zI 0)), (4, .int (zI 1)), (0, .ref (w 0)), (1, .int (zI ↑k)), (2, .int (zI ↑i)), (3, .int (zI ↑j))]) hx hb d_Mo_isFar_4 hl (by decide) rfl ?_
  clear hl; intro ls hl
  have loop_6 : ∀ (z : Nat) (x : Nat) (fa : Nat), (x + z = 30) → (fa ≤ 1) → (mFar (fun z => G (30 * o + z)) (nu k) i j z x fa = mFar (fun z => G (30 * o + z)) (nu k) i j 30 0 1) → ∀ (H : Heap) (locs : List Loc) (ls : Array Slot), va_P D k_cl ([(w 0, .inr (4, [.ref (w 1), .int (zI ↑n), .ref (w 2), .ref (w 3), .ref (w 4), .ref (w 5), .int (zI ↑np), .ref (w 6), .ref (w 7), .int (zI ↑kn), .ref (w 8), .ref (w 9), .ref (w 10), .int (zI ↑ch), .int (zI le), .ref (w 11), .int (zI sf), .int (zI st), .ref (w 12)])), (w 4, .inl (cI, 30, .inl (kZ ot))), (w 5, .inl (cI, 30, .inl (kZ nu))), (w 8, .inl (cI, 900, .inl (kM G)))]) H → va_D A ([(w 0, .inr (4, [.ref (w 1), .int (zI ↑n), .ref (w 2), .ref (w 3), .ref (w 4), .ref (w 5), .int (zI ↑np), .ref (w 6), .ref (w 7), .int (zI ↑kn), .ref (w 8), .ref (w 9), .ref (w 10), .int (zI ↑ch), .int (zI le), .ref (w 11), .int (zI sf), .int (zI st), .ref (w 12)])), (w 4, .inl (cI, 30, .inl (kZ ot))), (w 5, .inl (cI, 30, .inl (kZ nu))), (w 8, .inl (cI, 900, .inl (kM G)))]) → va_S A s.heap H locs → lv_has ls 8 [(0, .ref (w 0)), (1, .int (zI ↑k)), (2, .int (zI ↑i)), (3, .int (zI ↑j)), (4, .int (zI ↑fa)), (5, .int (zI ↑x))] → W p l ev rm_Mo_isFar s m ar below meth c H locs 0 0 Qf (F0 m 6 ls []) := by
    intro z
    induction z with
    | zero =>
      intro x fa hin hfa hgo H locs ls hP hD hS hl
      refine lv_iload hx hb d_Mo_isFar_6 (lv_at hl 5 rfl) ?_
      refine lv_bipush (v := zI 30) hx hb d_Mo_isFar_8 (by decide) ?_
      refine k_icmp_ge (tgt := 82) hx hb d_Mo_isFar_10 (by decide) ⟨by omega, by omega⟩ ⟨by omega, by omega⟩ (fun c_10 => ?_) (fun c_10 => ?_)
      · refine lv_iload hx hb d_Mo_isFar_82 (lv_at hl 4 rfl) ?_
        rw [← hQf]
        exact k_zret hx hb hr hlocks hP hS (by have hb9 := mFar_bd (b := fun z => G (30 * o + z)) (n := nu k) (i := i) (j := j) (k := 0) (x := x) hfa; rw [← hgo]; show zI ↑fa = k_b (fa = 1); rcases (show fa = 0 ∨ fa = 1 by omega) with rfl | rfl <;> decide +kernel) d_Mo_isFar_84
      · exfalso; omega
    | succ z ih_6 =>
      intro x fa hin hfa hgo H locs ls hP hD hS hl
      refine lv_iload hx hb d_Mo_isFar_6 (lv_at hl 5 rfl) ?_
      refine lv_bipush (v := zI 30) hx hb d_Mo_isFar_8 (by decide) ?_
      refine k_icmp_ge (tgt := 82) hx hb d_Mo_isFar_10 (by decide) ⟨by omega, by omega⟩ ⟨by omega, by omega⟩ (fun c_10 => ?_) (fun c_10 => ?_)
      · exfalso; omega
      · refine lv_aload_n hx hb d_Mo_isFar_13 rfl (lv_at hl 0 rfl) ?_
        refine va_get (D := D) (ci := 4) (v := .ref (w 8)) (C := R_Mo) (T := T_Mo) (N := 19) hx hb hkw kin_Mo hown hK hP 0 rfl rfl 10 (by decide) (hkw _ kw_fieldLink_Mo_31) (fun _ h9 => h9) rfl d_Mo_isFar_14 ?_
        refine lv_bipush (v := zI 30) hx hb d_Mo_isFar_17 (by decide) ?_
        refine lv_aload_n hx hb d_Mo_isFar_19 rfl (lv_at hl 0 rfl) ?_
        refine va_get (D := D) (ci := 4) (v := .ref (w 4)) (C := R_Mo) (T := T_Mo) (N := 19) hx hb hkw kin_Mo hown hK hP 0 rfl rfl 4 (by decide) (hkw _ kw_fieldLink_Mo_19) (fun _ h9 => h9) rfl d_Mo_isFar_20 ?_
        refine lv_iload_n hx hb d_Mo_isFar_23 rfl (lv_at hl 1 rfl) ?_
        refine k_aldZ hx hb hK hP 1 0 rfl rfl (i := k) (by omega) (by omega) (by omega) d_Mo_isFar_24 ?_
        refine k_imul (v := ↑(30 * o)) hx hb d_Mo_isFar_25 (by omega) ?_
        refine lv_iload hx hb d_Mo_isFar_26 (lv_at hl 5 rfl) ?_
        refine k_iadd (v := ↑(30 * o + x)) hx hb d_Mo_isFar_28 (by omega) ?_
        refine k_aldM hx hb hK hP 3 0 rfl rfl (i := (30 * o + x)) (by omega) (by omega) (by omega) d_Mo_isFar_29 ?_
        have hv_1 := hG0 (30 * o + x)
        have hm_2 := mz_or (G (30 * o + x))
        refine lv_istore (lv' := [(6, .int (zI (mz (G (30 * o + x))))), (0, .ref (w 0)), (1, .int (zI ↑k)), (2, .int (zI ↑i)), (3, .int (zI ↑j)), (4, .int (zI ↑fa)), (5, .int (zI ↑x))]) hx hb d_Mo_isFar_30 hl (by decide) rfl ?_
        clear hl; intro ls hl
        refine lv_iload hx hb d_Mo_isFar_32 (lv_at hl 0 rfl) ?_
        refine k_if_lt (tgt := 76) hx hb d_Mo_isFar_34 (by decide) ⟨by omega, by omega⟩ (fun c_34 => ?_) (fun c_34 => ?_)
        · refine k_iinc (v := ↑(x + 1)) (lv' := [(5, .int (zI (↑(x + 1)))), (6, .int (zI (mz (G (30 * o + x))))), (0, .ref (w 0)), (1, .int (zI ↑k)), (2, .int (zI ↑i)), (3, .int (zI ↑j)), (4, .int (zI ↑fa))]) hx hb d_Mo_isFar_76 hl (k := 6) rfl (by omega) (by decide) rfl ?_
          clear hl; intro ls hl
          refine lv_goto (tgt := 6) hx hb d_Mo_isFar_79 (by decide) ?_
          exact ih_6 (x + 1) fa (by omega) (by omega) (by rw [mFar] at hgo; (repeat' split at hgo); all_goals first | exact hgo | (exfalso; omega)) _ _ _ hP hD hS (lv_sub hl [2, 3, 4, 5, 6, 0] rfl)
        · refine lv_iload_n hx hb d_Mo_isFar_37 rfl (lv_at hl 3 rfl) ?_
          refine lv_iload_n hx hb d_Mo_isFar_38 rfl (lv_at hl 4 rfl) ?_
          refine lv_iload hx hb d_Mo_isFar_39 (lv_at hl 6 rfl) ?_
          refine lv_iload hx hb d_Mo_isFar_41 (lv_at hl 0 rfl) ?_
          refine k_stk (st2 := [.int (zI (↑(G (30 * o + x)))), .int (zI ↑x), .int (zI ↑j), .int (zI ↑i)]) (by rw [show (mz (G (30 * o + x)) : Int) = ↑(G (30 * o + x)) from by omega]) ?_
          refine k_beI (va_runS (As := [.int (zI ↑i), .int (zI ↑j), .int (zI ↑x), .int (zI (↑(G (30 * o + x))))]) (rest := []) ⟨hx, hb, hml, hown, hkw⟩ (c_Mo_gap l D cI cR cG ↑i ↑j ↑x (↑(G (30 * o + x))) (by omega) (by omega) (by omega) (by omega) _) (va_cwS 4 hkw (k_gS kw_methodLink_Mo_68 kw_static_Mo_gap kw_initialized_Mo kw_code_Mo_gap) rfl rfl rfl (by decide +kernel) ⟨(Nat.le_of_ble_eq_true rfl), (Nat.le_of_ble_eq_true rfl)⟩) (k_preS hK hG hP hD [] rfl rfl) rfl rfl hl.1 rfl (lv_room (Nat.le_of_ble_eq_true rfl)) d_Mo_isFar_43 ⟨Nat.zero_le _, Nat.zero_le _⟩) hP hD hS hA [] rfl (Eq.trans (b := []) rfl rfl) ?_
          clear hP hD hS; intro H locs hP hD hS
          replace hP : va_P D k_cl ([(w 0, .inr (4, [.ref (w 1), .int (zI ↑n), .ref (w 2), .ref (w 3), .ref (w 4), .ref (w 5), .int (zI ↑np), .ref (w 6), .ref (w 7), .int (zI ↑kn), .ref (w 8), .ref (w 9), .ref (w 10), .int (zI ↑ch), .int (zI le), .ref (w 11), .int (zI sf), .int (zI st), .ref (w 12)])), (w 4, .inl (cI, 30, .inl (kZ ot))), (w 5, .inl (cI, 30, .inl (kZ nu))), (w 8, .inl (cI, 900, .inl (kM G)))]) H := hP
          replace hD : va_D A ([(w 0, .inr (4, [.ref (w 1), .int (zI ↑n), .ref (w 2), .ref (w 3), .ref (w 4), .ref (w 5), .int (zI ↑np), .ref (w 6), .ref (w 7), .int (zI ↑kn), .ref (w 8), .ref (w 9), .ref (w 10), .int (zI ↑ch), .int (zI le), .ref (w 11), .int (zI sf), .int (zI st), .ref (w 12)])), (w 4, .inl (cI, 30, .inl (kZ ot))), (w 5, .inl (cI, 30, .inl (kZ nu))), (w 8, .inl (cI, 900, .inl (kM G)))]) := hD
          have hg_3 := mGap_bd (i := ↑i) (j := ↑j) (x := ↑x) (y := (↑(G (30 * o + x)))) (by omega) (by omega) (by omega) (by omega)
          refine lv_istore (lv' := [(7, .int (zI (mGap ↑i ↑j ↑x (↑(G (30 * o + x)))))), (6, .int (zI (mz (G (30 * o + x))))), (0, .ref (w 0)), (1, .int (zI ↑k)), (2, .int (zI ↑i)), (3, .int (zI ↑j)), (4, .int (zI ↑fa)), (5, .int (zI ↑x))]) hx hb d_Mo_isFar_46 hl (by decide) rfl ?_
          clear hl; intro ls hl
          refine lv_iload hx hb d_Mo_isFar_48 (lv_at hl 6 rfl) ?_
          refine k_if_eq (tgt := 73) hx hb d_Mo_isFar_50 (by decide) ⟨by omega, by omega⟩ (fun c_50 => ?_) (fun c_50 => ?_)
          · refine lv_iconst (v := zI 0) hx hb d_Mo_isFar_73 (by decide) ?_
            refine lv_istore (lv' := [(4, .int (zI 0)), (7, .int (zI (mGap ↑i ↑j ↑x (↑(G (30 * o + x)))))), (6, .int (zI (mz (G (30 * o + x))))), (0, .ref (w 0)), (1, .int (zI ↑k)), (2, .int (zI ↑i)), (3, .int (zI ↑j)), (5, .int (zI ↑x))]) hx hb d_Mo_isFar_74 hl (by decide) rfl ?_
            clear hl; intro ls hl
            refine k_iinc (v := ↑(x + 1)) (lv' := [(5, .int (zI (↑(x + 1)))), (4, .int (zI 0)), (7, .int (zI (mGap ↑i ↑j ↑x (↑(G (30 * o + x)))))), (6, .int (zI (mz (G (30 * o + x))))), (0, .ref (w 0)), (1, .int (zI ↑k)), (2, .int (zI ↑i)), (3, .int (zI ↑j))]) hx hb d_Mo_isFar_76 hl (k := 7) rfl (by omega) (by decide) rfl ?_
            clear hl; intro ls hl
            refine lv_goto (tgt := 6) hx hb d_Mo_isFar_79 (by decide) ?_
            exact ih_6 (x + 1) 0 (by omega) (by omega) (by rw [mFar] at hgo; (repeat' split at hgo); all_goals first | exact hgo | (exfalso; omega)) _ _ _ hP hD hS (lv_sub hl [4, 5, 6, 7, 1, 0] rfl)
          · refine lv_iload hx hb d_Mo_isFar_53 (lv_at hl 0 rfl) ?_
            refine k_if_lt (tgt := 73) hx hb d_Mo_isFar_55 (by decide) ⟨by omega, by omega⟩ (fun c_55 => ?_) (fun c_55 => ?_)
            · refine lv_iconst (v := zI 0) hx hb d_Mo_isFar_73 (by decide) ?_
              refine lv_istore (lv' := [(4, .int (zI 0)), (7, .int (zI (mGap ↑i ↑j ↑x (↑(G (30 * o + x)))))), (6, .int (zI (mz (G (30 * o + x))))), (0, .ref (w 0)), (1, .int (zI ↑k)), (2, .int (zI ↑i)), (3, .int (zI ↑j)), (5, .int (zI ↑x))]) hx hb d_Mo_isFar_74 hl (by decide) rfl ?_
              clear hl; intro ls hl
              refine k_iinc (v := ↑(x + 1)) (lv' := [(5, .int (zI (↑(x + 1)))), (4, .int (zI 0)), (7, .int (zI (mGap ↑i ↑j ↑x (↑(G (30 * o + x)))))), (6, .int (zI (mz (G (30 * o + x))))), (0, .ref (w 0)), (1, .int (zI ↑k)), (2, .int (zI ↑i)), (3, .int (zI ↑j))]) hx hb d_Mo_isFar_76 hl (k := 7) rfl (by omega) (by decide) rfl ?_
              clear hl; intro ls hl
              refine lv_goto (tgt := 6) hx hb d_Mo_isFar_79 (by decide) ?_
              exact ih_6 (x + 1) 0 (by omega) (by omega) (by rw [mFar] at hgo; (repeat' split at hgo); all_goals first | exact hgo | (exfalso; omega)) _ _ _ hP hD hS (lv_sub hl [4, 5, 6, 7, 1, 0] rfl)
            · refine lv_iload hx hb d_Mo_isFar_58 (lv_at hl 0 rfl) ?_
              refine lv_aload_n hx hb d_Mo_isFar_60 rfl (lv_at hl 2 rfl) ?_
              refine va_get (D := D) (ci := 4) (v := .ref (w 5)) (C := R_Mo) (T := T_Mo) (N := 19) hx hb hkw kin_Mo hown hK hP 0 rfl rfl 5 (by decide) (hkw _ kw_fieldLink_Mo_22) (fun _ h9 => h9) rfl d_Mo_isFar_61 ?_
              refine lv_iload_n hx hb d_Mo_isFar_64 rfl (lv_at hl 3 rfl) ?_
              refine k_aldZ hx hb hK hP 2 0 rfl rfl (i := k) (by omega) (by omega) (by omega) d_Mo_isFar_65 ?_
              have hv_4 := hnu k
              refine k_icmp_le (tgt := 73) hx hb d_Mo_isFar_66 (by decide) ⟨by omega, by omega⟩ ⟨by omega, by omega⟩ (fun c_66 => ?_) (fun c_66 => ?_)
              · refine lv_iconst (v := zI 0) hx hb d_Mo_isFar_73 (by decide) ?_
                refine lv_istore (lv' := [(4, .int (zI 0)), (7, .int (zI (mGap ↑i ↑j ↑x (↑(G (30 * o + x)))))), (6, .int (zI (mz (G (30 * o + x))))), (0, .ref (w 0)), (1, .int (zI ↑k)), (2, .int (zI ↑i)), (3, .int (zI ↑j)), (5, .int (zI ↑x))]) hx hb d_Mo_isFar_74 hl (by decide) rfl ?_
                clear hl; intro ls hl
                refine k_iinc (v := ↑(x + 1)) (lv' := [(5, .int (zI (↑(x + 1)))), (4, .int (zI 0)), (7, .int (zI (mGap ↑i ↑j ↑x (↑(G (30 * o + x)))))), (6, .int (zI (mz (G (30 * o + x))))), (0, .ref (w 0)), (1, .int (zI ↑k)), (2, .int (zI ↑i)), (3, .int (zI ↑j))]) hx hb d_Mo_isFar_76 hl (k := 7) rfl (by omega) (by decide) rfl ?_
                clear hl; intro ls hl
                refine lv_goto (tgt := 6) hx hb d_Mo_isFar_79 (by decide) ?_
                exact ih_6 (x + 1) 0 (by omega) (by omega) (by rw [mFar] at hgo; (repeat' split at hgo); all_goals first | exact hgo | (exfalso; omega)) _ _ _ hP hD hS (lv_sub hl [4, 5, 6, 7, 1, 0] rfl)
              · refine lv_iconst (v := zI 1) hx hb d_Mo_isFar_69 (by decide) ?_
                refine lv_goto (tgt := 74) hx hb d_Mo_isFar_70 (by decide) ?_
                refine lv_istore (lv' := [(4, .int (zI 1)), (7, .int (zI (mGap ↑i ↑j ↑x (↑(G (30 * o + x)))))), (6, .int (zI (mz (G (30 * o + x))))), (0, .ref (w 0)), (1, .int (zI ↑k)), (2, .int (zI ↑i)), (3, .int (zI ↑j)), (5, .int (zI ↑x))]) hx hb d_Mo_isFar_74 hl (by decide) rfl ?_
                clear hl; intro ls hl
                refine k_iinc (v := ↑(x + 1)) (lv' := [(5, .int (zI (↑(x + 1)))), (4, .int (zI 1)), (7, .int (zI (mGap ↑i ↑j ↑x (↑(G (30 * o + x)))))), (6, .int (zI (mz (G (30 * o + x))))), (0, .ref (w 0)), (1, .int (zI ↑k)), (2, .int (zI ↑i)), (3, .int (zI ↑j))]) hx hb d_Mo_isFar_76 hl (k := 7) rfl (by omega) (by decide) rfl ?_
                clear hl; intro ls hl
                refine lv_goto (tgt := 6) hx hb d_Mo_isFar_79 (by decide) ?_
                exact ih_6 (x + 1) 1 (by omega) (by omega) (by rw [mFar] at hgo; (repeat' split at hgo); all_goals first | exact hgo | (exfalso; omega)) _ _ _ hP hD hS (lv_sub hl [4, 5, 6, 7, 1, 0] rfl)
  exact loop_6 30 0 1 (by omega) (by omega) rfl _ _ _ hP hD hS (lv_sub hl [2, 3, 4, 5, 1, 0] rfl)

abbrev rm_Mo_alone : Room := { frames := 2, cells := 0, slots := 0, locals := 50 }
set_option maxHeartbeats 4000000 in
set_option maxRecDepth 100000 in
theorem c_Mo_alone (l : Launch) (D : va_G) (cI cR cG : ClassId) (w : Nat → Nat) (n np kn ch : Nat) (le sf st : Int) (k i j o : Nat) (K F G : Nat → Nat) (ot nu : Nat → Int) (hk : k < 30) (hi : i < 30) (hj : j < 30) (ho : K k = 8 → ot k = ↑o ∧ o < 30) (hK0 : ∀ u, K u ≤ 10) (hnu : ∀ u, k_sm (nu u)) (hn10 : K k = 10 → 0 ≤ nu k ∧ nu k ≤ 30) (hG0 : ∀ u, G u ≤ 30) (hF : ∀ j, F j ≤ 30) : k_M l y_Mo_alone (.code y_Mo_alone b_Mo_alone 6 none :: kW) rm_Mo_alone D k_cl (k_ty cI cR cG) [.ref (w 0), .int (zI ↑k), .int (zI ↑i), .int (zI ↑j)] ([(w 0, .inr (4, [.ref (w 1), .int (zI ↑n), .ref (w 2), .ref (w 3), .ref (w 4), .ref (w 5), .int (zI ↑np), .ref (w 6), .ref (w 7), .int (zI ↑kn), .ref (w 8), .ref (w 9), .ref (w 10), .int (zI ↑ch), .int (zI le), .ref (w 11), .int (zI sf), .int (zI st), .ref (w 12)])), (w 2, .inl (cI, 30, .inl (kA K))), (w 4, .inl (cI, 30, .inl (kZ ot))), (w 5, .inl (cI, 30, .inl (kZ nu))), (w 8, .inl (cI, 900, .inl (kM G))), (w 9, .inl (cI, 30, .inl (kM F)))]) (k_Qv D k_cl [(w 0, .inr (4, [.ref (w 1), .int (zI ↑n), .ref (w 2), .ref (w 3), .ref (w 4), .ref (w 5), .int (zI ↑np), .ref (w 6), .ref (w 7), .int (zI ↑kn), .ref (w 8), .ref (w 9), .ref (w 10), .int (zI ↑ch), .int (zI le), .ref (w 11), .int (zI sf), .int (zI st), .ref (w 12)])), (w 2, .inl (cI, 30, .inl (kA K))), (w 4, .inl (cI, 30, .inl (kZ ot))), (w 5, .inl (cI, 30, .inl (kZ nu))), (w 8, .inl (cI, 900, .inl (kM G))), (w 9, .inl (cI, 30, .inl (kM (mAlone (K k) (nu k) (fun z => G (30 * o + z)) F i j))))]) := by
  refine k_start (cc := b_Mo_alone) (maxL := 6) (ret := none) (by decide) rfl (Nat.le_of_ble_eq_true rfl) ?_
  intro p ev s m ar below meth c A ls Qf hQf hx hb hr hml hts hown hlocks hin hK hG hA hP hD hS hl
  replace hown : s.vm.findClass R_Mo = some m.cls := hown
  replace hl : lv_has ls 6 [(0, .ref (w 0)), (1, .int (zI ↑k)), (2, .int (zI ↑i)), (3, .int (zI ↑j))] := hl
  have hkw : ∀ w ∈ kW, w.before ar s = true := fun w h => hts w (List.mem_cons_of_mem _ h)
  replace hP : va_P D k_cl ([(w 0, .inr (4, [.ref (w 1), .int (zI ↑n), .ref (w 2), .ref (w 3), .ref (w 4), .ref (w 5), .int (zI ↑np), .ref (w 6), .ref (w 7), .int (zI ↑kn), .ref (w 8), .ref (w 9), .ref (w 10), .int (zI ↑ch), .int (zI le), .ref (w 11), .int (zI sf), .int (zI st), .ref (w 12)])), (w 2, .inl (cI, 30, .inl (kA K))), (w 4, .inl (cI, 30, .inl (kZ ot))), (w 5, .inl (cI, 30, .inl (kZ nu))), (w 8, .inl (cI, 900, .inl (kM G))), (w 9, .inl (cI, 30, .inl (kM F)))]) s.heap := hP
  replace hD : va_D A ([(w 0, .inr (4, [.ref (w 1), .int (zI ↑n), .ref (w 2), .ref (w 3), .ref (w 4), .ref (w 5), .int (zI ↑np), .ref (w 6), .ref (w 7), .int (zI ↑kn), .ref (w 8), .ref (w 9), .ref (w 10), .int (zI ↑ch), .int (zI le), .ref (w 11), .int (zI sf), .int (zI st), .ref (w 12)])), (w 2, .inl (cI, 30, .inl (kA K))), (w 4, .inl (cI, 30, .inl (kZ ot))), (w 5, .inl (cI, 30, .inl (kZ nu))), (w 8, .inl (cI, 900, .inl (kM G))), (w 9, .inl (cI, 30, .inl (kM F)))]) := hD
  refine lv_aload_n hx hb d_Mo_alone_0 rfl (lv_at hl 0 rfl) ?_
  refine va_get (D := D) (ci := 4) (v := .ref (w 5)) (C := R_Mo) (T := T_Mo) (N := 19) hx hb hkw kin_Mo hown hK hP 0 rfl rfl 5 (by decide) (hkw _ kw_fieldLink_Mo_22) (fun _ h9 => h9) rfl d_Mo_alone_1 ?_
  refine lv_iload_n hx hb d_Mo_alone_4 rfl (lv_at hl 1 rfl) ?_
  refine k_aldZ hx hb hK hP 3 0 rfl rfl (i := k) (by omega) (by omega) (by omega) d_Mo_alone_5 ?_
  have hv_1 := hnu k
  refine lv_istore (lv' := [(4, .int (zI (nu k))), (0, .ref (w 0)), (1, .int (zI ↑k)), (2, .int (zI ↑i)), (3, .int (zI ↑j))]) hx hb d_Mo_alone_6 hl (by decide) rfl ?_
  clear hl; intro ls hl
  refine lv_aload_n hx hb d_Mo_alone_8 rfl (lv_at hl 1 rfl) ?_
  refine va_get (D := D) (ci := 4) (v := .ref (w 2)) (C := R_Mo) (T := T_Mo) (N := 19) hx hb hkw kin_Mo hown hK hP 0 rfl rfl 2 (by decide) (hkw _ kw_fieldLink_Mo_13) (fun _ h9 => h9) rfl d_Mo_alone_9 ?_
  refine lv_iload_n hx hb d_Mo_alone_12 rfl (lv_at hl 2 rfl) ?_
  refine k_ald hx hb hK hP 1 0 rfl rfl (i := k) (by omega) (by omega) (by omega) d_Mo_alone_13 ?_
  have hv_2 := hK0 k
  refine lv_istore (lv' := [(5, .int (zI (↑(K k)))), (4, .int (zI (nu k))), (0, .ref (w 0)), (1, .int (zI ↑k)), (2, .int (zI ↑i)), (3, .int (zI ↑j))]) hx hb d_Mo_alone_14 hl (by decide) rfl ?_
  clear hl; intro ls hl
  refine lv_iload hx hb d_Mo_alone_16 (lv_at hl 0 rfl) ?_
  refine lv_iconst (v := zI 1) hx hb d_Mo_alone_18 (by decide) ?_
  refine k_icmp_eq (tgt := 52) hx hb d_Mo_alone_19 (by decide) ⟨by omega, by omega⟩ ⟨by omega, by omega⟩ (fun c_19 => ?_) (fun c_19 => ?_)
  · refine lv_aload_n hx hb d_Mo_alone_52 rfl (lv_at hl 2 rfl) ?_
    refine lv_iload_n hx hb d_Mo_alone_53 rfl (lv_at hl 4 rfl) ?_
    refine lv_iload_n hx hb d_Mo_alone_54 rfl (lv_at hl 5 rfl) ?_
    refine k_beV (va_runV (As := [.int (zI ↑i), .int (zI ↑j)]) (rest := []) ⟨hx, hb, hml, hown, hkw⟩ (c_Mo_comes l D cI cR cG w n np kn ch le sf st i j F (by omega) (by omega) hF _) (cwV 2 hkw (k_gV kw_methodLink_Mo_64 kw_instanceMethod_Mo_comes kw_selects_Mo_comes kw_initialized_Mo kw_code_Mo_comes) rfl rfl rfl (by decide +kernel) ⟨(Nat.le_of_ble_eq_true rfl), (Nat.le_of_ble_eq_true rfl)⟩) (k_preV (q0 := 0) hK hG hP hD [0, 5] rfl rfl rfl rfl) rfl rfl hl.1 rfl (lv_room (Nat.le_of_ble_eq_true rfl)) d_Mo_alone_55 ⟨Nat.zero_le _, Nat.zero_le _⟩) hP hD hS hA [0, 5] rfl (Eq.trans (b := [w 0, w 9]) rfl rfl) ?_
    clear hP hD hS; intro H locs hP hD hS
    replace hP : va_P D k_cl ([(w 0, .inr (4, [.ref (w 1), .int (zI ↑n), .ref (w 2), .ref (w 3), .ref (w 4), .ref (w 5), .int (zI ↑np), .ref (w 6), .ref (w 7), .int (zI ↑kn), .ref (w 8), .ref (w 9), .ref (w 10), .int (zI ↑ch), .int (zI le), .ref (w 11), .int (zI sf), .int (zI st), .ref (w 12)])), (w 2, .inl (cI, 30, .inl (kA K))), (w 4, .inl (cI, 30, .inl (kZ ot))), (w 5, .inl (cI, 30, .inl (kZ nu))), (w 8, .inl (cI, 900, .inl (kM G))), (w 9, .inl (cI, 30, .inl (kM (rAdd F i j))))]) H := hP
    replace hD : va_D A ([(w 0, .inr (4, [.ref (w 1), .int (zI ↑n), .ref (w 2), .ref (w 3), .ref (w 4), .ref (w 5), .int (zI ↑np), .ref (w 6), .ref (w 7), .int (zI ↑kn), .ref (w 8), .ref (w 9), .ref (w 10), .int (zI ↑ch), .int (zI le), .ref (w 11), .int (zI sf), .int (zI st), .ref (w 12)])), (w 2, .inl (cI, 30, .inl (kA K))), (w 4, .inl (cI, 30, .inl (kZ ot))), (w 5, .inl (cI, 30, .inl (kZ nu))), (w 8, .inl (cI, 900, .inl (kM G))), (w 9, .inl (cI, 30, .inl (kM (rAdd F i j))))]) := hD
    refine lv_goto (tgt := 87) hx hb d_Mo_alone_58 (by decide) ?_
    have e9 : mAlone (K k) (nu k) (fun z => G (30 * o + z)) F i j = rAdd F i j := by unfold mAlone; (repeat' split); all_goals first | rfl | (exfalso; omega) | (congr 1 <;> omega) | (exfalso; rename_i h8 _; rcases h8 with h8 | ⟨_, h8⟩ | h8 <;> first | omega | contradiction) | (exfalso; rename_i h8; apply h8; first | exact Or.inl (by omega) | exact Or.inr (Or.inl ⟨by omega, by assumption⟩) | exact Or.inr (Or.inr (by omega)))
    replace hP : va_P D k_cl [(w 0, .inr (4, [.ref (w 1), .int (zI ↑n), .ref (w 2), .ref (w 3), .ref (w 4), .ref (w 5), .int (zI ↑np), .ref (w 6), .ref (w 7), .int (zI ↑kn), .ref (w 8), .ref (w 9), .ref (w 10), .int (zI ↑ch), .int (zI le), .ref (w 11), .int (zI sf), .int (zI st), .ref (w 12)])), (w 2, .inl (cI, 30, .inl (kA K))), (w 4, .inl (cI, 30, .inl (kZ ot))), (w 5, .inl (cI, 30, .inl (kZ nu))), (w 8, .inl (cI, 900, .inl (kM G))), (w 9, .inl (cI, 30, .inl (kM (mAlone (K k) (nu k) (fun z => G (30 * o + z)) F i j))))] H := by rw [e9]; exact hP
    rw [← hQf]
    exact k_vret hx hb hr hlocks hP hS d_Mo_alone_87
  · refine lv_iload hx hb d_Mo_alone_22 (lv_at hl 0 rfl) ?_
    refine lv_bipush (v := zI 8) hx hb d_Mo_alone_24 (by decide) ?_
    refine k_icmp_ne (tgt := 39) hx hb d_Mo_alone_26 (by decide) ⟨by omega, by omega⟩ ⟨by omega, by omega⟩ (fun c_26 => ?_) (fun c_26 => ?_)
    · refine lv_iload hx hb d_Mo_alone_39 (lv_at hl 0 rfl) ?_
      refine lv_bipush (v := zI 9) hx hb d_Mo_alone_41 (by decide) ?_
      refine k_icmp_ne (tgt := 61) hx hb d_Mo_alone_43 (by decide) ⟨by omega, by omega⟩ ⟨by omega, by omega⟩ (fun c_43 => ?_) (fun c_43 => ?_)
      · refine lv_iload hx hb d_Mo_alone_61 (lv_at hl 0 rfl) ?_
        refine lv_bipush (v := zI 10) hx hb d_Mo_alone_63 (by decide) ?_
        refine k_icmp_ne (tgt := 87) hx hb d_Mo_alone_65 (by decide) ⟨by omega, by omega⟩ ⟨by omega, by omega⟩ (fun c_65 => ?_) (fun c_65 => ?_)
        · have e9 : mAlone (K k) (nu k) (fun z => G (30 * o + z)) F i j = F := by unfold mAlone; (repeat' split); all_goals first | rfl | (exfalso; omega) | (congr 1 <;> omega) | (exfalso; rename_i h8 _; rcases h8 with h8 | ⟨_, h8⟩ | h8 <;> first | omega | contradiction) | (exfalso; rename_i h8; apply h8; first | exact Or.inl (by omega) | exact Or.inr (Or.inl ⟨by omega, by assumption⟩) | exact Or.inr (Or.inr (by omega)))
          replace hP : va_P D k_cl [(w 0, .inr (4, [.ref (w 1), .int (zI ↑n), .ref (w 2), .ref (w 3), .ref (w 4), .ref (w 5), .int (zI ↑np), .ref (w 6), .ref (w 7), .int (zI ↑kn), .ref (w 8), .ref (w 9), .ref (w 10), .int (zI ↑ch), .int (zI le), .ref (w 11), .int (zI sf), .int (zI st), .ref (w 12)])), (w 2, .inl (cI, 30, .inl (kA K))), (w 4, .inl (cI, 30, .inl (kZ ot))), (w 5, .inl (cI, 30, .inl (kZ nu))), (w 8, .inl (cI, 900, .inl (kM G))), (w 9, .inl (cI, 30, .inl (kM (mAlone (K k) (nu k) (fun z => G (30 * o + z)) F i j))))] s.heap := by rw [e9]; exact hP
          rw [← hQf]
          exact k_vret hx hb hr hlocks hP hS d_Mo_alone_87
        · have h10 := hn10 (by omega)
          refine lv_aload_n hx hb d_Mo_alone_68 rfl (lv_at hl 2 rfl) ?_
          refine lv_iload_n hx hb d_Mo_alone_69 rfl (lv_at hl 4 rfl) ?_
          refine lv_iload hx hb d_Mo_alone_70 (lv_at hl 1 rfl) ?_
          refine k_icmp_ge (tgt := 79) hx hb d_Mo_alone_72 (by decide) ⟨by omega, by omega⟩ ⟨by omega, by omega⟩ (fun c_72 => ?_) (fun c_72 => ?_)
          · refine lv_iload_n hx hb d_Mo_alone_79 rfl (lv_at hl 4 rfl) ?_
            refine lv_iload hx hb d_Mo_alone_80 (lv_at hl 1 rfl) ?_
            refine k_isub (v := ↑((↑i - nu k).toNat)) hx hb d_Mo_alone_82 (by omega) ?_
            refine lv_iload_n hx hb d_Mo_alone_83 rfl (lv_at hl 5 rfl) ?_
            refine k_beV (va_runV (As := [.int (zI (↑((↑i - nu k).toNat))), .int (zI ↑j)]) (rest := []) ⟨hx, hb, hml, hown, hkw⟩ (c_Mo_comes l D cI cR cG w n np kn ch le sf st ((↑i - nu k).toNat) j F (by omega) (by omega) hF _) (cwV 2 hkw (k_gV kw_methodLink_Mo_64 kw_instanceMethod_Mo_comes kw_selects_Mo_comes kw_initialized_Mo kw_code_Mo_comes) rfl rfl rfl (by decide +kernel) ⟨(Nat.le_of_ble_eq_true rfl), (Nat.le_of_ble_eq_true rfl)⟩) (k_preV (q0 := 0) hK hG hP hD [0, 5] rfl rfl rfl rfl) rfl rfl hl.1 rfl (lv_room (Nat.le_of_ble_eq_true rfl)) d_Mo_alone_84 ⟨Nat.zero_le _, Nat.zero_le _⟩) hP hD hS hA [0, 5] rfl (Eq.trans (b := [w 0, w 9]) rfl rfl) ?_
            clear hP hD hS; intro H locs hP hD hS
            replace hP : va_P D k_cl ([(w 0, .inr (4, [.ref (w 1), .int (zI ↑n), .ref (w 2), .ref (w 3), .ref (w 4), .ref (w 5), .int (zI ↑np), .ref (w 6), .ref (w 7), .int (zI ↑kn), .ref (w 8), .ref (w 9), .ref (w 10), .int (zI ↑ch), .int (zI le), .ref (w 11), .int (zI sf), .int (zI st), .ref (w 12)])), (w 2, .inl (cI, 30, .inl (kA K))), (w 4, .inl (cI, 30, .inl (kZ ot))), (w 5, .inl (cI, 30, .inl (kZ nu))), (w 8, .inl (cI, 900, .inl (kM G))), (w 9, .inl (cI, 30, .inl (kM (rAdd F ((↑i - nu k).toNat) j))))]) H := hP
            replace hD : va_D A ([(w 0, .inr (4, [.ref (w 1), .int (zI ↑n), .ref (w 2), .ref (w 3), .ref (w 4), .ref (w 5), .int (zI ↑np), .ref (w 6), .ref (w 7), .int (zI ↑kn), .ref (w 8), .ref (w 9), .ref (w 10), .int (zI ↑ch), .int (zI le), .ref (w 11), .int (zI sf), .int (zI st), .ref (w 12)])), (w 2, .inl (cI, 30, .inl (kA K))), (w 4, .inl (cI, 30, .inl (kZ ot))), (w 5, .inl (cI, 30, .inl (kZ nu))), (w 8, .inl (cI, 900, .inl (kM G))), (w 9, .inl (cI, 30, .inl (kM (rAdd F ((↑i - nu k).toNat) j))))]) := hD
            have e9 : mAlone (K k) (nu k) (fun z => G (30 * o + z)) F i j = rAdd F ((↑i - nu k).toNat) j := by unfold mAlone; (repeat' split); all_goals first | rfl | (exfalso; omega) | (congr 1 <;> omega) | (exfalso; rename_i h8 _; rcases h8 with h8 | ⟨_, h8⟩ | h8 <;> first | omega | contradiction) | (exfalso; rename_i h8; apply h8; first | exact Or.inl (by omega) | exact Or.inr (Or.inl ⟨by omega, by assumption⟩) | exact Or.inr (Or.inr (by omega)))
            replace hP : va_P D k_cl [(w 0, .inr (4, [.ref (w 1), .int (zI ↑n), .ref (w 2), .ref (w 3), .ref (w 4), .ref (w 5), .int (zI ↑np), .ref (w 6), .ref (w 7), .int (zI ↑kn), .ref (w 8), .ref (w 9), .ref (w 10), .int (zI ↑ch), .int (zI le), .ref (w 11), .int (zI sf), .int (zI st), .ref (w 12)])), (w 2, .inl (cI, 30, .inl (kA K))), (w 4, .inl (cI, 30, .inl (kZ ot))), (w 5, .inl (cI, 30, .inl (kZ nu))), (w 8, .inl (cI, 900, .inl (kM G))), (w 9, .inl (cI, 30, .inl (kM (mAlone (K k) (nu k) (fun z => G (30 * o + z)) F i j))))] H := by rw [e9]; exact hP
            rw [← hQf]
            exact k_vret hx hb hr hlocks hP hS d_Mo_alone_87
          · refine lv_iconst (v := zI 0) hx hb d_Mo_alone_75 (by decide) ?_
            refine lv_goto (tgt := 83) hx hb d_Mo_alone_76 (by decide) ?_
            refine lv_iload_n hx hb d_Mo_alone_83 rfl (lv_at hl 5 rfl) ?_
            refine k_stk (st2 := [.int (zI ↑j), .int (zI ↑0), .ref (w 0)]) (by rw [show (0 : Int) = ↑0 from by omega]) ?_
            refine k_beV (va_runV (As := [.int (zI ↑0), .int (zI ↑j)]) (rest := []) ⟨hx, hb, hml, hown, hkw⟩ (c_Mo_comes l D cI cR cG w n np kn ch le sf st 0 j F (by omega) (by omega) hF _) (cwV 2 hkw (k_gV kw_methodLink_Mo_64 kw_instanceMethod_Mo_comes kw_selects_Mo_comes kw_initialized_Mo kw_code_Mo_comes) rfl rfl rfl (by decide +kernel) ⟨(Nat.le_of_ble_eq_true rfl), (Nat.le_of_ble_eq_true rfl)⟩) (k_preV (q0 := 0) hK hG hP hD [0, 5] rfl rfl rfl rfl) rfl rfl hl.1 rfl (lv_room (Nat.le_of_ble_eq_true rfl)) d_Mo_alone_84 ⟨Nat.zero_le _, Nat.zero_le _⟩) hP hD hS hA [0, 5] rfl (Eq.trans (b := [w 0, w 9]) rfl rfl) ?_
            clear hP hD hS; intro H locs hP hD hS
            replace hP : va_P D k_cl ([(w 0, .inr (4, [.ref (w 1), .int (zI ↑n), .ref (w 2), .ref (w 3), .ref (w 4), .ref (w 5), .int (zI ↑np), .ref (w 6), .ref (w 7), .int (zI ↑kn), .ref (w 8), .ref (w 9), .ref (w 10), .int (zI ↑ch), .int (zI le), .ref (w 11), .int (zI sf), .int (zI st), .ref (w 12)])), (w 2, .inl (cI, 30, .inl (kA K))), (w 4, .inl (cI, 30, .inl (kZ ot))), (w 5, .inl (cI, 30, .inl (kZ nu))), (w 8, .inl (cI, 900, .inl (kM G))), (w 9, .inl (cI, 30, .inl (kM (rAdd F 0 j))))]) H := hP
            replace hD : va_D A ([(w 0, .inr (4, [.ref (w 1), .int (zI ↑n), .ref (w 2), .ref (w 3), .ref (w 4), .ref (w 5), .int (zI ↑np), .ref (w 6), .ref (w 7), .int (zI ↑kn), .ref (w 8), .ref (w 9), .ref (w 10), .int (zI ↑ch), .int (zI le), .ref (w 11), .int (zI sf), .int (zI st), .ref (w 12)])), (w 2, .inl (cI, 30, .inl (kA K))), (w 4, .inl (cI, 30, .inl (kZ ot))), (w 5, .inl (cI, 30, .inl (kZ nu))), (w 8, .inl (cI, 900, .inl (kM G))), (w 9, .inl (cI, 30, .inl (kM (rAdd F 0 j))))]) := hD
            have e9 : mAlone (K k) (nu k) (fun z => G (30 * o + z)) F i j = rAdd F 0 j := by unfold mAlone; (repeat' split); all_goals first | rfl | (exfalso; omega) | (congr 1 <;> omega) | (exfalso; rename_i h8 _; rcases h8 with h8 | ⟨_, h8⟩ | h8 <;> first | omega | contradiction) | (exfalso; rename_i h8; apply h8; first | exact Or.inl (by omega) | exact Or.inr (Or.inl ⟨by omega, by assumption⟩) | exact Or.inr (Or.inr (by omega)))
            replace hP : va_P D k_cl [(w 0, .inr (4, [.ref (w 1), .int (zI ↑n), .ref (w 2), .ref (w 3), .ref (w 4), .ref (w 5), .int (zI ↑np), .ref (w 6), .ref (w 7), .int (zI ↑kn), .ref (w 8), .ref (w 9), .ref (w 10), .int (zI ↑ch), .int (zI le), .ref (w 11), .int (zI sf), .int (zI st), .ref (w 12)])), (w 2, .inl (cI, 30, .inl (kA K))), (w 4, .inl (cI, 30, .inl (kZ ot))), (w 5, .inl (cI, 30, .inl (kZ nu))), (w 8, .inl (cI, 900, .inl (kM G))), (w 9, .inl (cI, 30, .inl (kM (mAlone (K k) (nu k) (fun z => G (30 * o + z)) F i j))))] H := by rw [e9]; exact hP
            rw [← hQf]
            exact k_vret hx hb hr hlocks hP hS d_Mo_alone_87
      · refine lv_iload_n hx hb d_Mo_alone_46 rfl (lv_at hl 5 rfl) ?_
        refine lv_iload hx hb d_Mo_alone_47 (lv_at hl 1 rfl) ?_
        refine k_icmp_ge (tgt := 61) hx hb d_Mo_alone_49 (by decide) ⟨by omega, by omega⟩ ⟨by omega, by omega⟩ (fun c_49 => ?_) (fun c_49 => ?_)
        · refine lv_iload hx hb d_Mo_alone_61 (lv_at hl 0 rfl) ?_
          refine lv_bipush (v := zI 10) hx hb d_Mo_alone_63 (by decide) ?_
          refine k_icmp_ne (tgt := 87) hx hb d_Mo_alone_65 (by decide) ⟨by omega, by omega⟩ ⟨by omega, by omega⟩ (fun c_65 => ?_) (fun c_65 => ?_)
          · have e9 : mAlone (K k) (nu k) (fun z => G (30 * o + z)) F i j = F := by unfold mAlone; (repeat' split); all_goals first | rfl | (exfalso; omega) | (congr 1 <;> omega) | (exfalso; rename_i h8 _; rcases h8 with h8 | ⟨_, h8⟩ | h8 <;> first | omega | contradiction) | (exfalso; rename_i h8; apply h8; first | exact Or.inl (by omega) | exact Or.inr (Or.inl ⟨by omega, by assumption⟩) | exact Or.inr (Or.inr (by omega)))
            replace hP : va_P D k_cl [(w 0, .inr (4, [.ref (w 1), .int (zI ↑n), .ref (w 2), .ref (w 3), .ref (w 4), .ref (w 5), .int (zI ↑np), .ref (w 6), .ref (w 7), .int (zI ↑kn), .ref (w 8), .ref (w 9), .ref (w 10), .int (zI ↑ch), .int (zI le), .ref (w 11), .int (zI sf), .int (zI st), .ref (w 12)])), (w 2, .inl (cI, 30, .inl (kA K))), (w 4, .inl (cI, 30, .inl (kZ ot))), (w 5, .inl (cI, 30, .inl (kZ nu))), (w 8, .inl (cI, 900, .inl (kM G))), (w 9, .inl (cI, 30, .inl (kM (mAlone (K k) (nu k) (fun z => G (30 * o + z)) F i j))))] s.heap := by rw [e9]; exact hP
            rw [← hQf]
            exact k_vret hx hb hr hlocks hP hS d_Mo_alone_87
          · have h10 := hn10 (by omega)
            refine lv_aload_n hx hb d_Mo_alone_68 rfl (lv_at hl 2 rfl) ?_
            refine lv_iload_n hx hb d_Mo_alone_69 rfl (lv_at hl 4 rfl) ?_
            refine lv_iload hx hb d_Mo_alone_70 (lv_at hl 1 rfl) ?_
            refine k_icmp_ge (tgt := 79) hx hb d_Mo_alone_72 (by decide) ⟨by omega, by omega⟩ ⟨by omega, by omega⟩ (fun c_72 => ?_) (fun c_72 => ?_)
            · refine lv_iload_n hx hb d_Mo_alone_79 rfl (lv_at hl 4 rfl) ?_
              refine lv_iload hx hb d_Mo_alone_80 (lv_at hl 1 rfl) ?_
              refine k_isub (v := ↑((↑i - nu k).toNat)) hx hb d_Mo_alone_82 (by omega) ?_
              refine lv_iload_n hx hb d_Mo_alone_83 rfl (lv_at hl 5 rfl) ?_
              refine k_beV (va_runV (As := [.int (zI (↑((↑i - nu k).toNat))), .int (zI ↑j)]) (rest := []) ⟨hx, hb, hml, hown, hkw⟩ (c_Mo_comes l D cI cR cG w n np kn ch le sf st ((↑i - nu k).toNat) j F (by omega) (by omega) hF _) (cwV 2 hkw (k_gV kw_methodLink_Mo_64 kw_instanceMethod_Mo_comes kw_selects_Mo_comes kw_initialized_Mo kw_code_Mo_comes) rfl rfl rfl (by decide +kernel) ⟨(Nat.le_of_ble_eq_true rfl), (Nat.le_of_ble_eq_true rfl)⟩) (k_preV (q0 := 0) hK hG hP hD [0, 5] rfl rfl rfl rfl) rfl rfl hl.1 rfl (lv_room (Nat.le_of_ble_eq_true rfl)) d_Mo_alone_84 ⟨Nat.zero_le _, Nat.zero_le _⟩) hP hD hS hA [0, 5] rfl (Eq.trans (b := [w 0, w 9]) rfl rfl) ?_
              clear hP hD hS; intro H locs hP hD hS
              replace hP : va_P D k_cl ([(w 0, .inr (4, [.ref (w 1), .int (zI ↑n), .ref (w 2), .ref (w 3), .ref (w 4), .ref (w 5), .int (zI ↑np), .ref (w 6), .ref (w 7), .int (zI ↑kn), .ref (w 8), .ref (w 9), .ref (w 10), .int (zI ↑ch), .int (zI le), .ref (w 11), .int (zI sf), .int (zI st), .ref (w 12)])), (w 2, .inl (cI, 30, .inl (kA K))), (w 4, .inl (cI, 30, .inl (kZ ot))), (w 5, .inl (cI, 30, .inl (kZ nu))), (w 8, .inl (cI, 900, .inl (kM G))), (w 9, .inl (cI, 30, .inl (kM (rAdd F ((↑i - nu k).toNat) j))))]) H := hP
              replace hD : va_D A ([(w 0, .inr (4, [.ref (w 1), .int (zI ↑n), .ref (w 2), .ref (w 3), .ref (w 4), .ref (w 5), .int (zI ↑np), .ref (w 6), .ref (w 7), .int (zI ↑kn), .ref (w 8), .ref (w 9), .ref (w 10), .int (zI ↑ch), .int (zI le), .ref (w 11), .int (zI sf), .int (zI st), .ref (w 12)])), (w 2, .inl (cI, 30, .inl (kA K))), (w 4, .inl (cI, 30, .inl (kZ ot))), (w 5, .inl (cI, 30, .inl (kZ nu))), (w 8, .inl (cI, 900, .inl (kM G))), (w 9, .inl (cI, 30, .inl (kM (rAdd F ((↑i - nu k).toNat) j))))]) := hD
              have e9 : mAlone (K k) (nu k) (fun z => G (30 * o + z)) F i j = rAdd F ((↑i - nu k).toNat) j := by unfold mAlone; (repeat' split); all_goals first | rfl | (exfalso; omega) | (congr 1 <;> omega) | (exfalso; rename_i h8 _; rcases h8 with h8 | ⟨_, h8⟩ | h8 <;> first | omega | contradiction) | (exfalso; rename_i h8; apply h8; first | exact Or.inl (by omega) | exact Or.inr (Or.inl ⟨by omega, by assumption⟩) | exact Or.inr (Or.inr (by omega)))
              replace hP : va_P D k_cl [(w 0, .inr (4, [.ref (w 1), .int (zI ↑n), .ref (w 2), .ref (w 3), .ref (w 4), .ref (w 5), .int (zI ↑np), .ref (w 6), .ref (w 7), .int (zI ↑kn), .ref (w 8), .ref (w 9), .ref (w 10), .int (zI ↑ch), .int (zI le), .ref (w 11), .int (zI sf), .int (zI st), .ref (w 12)])), (w 2, .inl (cI, 30, .inl (kA K))), (w 4, .inl (cI, 30, .inl (kZ ot))), (w 5, .inl (cI, 30, .inl (kZ nu))), (w 8, .inl (cI, 900, .inl (kM G))), (w 9, .inl (cI, 30, .inl (kM (mAlone (K k) (nu k) (fun z => G (30 * o + z)) F i j))))] H := by rw [e9]; exact hP
              rw [← hQf]
              exact k_vret hx hb hr hlocks hP hS d_Mo_alone_87
            · refine lv_iconst (v := zI 0) hx hb d_Mo_alone_75 (by decide) ?_
              refine lv_goto (tgt := 83) hx hb d_Mo_alone_76 (by decide) ?_
              refine lv_iload_n hx hb d_Mo_alone_83 rfl (lv_at hl 5 rfl) ?_
              refine k_stk (st2 := [.int (zI ↑j), .int (zI ↑0), .ref (w 0)]) (by rw [show (0 : Int) = ↑0 from by omega]) ?_
              refine k_beV (va_runV (As := [.int (zI ↑0), .int (zI ↑j)]) (rest := []) ⟨hx, hb, hml, hown, hkw⟩ (c_Mo_comes l D cI cR cG w n np kn ch le sf st 0 j F (by omega) (by omega) hF _) (cwV 2 hkw (k_gV kw_methodLink_Mo_64 kw_instanceMethod_Mo_comes kw_selects_Mo_comes kw_initialized_Mo kw_code_Mo_comes) rfl rfl rfl (by decide +kernel) ⟨(Nat.le_of_ble_eq_true rfl), (Nat.le_of_ble_eq_true rfl)⟩) (k_preV (q0 := 0) hK hG hP hD [0, 5] rfl rfl rfl rfl) rfl rfl hl.1 rfl (lv_room (Nat.le_of_ble_eq_true rfl)) d_Mo_alone_84 ⟨Nat.zero_le _, Nat.zero_le _⟩) hP hD hS hA [0, 5] rfl (Eq.trans (b := [w 0, w 9]) rfl rfl) ?_
              clear hP hD hS; intro H locs hP hD hS
              replace hP : va_P D k_cl ([(w 0, .inr (4, [.ref (w 1), .int (zI ↑n), .ref (w 2), .ref (w 3), .ref (w 4), .ref (w 5), .int (zI ↑np), .ref (w 6), .ref (w 7), .int (zI ↑kn), .ref (w 8), .ref (w 9), .ref (w 10), .int (zI ↑ch), .int (zI le), .ref (w 11), .int (zI sf), .int (zI st), .ref (w 12)])), (w 2, .inl (cI, 30, .inl (kA K))), (w 4, .inl (cI, 30, .inl (kZ ot))), (w 5, .inl (cI, 30, .inl (kZ nu))), (w 8, .inl (cI, 900, .inl (kM G))), (w 9, .inl (cI, 30, .inl (kM (rAdd F 0 j))))]) H := hP
              replace hD : va_D A ([(w 0, .inr (4, [.ref (w 1), .int (zI ↑n), .ref (w 2), .ref (w 3), .ref (w 4), .ref (w 5), .int (zI ↑np), .ref (w 6), .ref (w 7), .int (zI ↑kn), .ref (w 8), .ref (w 9), .ref (w 10), .int (zI ↑ch), .int (zI le), .ref (w 11), .int (zI sf), .int (zI st), .ref (w 12)])), (w 2, .inl (cI, 30, .inl (kA K))), (w 4, .inl (cI, 30, .inl (kZ ot))), (w 5, .inl (cI, 30, .inl (kZ nu))), (w 8, .inl (cI, 900, .inl (kM G))), (w 9, .inl (cI, 30, .inl (kM (rAdd F 0 j))))]) := hD
              have e9 : mAlone (K k) (nu k) (fun z => G (30 * o + z)) F i j = rAdd F 0 j := by unfold mAlone; (repeat' split); all_goals first | rfl | (exfalso; omega) | (congr 1 <;> omega) | (exfalso; rename_i h8 _; rcases h8 with h8 | ⟨_, h8⟩ | h8 <;> first | omega | contradiction) | (exfalso; rename_i h8; apply h8; first | exact Or.inl (by omega) | exact Or.inr (Or.inl ⟨by omega, by assumption⟩) | exact Or.inr (Or.inr (by omega)))
              replace hP : va_P D k_cl [(w 0, .inr (4, [.ref (w 1), .int (zI ↑n), .ref (w 2), .ref (w 3), .ref (w 4), .ref (w 5), .int (zI ↑np), .ref (w 6), .ref (w 7), .int (zI ↑kn), .ref (w 8), .ref (w 9), .ref (w 10), .int (zI ↑ch), .int (zI le), .ref (w 11), .int (zI sf), .int (zI st), .ref (w 12)])), (w 2, .inl (cI, 30, .inl (kA K))), (w 4, .inl (cI, 30, .inl (kZ ot))), (w 5, .inl (cI, 30, .inl (kZ nu))), (w 8, .inl (cI, 900, .inl (kM G))), (w 9, .inl (cI, 30, .inl (kM (mAlone (K k) (nu k) (fun z => G (30 * o + z)) F i j))))] H := by rw [e9]; exact hP
              rw [← hQf]
              exact k_vret hx hb hr hlocks hP hS d_Mo_alone_87
        · refine lv_aload_n hx hb d_Mo_alone_52 rfl (lv_at hl 2 rfl) ?_
          refine lv_iload_n hx hb d_Mo_alone_53 rfl (lv_at hl 4 rfl) ?_
          refine lv_iload_n hx hb d_Mo_alone_54 rfl (lv_at hl 5 rfl) ?_
          refine k_beV (va_runV (As := [.int (zI ↑i), .int (zI ↑j)]) (rest := []) ⟨hx, hb, hml, hown, hkw⟩ (c_Mo_comes l D cI cR cG w n np kn ch le sf st i j F (by omega) (by omega) hF _) (cwV 2 hkw (k_gV kw_methodLink_Mo_64 kw_instanceMethod_Mo_comes kw_selects_Mo_comes kw_initialized_Mo kw_code_Mo_comes) rfl rfl rfl (by decide +kernel) ⟨(Nat.le_of_ble_eq_true rfl), (Nat.le_of_ble_eq_true rfl)⟩) (k_preV (q0 := 0) hK hG hP hD [0, 5] rfl rfl rfl rfl) rfl rfl hl.1 rfl (lv_room (Nat.le_of_ble_eq_true rfl)) d_Mo_alone_55 ⟨Nat.zero_le _, Nat.zero_le _⟩) hP hD hS hA [0, 5] rfl (Eq.trans (b := [w 0, w 9]) rfl rfl) ?_
          clear hP hD hS; intro H locs hP hD hS
          replace hP : va_P D k_cl ([(w 0, .inr (4, [.ref (w 1), .int (zI ↑n), .ref (w 2), .ref (w 3), .ref (w 4), .ref (w 5), .int (zI ↑np), .ref (w 6), .ref (w 7), .int (zI ↑kn), .ref (w 8), .ref (w 9), .ref (w 10), .int (zI ↑ch), .int (zI le), .ref (w 11), .int (zI sf), .int (zI st), .ref (w 12)])), (w 2, .inl (cI, 30, .inl (kA K))), (w 4, .inl (cI, 30, .inl (kZ ot))), (w 5, .inl (cI, 30, .inl (kZ nu))), (w 8, .inl (cI, 900, .inl (kM G))), (w 9, .inl (cI, 30, .inl (kM (rAdd F i j))))]) H := hP
          replace hD : va_D A ([(w 0, .inr (4, [.ref (w 1), .int (zI ↑n), .ref (w 2), .ref (w 3), .ref (w 4), .ref (w 5), .int (zI ↑np), .ref (w 6), .ref (w 7), .int (zI ↑kn), .ref (w 8), .ref (w 9), .ref (w 10), .int (zI ↑ch), .int (zI le), .ref (w 11), .int (zI sf), .int (zI st), .ref (w 12)])), (w 2, .inl (cI, 30, .inl (kA K))), (w 4, .inl (cI, 30, .inl (kZ ot))), (w 5, .inl (cI, 30, .inl (kZ nu))), (w 8, .inl (cI, 900, .inl (kM G))), (w 9, .inl (cI, 30, .inl (kM (rAdd F i j))))]) := hD
          refine lv_goto (tgt := 87) hx hb d_Mo_alone_58 (by decide) ?_
          have e9 : mAlone (K k) (nu k) (fun z => G (30 * o + z)) F i j = rAdd F i j := by unfold mAlone; (repeat' split); all_goals first | rfl | (exfalso; omega) | (congr 1 <;> omega) | (exfalso; rename_i h8 _; rcases h8 with h8 | ⟨_, h8⟩ | h8 <;> first | omega | contradiction) | (exfalso; rename_i h8; apply h8; first | exact Or.inl (by omega) | exact Or.inr (Or.inl ⟨by omega, by assumption⟩) | exact Or.inr (Or.inr (by omega)))
          replace hP : va_P D k_cl [(w 0, .inr (4, [.ref (w 1), .int (zI ↑n), .ref (w 2), .ref (w 3), .ref (w 4), .ref (w 5), .int (zI ↑np), .ref (w 6), .ref (w 7), .int (zI ↑kn), .ref (w 8), .ref (w 9), .ref (w 10), .int (zI ↑ch), .int (zI le), .ref (w 11), .int (zI sf), .int (zI st), .ref (w 12)])), (w 2, .inl (cI, 30, .inl (kA K))), (w 4, .inl (cI, 30, .inl (kZ ot))), (w 5, .inl (cI, 30, .inl (kZ nu))), (w 8, .inl (cI, 900, .inl (kM G))), (w 9, .inl (cI, 30, .inl (kM (mAlone (K k) (nu k) (fun z => G (30 * o + z)) F i j))))] H := by rw [e9]; exact hP
          rw [← hQf]
          exact k_vret hx hb hr hlocks hP hS d_Mo_alone_87
    · refine lv_aload_n hx hb d_Mo_alone_29 rfl (lv_at hl 2 rfl) ?_
      refine lv_iload_n hx hb d_Mo_alone_30 rfl (lv_at hl 3 rfl) ?_
      refine lv_iload_n hx hb d_Mo_alone_31 rfl (lv_at hl 4 rfl) ?_
      refine lv_iload_n hx hb d_Mo_alone_32 rfl (lv_at hl 5 rfl) ?_
      refine k_beI (va_runV (As := [.int (zI ↑k), .int (zI ↑i), .int (zI ↑j)]) (rest := []) ⟨hx, hb, hml, hown, hkw⟩ (c_Mo_isFar l D cI cR cG w n np kn ch le sf st k i j o ot nu G (by omega) (by omega) (by omega) (ho (by omega)) hnu hG0 _) (cwV 3 hkw (k_gV kw_methodLink_Mo_72 kw_instanceMethod_Mo_isFar kw_selects_Mo_isFar kw_initialized_Mo kw_code_Mo_isFar) rfl rfl rfl (by decide +kernel) ⟨(Nat.le_of_ble_eq_true rfl), (Nat.le_of_ble_eq_true rfl)⟩) (k_preV (q0 := 0) hK hG hP hD [0, 2, 3, 4] rfl rfl rfl rfl) rfl rfl hl.1 rfl (lv_room (Nat.le_of_ble_eq_true rfl)) d_Mo_alone_33 ⟨Nat.zero_le _, Nat.zero_le _⟩) hP hD hS hA [0, 2, 3, 4] rfl (Eq.trans (b := [w 0, w 4, w 5, w 8]) rfl rfl) ?_
      clear hP hD hS; intro H locs hP hD hS
      replace hP : va_P D k_cl ([(w 0, .inr (4, [.ref (w 1), .int (zI ↑n), .ref (w 2), .ref (w 3), .ref (w 4), .ref (w 5), .int (zI ↑np), .ref (w 6), .ref (w 7), .int (zI ↑kn), .ref (w 8), .ref (w 9), .ref (w 10), .int (zI ↑ch), .int (zI le), .ref (w 11), .int (zI sf), .int (zI st), .ref (w 12)])), (w 2, .inl (cI, 30, .inl (kA K))), (w 4, .inl (cI, 30, .inl (kZ ot))), (w 5, .inl (cI, 30, .inl (kZ nu))), (w 8, .inl (cI, 900, .inl (kM G))), (w 9, .inl (cI, 30, .inl (kM F)))]) H := hP
      replace hD : va_D A ([(w 0, .inr (4, [.ref (w 1), .int (zI ↑n), .ref (w 2), .ref (w 3), .ref (w 4), .ref (w 5), .int (zI ↑np), .ref (w 6), .ref (w 7), .int (zI ↑kn), .ref (w 8), .ref (w 9), .ref (w 10), .int (zI ↑ch), .int (zI le), .ref (w 11), .int (zI sf), .int (zI st), .ref (w 12)])), (w 2, .inl (cI, 30, .inl (kA K))), (w 4, .inl (cI, 30, .inl (kZ ot))), (w 5, .inl (cI, 30, .inl (kZ nu))), (w 8, .inl (cI, 900, .inl (kM G))), (w 9, .inl (cI, 30, .inl (kM F)))]) := hD
      refine k_bif_ne (tgt := 52) hx hb d_Mo_alone_36 (by decide) (fun c_36 => ?_) (fun c_36 => ?_)
      · refine lv_aload_n hx hb d_Mo_alone_52 rfl (lv_at hl 2 rfl) ?_
        refine lv_iload_n hx hb d_Mo_alone_53 rfl (lv_at hl 4 rfl) ?_
        refine lv_iload_n hx hb d_Mo_alone_54 rfl (lv_at hl 5 rfl) ?_
        refine k_beV (va_runV (As := [.int (zI ↑i), .int (zI ↑j)]) (rest := []) ⟨hx, hb, hml, hown, hkw⟩ (c_Mo_comes l D cI cR cG w n np kn ch le sf st i j F (by omega) (by omega) hF _) (cwV 2 hkw (k_gV kw_methodLink_Mo_64 kw_instanceMethod_Mo_comes kw_selects_Mo_comes kw_initialized_Mo kw_code_Mo_comes) rfl rfl rfl (by decide +kernel) ⟨(Nat.le_of_ble_eq_true rfl), (Nat.le_of_ble_eq_true rfl)⟩) (k_preV (q0 := 0) hK hG hP hD [0, 5] rfl rfl rfl rfl) rfl rfl hl.1 rfl (lv_room (Nat.le_of_ble_eq_true rfl)) d_Mo_alone_55 ⟨Nat.zero_le _, Nat.zero_le _⟩) hP hD hS hA [0, 5] rfl (Eq.trans (b := [w 0, w 9]) rfl rfl) ?_
        clear hP hD hS; intro H locs hP hD hS
        replace hP : va_P D k_cl ([(w 0, .inr (4, [.ref (w 1), .int (zI ↑n), .ref (w 2), .ref (w 3), .ref (w 4), .ref (w 5), .int (zI ↑np), .ref (w 6), .ref (w 7), .int (zI ↑kn), .ref (w 8), .ref (w 9), .ref (w 10), .int (zI ↑ch), .int (zI le), .ref (w 11), .int (zI sf), .int (zI st), .ref (w 12)])), (w 2, .inl (cI, 30, .inl (kA K))), (w 4, .inl (cI, 30, .inl (kZ ot))), (w 5, .inl (cI, 30, .inl (kZ nu))), (w 8, .inl (cI, 900, .inl (kM G))), (w 9, .inl (cI, 30, .inl (kM (rAdd F i j))))]) H := hP
        replace hD : va_D A ([(w 0, .inr (4, [.ref (w 1), .int (zI ↑n), .ref (w 2), .ref (w 3), .ref (w 4), .ref (w 5), .int (zI ↑np), .ref (w 6), .ref (w 7), .int (zI ↑kn), .ref (w 8), .ref (w 9), .ref (w 10), .int (zI ↑ch), .int (zI le), .ref (w 11), .int (zI sf), .int (zI st), .ref (w 12)])), (w 2, .inl (cI, 30, .inl (kA K))), (w 4, .inl (cI, 30, .inl (kZ ot))), (w 5, .inl (cI, 30, .inl (kZ nu))), (w 8, .inl (cI, 900, .inl (kM G))), (w 9, .inl (cI, 30, .inl (kM (rAdd F i j))))]) := hD
        refine lv_goto (tgt := 87) hx hb d_Mo_alone_58 (by decide) ?_
        have e9 : mAlone (K k) (nu k) (fun z => G (30 * o + z)) F i j = rAdd F i j := by unfold mAlone; (repeat' split); all_goals first | rfl | (exfalso; omega) | (congr 1 <;> omega) | (exfalso; rename_i h8 _; rcases h8 with h8 | ⟨_, h8⟩ | h8 <;> first | omega | contradiction) | (exfalso; rename_i h8; apply h8; first | exact Or.inl (by omega) | exact Or.inr (Or.inl ⟨by omega, by assumption⟩) | exact Or.inr (Or.inr (by omega)))
        replace hP : va_P D k_cl [(w 0, .inr (4, [.ref (w 1), .int (zI ↑n), .ref (w 2), .ref (w 3), .ref (w 4), .ref (w 5), .int (zI ↑np), .ref (w 6), .ref (w 7), .int (zI ↑kn), .ref (w 8), .ref (w 9), .ref (w 10), .int (zI ↑ch), .int (zI le), .ref (w 11), .int (zI sf), .int (zI st), .ref (w 12)])), (w 2, .inl (cI, 30, .inl (kA K))), (w 4, .inl (cI, 30, .inl (kZ ot))), (w 5, .inl (cI, 30, .inl (kZ nu))), (w 8, .inl (cI, 900, .inl (kM G))), (w 9, .inl (cI, 30, .inl (kM (mAlone (K k) (nu k) (fun z => G (30 * o + z)) F i j))))] H := by rw [e9]; exact hP
        rw [← hQf]
        exact k_vret hx hb hr hlocks hP hS d_Mo_alone_87
      · refine lv_iload hx hb d_Mo_alone_39 (lv_at hl 0 rfl) ?_
        refine lv_bipush (v := zI 9) hx hb d_Mo_alone_41 (by decide) ?_
        refine k_icmp_ne (tgt := 61) hx hb d_Mo_alone_43 (by decide) ⟨by omega, by omega⟩ ⟨by omega, by omega⟩ (fun c_43 => ?_) (fun c_43 => ?_)
        · refine lv_iload hx hb d_Mo_alone_61 (lv_at hl 0 rfl) ?_
          refine lv_bipush (v := zI 10) hx hb d_Mo_alone_63 (by decide) ?_
          refine k_icmp_ne (tgt := 87) hx hb d_Mo_alone_65 (by decide) ⟨by omega, by omega⟩ ⟨by omega, by omega⟩ (fun c_65 => ?_) (fun c_65 => ?_)
          · have e9 : mAlone (K k) (nu k) (fun z => G (30 * o + z)) F i j = F := by unfold mAlone; (repeat' split); all_goals first | rfl | (exfalso; omega) | (congr 1 <;> omega) | (exfalso; rename_i h8 _; rcases h8 with h8 | ⟨_, h8⟩ | h8 <;> first | omega | contradiction) | (exfalso; rename_i h8; apply h8; first | exact Or.inl (by omega) | exact Or.inr (Or.inl ⟨by omega, by assumption⟩) | exact Or.inr (Or.inr (by omega)))
            replace hP : va_P D k_cl [(w 0, .inr (4, [.ref (w 1), .int (zI ↑n), .ref (w 2), .ref (w 3), .ref (w 4), .ref (w 5), .int (zI ↑np), .ref (w 6), .ref (w 7), .int (zI ↑kn), .ref (w 8), .ref (w 9), .ref (w 10), .int (zI ↑ch), .int (zI le), .ref (w 11), .int (zI sf), .int (zI st), .ref (w 12)])), (w 2, .inl (cI, 30, .inl (kA K))), (w 4, .inl (cI, 30, .inl (kZ ot))), (w 5, .inl (cI, 30, .inl (kZ nu))), (w 8, .inl (cI, 900, .inl (kM G))), (w 9, .inl (cI, 30, .inl (kM (mAlone (K k) (nu k) (fun z => G (30 * o + z)) F i j))))] H := by rw [e9]; exact hP
            rw [← hQf]
            exact k_vret hx hb hr hlocks hP hS d_Mo_alone_87
          · have h10 := hn10 (by omega)
            refine lv_aload_n hx hb d_Mo_alone_68 rfl (lv_at hl 2 rfl) ?_
            refine lv_iload_n hx hb d_Mo_alone_69 rfl (lv_at hl 4 rfl) ?_
            refine lv_iload hx hb d_Mo_alone_70 (lv_at hl 1 rfl) ?_
            refine k_icmp_ge (tgt := 79) hx hb d_Mo_alone_72 (by decide) ⟨by omega, by omega⟩ ⟨by omega, by omega⟩ (fun c_72 => ?_) (fun c_72 => ?_)
            · refine lv_iload_n hx hb d_Mo_alone_79 rfl (lv_at hl 4 rfl) ?_
              refine lv_iload hx hb d_Mo_alone_80 (lv_at hl 1 rfl) ?_
              refine k_isub (v := ↑((↑i - nu k).toNat)) hx hb d_Mo_alone_82 (by omega) ?_
              refine lv_iload_n hx hb d_Mo_alone_83 rfl (lv_at hl 5 rfl) ?_
              refine k_beV (va_runV (As := [.int (zI (↑((↑i - nu k).toNat))), .int (zI ↑j)]) (rest := []) ⟨hx, hb, hml, hown, hkw⟩ (c_Mo_comes l D cI cR cG w n np kn ch le sf st ((↑i - nu k).toNat) j F (by omega) (by omega) hF _) (cwV 2 hkw (k_gV kw_methodLink_Mo_64 kw_instanceMethod_Mo_comes kw_selects_Mo_comes kw_initialized_Mo kw_code_Mo_comes) rfl rfl rfl (by decide +kernel) ⟨(Nat.le_of_ble_eq_true rfl), (Nat.le_of_ble_eq_true rfl)⟩) (k_preV (q0 := 0) hK hG hP hD [0, 5] rfl rfl rfl rfl) rfl rfl hl.1 rfl (lv_room (Nat.le_of_ble_eq_true rfl)) d_Mo_alone_84 ⟨Nat.zero_le _, Nat.zero_le _⟩) hP hD hS hA [0, 5] rfl (Eq.trans (b := [w 0, w 9]) rfl rfl) ?_
              clear hP hD hS; intro H locs hP hD hS
              replace hP : va_P D k_cl ([(w 0, .inr (4, [.ref (w 1), .int (zI ↑n), .ref (w 2), .ref (w 3), .ref (w 4), .ref (w 5), .int (zI ↑np), .ref (w 6), .ref (w 7), .int (zI ↑kn), .ref (w 8), .ref (w 9), .ref (w 10), .int (zI ↑ch), .int (zI le), .ref (w 11), .int (zI sf), .int (zI st), .ref (w 12)])), (w 2, .inl (cI, 30, .inl (kA K))), (w 4, .inl (cI, 30, .inl (kZ ot))), (w 5, .inl (cI, 30, .inl (kZ nu))), (w 8, .inl (cI, 900, .inl (kM G))), (w 9, .inl (cI, 30, .inl (kM (rAdd F ((↑i - nu k).toNat) j))))]) H := hP
              replace hD : va_D A ([(w 0, .inr (4, [.ref (w 1), .int (zI ↑n), .ref (w 2), .ref (w 3), .ref (w 4), .ref (w 5), .int (zI ↑np), .ref (w 6), .ref (w 7), .int (zI ↑kn), .ref (w 8), .ref (w 9), .ref (w 10), .int (zI ↑ch), .int (zI le), .ref (w 11), .int (zI sf), .int (zI st), .ref (w 12)])), (w 2, .inl (cI, 30, .inl (kA K))), (w 4, .inl (cI, 30, .inl (kZ ot))), (w 5, .inl (cI, 30, .inl (kZ nu))), (w 8, .inl (cI, 900, .inl (kM G))), (w 9, .inl (cI, 30, .inl (kM (rAdd F ((↑i - nu k).toNat) j))))]) := hD
              have e9 : mAlone (K k) (nu k) (fun z => G (30 * o + z)) F i j = rAdd F ((↑i - nu k).toNat) j := by unfold mAlone; (repeat' split); all_goals first | rfl | (exfalso; omega) | (congr 1 <;> omega) | (exfalso; rename_i h8 _; rcases h8 with h8 | ⟨_, h8⟩ | h8 <;> first | omega | contradiction) | (exfalso; rename_i h8; apply h8; first | exact Or.inl (by omega) | exact Or.inr (Or.inl ⟨by omega, by assumption⟩) | exact Or.inr (Or.inr (by omega)))
              replace hP : va_P D k_cl [(w 0, .inr (4, [.ref (w 1), .int (zI ↑n), .ref (w 2), .ref (w 3), .ref (w 4), .ref (w 5), .int (zI ↑np), .ref (w 6), .ref (w 7), .int (zI ↑kn), .ref (w 8), .ref (w 9), .ref (w 10), .int (zI ↑ch), .int (zI le), .ref (w 11), .int (zI sf), .int (zI st), .ref (w 12)])), (w 2, .inl (cI, 30, .inl (kA K))), (w 4, .inl (cI, 30, .inl (kZ ot))), (w 5, .inl (cI, 30, .inl (kZ nu))), (w 8, .inl (cI, 900, .inl (kM G))), (w 9, .inl (cI, 30, .inl (kM (mAlone (K k) (nu k) (fun z => G (30 * o + z)) F i j))))] H := by rw [e9]; exact hP
              rw [← hQf]
              exact k_vret hx hb hr hlocks hP hS d_Mo_alone_87
            · refine lv_iconst (v := zI 0) hx hb d_Mo_alone_75 (by decide) ?_
              refine lv_goto (tgt := 83) hx hb d_Mo_alone_76 (by decide) ?_
              refine lv_iload_n hx hb d_Mo_alone_83 rfl (lv_at hl 5 rfl) ?_
              refine k_stk (st2 := [.int (zI ↑j), .int (zI ↑0), .ref (w 0)]) (by rw [show (0 : Int) = ↑0 from by omega]) ?_
              refine k_beV (va_runV (As := [.int (zI ↑0), .int (zI ↑j)]) (rest := []) ⟨hx, hb, hml, hown, hkw⟩ (c_Mo_comes l D cI cR cG w n np kn ch le sf st 0 j F (by omega) (by omega) hF _) (cwV 2 hkw (k_gV kw_methodLink_Mo_64 kw_instanceMethod_Mo_comes kw_selects_Mo_comes kw_initialized_Mo kw_code_Mo_comes) rfl rfl rfl (by decide +kernel) ⟨(Nat.le_of_ble_eq_true rfl), (Nat.le_of_ble_eq_true rfl)⟩) (k_preV (q0 := 0) hK hG hP hD [0, 5] rfl rfl rfl rfl) rfl rfl hl.1 rfl (lv_room (Nat.le_of_ble_eq_true rfl)) d_Mo_alone_84 ⟨Nat.zero_le _, Nat.zero_le _⟩) hP hD hS hA [0, 5] rfl (Eq.trans (b := [w 0, w 9]) rfl rfl) ?_
              clear hP hD hS; intro H locs hP hD hS
              replace hP : va_P D k_cl ([(w 0, .inr (4, [.ref (w 1), .int (zI ↑n), .ref (w 2), .ref (w 3), .ref (w 4), .ref (w 5), .int (zI ↑np), .ref (w 6), .ref (w 7), .int (zI ↑kn), .ref (w 8), .ref (w 9), .ref (w 10), .int (zI ↑ch), .int (zI le), .ref (w 11), .int (zI sf), .int (zI st), .ref (w 12)])), (w 2, .inl (cI, 30, .inl (kA K))), (w 4, .inl (cI, 30, .inl (kZ ot))), (w 5, .inl (cI, 30, .inl (kZ nu))), (w 8, .inl (cI, 900, .inl (kM G))), (w 9, .inl (cI, 30, .inl (kM (rAdd F 0 j))))]) H := hP
              replace hD : va_D A ([(w 0, .inr (4, [.ref (w 1), .int (zI ↑n), .ref (w 2), .ref (w 3), .ref (w 4), .ref (w 5), .int (zI ↑np), .ref (w 6), .ref (w 7), .int (zI ↑kn), .ref (w 8), .ref (w 9), .ref (w 10), .int (zI ↑ch), .int (zI le), .ref (w 11), .int (zI sf), .int (zI st), .ref (w 12)])), (w 2, .inl (cI, 30, .inl (kA K))), (w 4, .inl (cI, 30, .inl (kZ ot))), (w 5, .inl (cI, 30, .inl (kZ nu))), (w 8, .inl (cI, 900, .inl (kM G))), (w 9, .inl (cI, 30, .inl (kM (rAdd F 0 j))))]) := hD
              have e9 : mAlone (K k) (nu k) (fun z => G (30 * o + z)) F i j = rAdd F 0 j := by unfold mAlone; (repeat' split); all_goals first | rfl | (exfalso; omega) | (congr 1 <;> omega) | (exfalso; rename_i h8 _; rcases h8 with h8 | ⟨_, h8⟩ | h8 <;> first | omega | contradiction) | (exfalso; rename_i h8; apply h8; first | exact Or.inl (by omega) | exact Or.inr (Or.inl ⟨by omega, by assumption⟩) | exact Or.inr (Or.inr (by omega)))
              replace hP : va_P D k_cl [(w 0, .inr (4, [.ref (w 1), .int (zI ↑n), .ref (w 2), .ref (w 3), .ref (w 4), .ref (w 5), .int (zI ↑np), .ref (w 6), .ref (w 7), .int (zI ↑kn), .ref (w 8), .ref (w 9), .ref (w 10), .int (zI ↑ch), .int (zI le), .ref (w 11), .int (zI sf), .int (zI st), .ref (w 12)])), (w 2, .inl (cI, 30, .inl (kA K))), (w 4, .inl (cI, 30, .inl (kZ ot))), (w 5, .inl (cI, 30, .inl (kZ nu))), (w 8, .inl (cI, 900, .inl (kM G))), (w 9, .inl (cI, 30, .inl (kM (mAlone (K k) (nu k) (fun z => G (30 * o + z)) F i j))))] H := by rw [e9]; exact hP
              rw [← hQf]
              exact k_vret hx hb hr hlocks hP hS d_Mo_alone_87
        · refine lv_iload_n hx hb d_Mo_alone_46 rfl (lv_at hl 5 rfl) ?_
          refine lv_iload hx hb d_Mo_alone_47 (lv_at hl 1 rfl) ?_
          refine k_icmp_ge (tgt := 61) hx hb d_Mo_alone_49 (by decide) ⟨by omega, by omega⟩ ⟨by omega, by omega⟩ (fun c_49 => ?_) (fun c_49 => ?_)
          · refine lv_iload hx hb d_Mo_alone_61 (lv_at hl 0 rfl) ?_
            refine lv_bipush (v := zI 10) hx hb d_Mo_alone_63 (by decide) ?_
            refine k_icmp_ne (tgt := 87) hx hb d_Mo_alone_65 (by decide) ⟨by omega, by omega⟩ ⟨by omega, by omega⟩ (fun c_65 => ?_) (fun c_65 => ?_)
            · have e9 : mAlone (K k) (nu k) (fun z => G (30 * o + z)) F i j = F := by unfold mAlone; (repeat' split); all_goals first | rfl | (exfalso; omega) | (congr 1 <;> omega) | (exfalso; rename_i h8 _; rcases h8 with h8 | ⟨_, h8⟩ | h8 <;> first | omega | contradiction) | (exfalso; rename_i h8; apply h8; first | exact Or.inl (by omega) | exact Or.inr (Or.inl ⟨by omega, by assumption⟩) | exact Or.inr (Or.inr (by omega)))
              replace hP : va_P D k_cl [(w 0, .inr (4, [.ref (w 1), .int (zI ↑n), .ref (w 2), .ref (w 3), .ref (w 4), .ref (w 5), .int (zI ↑np), .ref (w 6), .ref (w 7), .int (zI ↑kn), .ref (w 8), .ref (w 9), .ref (w 10), .int (zI ↑ch), .int (zI le), .ref (w 11), .int (zI sf), .int (zI st), .ref (w 12)])), (w 2, .inl (cI, 30, .inl (kA K))), (w 4, .inl (cI, 30, .inl (kZ ot))), (w 5, .inl (cI, 30, .inl (kZ nu))), (w 8, .inl (cI, 900, .inl (kM G))), (w 9, .inl (cI, 30, .inl (kM (mAlone (K k) (nu k) (fun z => G (30 * o + z)) F i j))))] H := by rw [e9]; exact hP
              rw [← hQf]
              exact k_vret hx hb hr hlocks hP hS d_Mo_alone_87
            · have h10 := hn10 (by omega)
              refine lv_aload_n hx hb d_Mo_alone_68 rfl (lv_at hl 2 rfl) ?_
              refine lv_iload_n hx hb d_Mo_alone_69 rfl (lv_at hl 4 rfl) ?_
              refine lv_iload hx hb d_Mo_alone_70 (lv_at hl 1 rfl) ?_
              refine k_icmp_ge (tgt := 79) hx hb d_Mo_alone_72 (by decide) ⟨by omega, by omega⟩ ⟨by omega, by omega⟩ (fun c_72 => ?_) (fun c_72 => ?_)
              · refine lv_iload_n hx hb d_Mo_alone_79 rfl (lv_at hl 4 rfl) ?_
                refine lv_iload hx hb d_Mo_alone_80 (lv_at hl 1 rfl) ?_
                refine k_isub (v := ↑((↑i - nu k).toNat)) hx hb d_Mo_alone_82 (by omega) ?_
                refine lv_iload_n hx hb d_Mo_alone_83 rfl (lv_at hl 5 rfl) ?_
                refine k_beV (va_runV (As := [.int (zI (↑((↑i - nu k).toNat))), .int (zI ↑j)]) (rest := []) ⟨hx, hb, hml, hown, hkw⟩ (c_Mo_comes l D cI cR cG w n np kn ch le sf st ((↑i - nu k).toNat) j F (by omega) (by omega) hF _) (cwV 2 hkw (k_gV kw_methodLink_Mo_64 kw_instanceMethod_Mo_comes kw_selects_Mo_comes kw_initialized_Mo kw_code_Mo_comes) rfl rfl rfl (by decide +kernel) ⟨(Nat.le_of_ble_eq_true rfl), (Nat.le_of_ble_eq_true rfl)⟩) (k_preV (q0 := 0) hK hG hP hD [0, 5] rfl rfl rfl rfl) rfl rfl hl.1 rfl (lv_room (Nat.le_of_ble_eq_true rfl)) d_Mo_alone_84 ⟨Nat.zero_le _, Nat.zero_le _⟩) hP hD hS hA [0, 5] rfl (Eq.trans (b := [w 0, w 9]) rfl rfl) ?_
                clear hP hD hS; intro H locs hP hD hS
                replace hP : va_P D k_cl ([(w 0, .inr (4, [.ref (w 1), .int (zI ↑n), .ref (w 2), .ref (w 3), .ref (w 4), .ref (w 5), .int (zI ↑np), .ref (w 6), .ref (w 7), .int (zI ↑kn), .ref (w 8), .ref (w 9), .ref (w 10), .int (zI ↑ch), .int (zI le), .ref (w 11), .int (zI sf), .int (zI st), .ref (w 12)])), (w 2, .inl (cI, 30, .inl (kA K))), (w 4, .inl (cI, 30, .inl (kZ ot))), (w 5, .inl (cI, 30, .inl (kZ nu))), (w 8, .inl (cI, 900, .inl (kM G))), (w 9, .inl (cI, 30, .inl (kM (rAdd F ((↑i - nu k).toNat) j))))]) H := hP
                replace hD : va_D A ([(w 0, .inr (4, [.ref (w 1), .int (zI ↑n), .ref (w 2), .ref (w 3), .ref (w 4), .ref (w 5), .int (zI ↑np), .ref (w 6), .ref (w 7), .int (zI ↑kn), .ref (w 8), .ref (w 9), .ref (w 10), .int (zI ↑ch), .int (zI le), .ref (w 11), .int (zI sf), .int (zI st), .ref (w 12)])), (w 2, .inl (cI, 30, .inl (kA K))), (w 4, .inl (cI, 30, .inl (kZ ot))), (w 5, .inl (cI, 30, .inl (kZ nu))), (w 8, .inl (cI, 900, .inl (kM G))), (w 9, .inl (cI, 30, .inl (kM (rAdd F ((↑i - nu k).toNat) j))))]) := hD
                have e9 : mAlone (K k) (nu k) (fun z => G (30 * o + z)) F i j = rAdd F ((↑i - nu k).toNat) j := by unfold mAlone; (repeat' split); all_goals first | rfl | (exfalso; omega) | (congr 1 <;> omega) | (exfalso; rename_i h8 _; rcases h8 with h8 | ⟨_, h8⟩ | h8 <;> first | omega | contradiction) | (exfalso; rename_i h8; apply h8; first | exact Or.inl (by omega) | exact Or.inr (Or.inl ⟨by omega, by assumption⟩) | exact Or.inr (Or.inr (by omega)))
                replace hP : va_P D k_cl [(w 0, .inr (4, [.ref (w 1), .int (zI ↑n), .ref (w 2), .ref (w 3), .ref (w 4), .ref (w 5), .int (zI ↑np), .ref (w 6), .ref (w 7), .int (zI ↑kn), .ref (w 8), .ref (w 9), .ref (w 10), .int (zI ↑ch), .int (zI le), .ref (w 11), .int (zI sf), .int (zI st), .ref (w 12)])), (w 2, .inl (cI, 30, .inl (kA K))), (w 4, .inl (cI, 30, .inl (kZ ot))), (w 5, .inl (cI, 30, .inl (kZ nu))), (w 8, .inl (cI, 900, .inl (kM G))), (w 9, .inl (cI, 30, .inl (kM (mAlone (K k) (nu k) (fun z => G (30 * o + z)) F i j))))] H := by rw [e9]; exact hP
                rw [← hQf]
                exact k_vret hx hb hr hlocks hP hS d_Mo_alone_87
              · refine lv_iconst (v := zI 0) hx hb d_Mo_alone_75 (by decide) ?_
                refine lv_goto (tgt := 83) hx hb d_Mo_alone_76 (by decide) ?_
                refine lv_iload_n hx hb d_Mo_alone_83 rfl (lv_at hl 5 rfl) ?_
                refine k_stk (st2 := [.int (zI ↑j), .int (zI ↑0), .ref (w 0)]) (by rw [show (0 : Int) = ↑0 from by omega]) ?_
                refine k_beV (va_runV (As := [.int (zI ↑0), .int (zI ↑j)]) (rest := []) ⟨hx, hb, hml, hown, hkw⟩ (c_Mo_comes l D cI cR cG w n np kn ch le sf st 0 j F (by omega) (by omega) hF _) (cwV 2 hkw (k_gV kw_methodLink_Mo_64 kw_instanceMethod_Mo_comes kw_selects_Mo_comes kw_initialized_Mo kw_code_Mo_comes) rfl rfl rfl (by decide +kernel) ⟨(Nat.le_of_ble_eq_true rfl), (Nat.le_of_ble_eq_true rfl)⟩) (k_preV (q0 := 0) hK hG hP hD [0, 5] rfl rfl rfl rfl) rfl rfl hl.1 rfl (lv_room (Nat.le_of_ble_eq_true rfl)) d_Mo_alone_84 ⟨Nat.zero_le _, Nat.zero_le _⟩) hP hD hS hA [0, 5] rfl (Eq.trans (b := [w 0, w 9]) rfl rfl) ?_
                clear hP hD hS; intro H locs hP hD hS
                replace hP : va_P D k_cl ([(w 0, .inr (4, [.ref (w 1), .int (zI ↑n), .ref (w 2), .ref (w 3), .ref (w 4), .ref (w 5), .int (zI ↑np), .ref (w 6), .ref (w 7), .int (zI ↑kn), .ref (w 8), .ref (w 9), .ref (w 10), .int (zI ↑ch), .int (zI le), .ref (w 11), .int (zI sf), .int (zI st), .ref (w 12)])), (w 2, .inl (cI, 30, .inl (kA K))), (w 4, .inl (cI, 30, .inl (kZ ot))), (w 5, .inl (cI, 30, .inl (kZ nu))), (w 8, .inl (cI, 900, .inl (kM G))), (w 9, .inl (cI, 30, .inl (kM (rAdd F 0 j))))]) H := hP
                replace hD : va_D A ([(w 0, .inr (4, [.ref (w 1), .int (zI ↑n), .ref (w 2), .ref (w 3), .ref (w 4), .ref (w 5), .int (zI ↑np), .ref (w 6), .ref (w 7), .int (zI ↑kn), .ref (w 8), .ref (w 9), .ref (w 10), .int (zI ↑ch), .int (zI le), .ref (w 11), .int (zI sf), .int (zI st), .ref (w 12)])), (w 2, .inl (cI, 30, .inl (kA K))), (w 4, .inl (cI, 30, .inl (kZ ot))), (w 5, .inl (cI, 30, .inl (kZ nu))), (w 8, .inl (cI, 900, .inl (kM G))), (w 9, .inl (cI, 30, .inl (kM (rAdd F 0 j))))]) := hD
                have e9 : mAlone (K k) (nu k) (fun z => G (30 * o + z)) F i j = rAdd F 0 j := by unfold mAlone; (repeat' split); all_goals first | rfl | (exfalso; omega) | (congr 1 <;> omega) | (exfalso; rename_i h8 _; rcases h8 with h8 | ⟨_, h8⟩ | h8 <;> first | omega | contradiction) | (exfalso; rename_i h8; apply h8; first | exact Or.inl (by omega) | exact Or.inr (Or.inl ⟨by omega, by assumption⟩) | exact Or.inr (Or.inr (by omega)))
                replace hP : va_P D k_cl [(w 0, .inr (4, [.ref (w 1), .int (zI ↑n), .ref (w 2), .ref (w 3), .ref (w 4), .ref (w 5), .int (zI ↑np), .ref (w 6), .ref (w 7), .int (zI ↑kn), .ref (w 8), .ref (w 9), .ref (w 10), .int (zI ↑ch), .int (zI le), .ref (w 11), .int (zI sf), .int (zI st), .ref (w 12)])), (w 2, .inl (cI, 30, .inl (kA K))), (w 4, .inl (cI, 30, .inl (kZ ot))), (w 5, .inl (cI, 30, .inl (kZ nu))), (w 8, .inl (cI, 900, .inl (kM G))), (w 9, .inl (cI, 30, .inl (kM (mAlone (K k) (nu k) (fun z => G (30 * o + z)) F i j))))] H := by rw [e9]; exact hP
                rw [← hQf]
                exact k_vret hx hb hr hlocks hP hS d_Mo_alone_87
          · refine lv_aload_n hx hb d_Mo_alone_52 rfl (lv_at hl 2 rfl) ?_
            refine lv_iload_n hx hb d_Mo_alone_53 rfl (lv_at hl 4 rfl) ?_
            refine lv_iload_n hx hb d_Mo_alone_54 rfl (lv_at hl 5 rfl) ?_
            refine k_beV (va_runV (As := [.int (zI ↑i), .int (zI ↑j)]) (rest := []) ⟨hx, hb, hml, hown, hkw⟩ (c_Mo_comes l D cI cR cG w n np kn ch le sf st i j F (by omega) (by omega) hF _) (cwV 2 hkw (k_gV kw_methodLink_Mo_64 kw_instanceMethod_Mo_comes kw_selects_Mo_comes kw_initialized_Mo kw_code_Mo_comes) rfl rfl rfl (by decide +kernel) ⟨(Nat.le_of_ble_eq_true rfl), (Nat.le_of_ble_eq_true rfl)⟩) (k_preV (q0 := 0) hK hG hP hD [0, 5] rfl rfl rfl rfl) rfl rfl hl.1 rfl (lv_room (Nat.le_of_ble_eq_true rfl)) d_Mo_alone_55 ⟨Nat.zero_le _, Nat.zero_le _⟩) hP hD hS hA [0, 5] rfl (Eq.trans (b := [w 0, w 9]) rfl rfl) ?_
            clear hP hD hS; intro H locs hP hD hS
            replace hP : va_P D k_cl ([(w 0, .inr (4, [.ref (w 1), .int (zI ↑n), .ref (w 2), .ref (w 3), .ref (w 4), .ref (w 5), .int (zI ↑np), .ref (w 6), .ref (w 7), .int (zI ↑kn), .ref (w 8), .ref (w 9), .ref (w 10), .int (zI ↑ch), .int (zI le), .ref (w 11), .int (zI sf), .int (zI st), .ref (w 12)])), (w 2, .inl (cI, 30, .inl (kA K))), (w 4, .inl (cI, 30, .inl (kZ ot))), (w 5, .inl (cI, 30, .inl (kZ nu))), (w 8, .inl (cI, 900, .inl (kM G))), (w 9, .inl (cI, 30, .inl (kM (rAdd F i j))))]) H := hP
            replace hD : va_D A ([(w 0, .inr (4, [.ref (w 1), .int (zI ↑n), .ref (w 2), .ref (w 3), .ref (w 4), .ref (w 5), .int (zI ↑np), .ref (w 6), .ref (w 7), .int (zI ↑kn), .ref (w 8), .ref (w 9), .ref (w 10), .int (zI ↑ch), .int (zI le), .ref (w 11), .int (zI sf), .int (zI st), .ref (w 12)])), (w 2, .inl (cI, 30, .inl (kA K))), (w 4, .inl (cI, 30, .inl (kZ ot))), (w 5, .inl (cI, 30, .inl (kZ nu))), (w 8, .inl (cI, 900, .inl (kM G))), (w 9, .inl (cI, 30, .inl (kM (rAdd F i j))))]) := hD
            refine lv_goto (tgt := 87) hx hb d_Mo_alone_58 (by decide) ?_
            have e9 : mAlone (K k) (nu k) (fun z => G (30 * o + z)) F i j = rAdd F i j := by unfold mAlone; (repeat' split); all_goals first | rfl | (exfalso; omega) | (congr 1 <;> omega) | (exfalso; rename_i h8 _; rcases h8 with h8 | ⟨_, h8⟩ | h8 <;> first | omega | contradiction) | (exfalso; rename_i h8; apply h8; first | exact Or.inl (by omega) | exact Or.inr (Or.inl ⟨by omega, by assumption⟩) | exact Or.inr (Or.inr (by omega)))
            replace hP : va_P D k_cl [(w 0, .inr (4, [.ref (w 1), .int (zI ↑n), .ref (w 2), .ref (w 3), .ref (w 4), .ref (w 5), .int (zI ↑np), .ref (w 6), .ref (w 7), .int (zI ↑kn), .ref (w 8), .ref (w 9), .ref (w 10), .int (zI ↑ch), .int (zI le), .ref (w 11), .int (zI sf), .int (zI st), .ref (w 12)])), (w 2, .inl (cI, 30, .inl (kA K))), (w 4, .inl (cI, 30, .inl (kZ ot))), (w 5, .inl (cI, 30, .inl (kZ nu))), (w 8, .inl (cI, 900, .inl (kM G))), (w 9, .inl (cI, 30, .inl (kM (mAlone (K k) (nu k) (fun z => G (30 * o + z)) F i j))))] H := by rw [e9]; exact hP
            rw [← hQf]
            exact k_vret hx hb hr hlocks hP hS d_Mo_alone_87
