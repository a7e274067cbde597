abbrev rm_Mo_slot_1 : Room := { frames := 1, cells := 0, slots := 0, locals := 20 }
set_option maxHeartbeats 4000000 in
set_option maxRecDepth 100000 in
theorem c_Mo_slot_1 (l : Launch) (D : va_G) (cI cR cG : ClassId) (w : Nat → Nat) (n np kn ch : Nat) (le sf st : Int) (x y : Int) (hx1 : k_sm x) (hy1 : k_sm y) (hb : ¬ ((0 ≤ x ∧ x ≤ 9) ∧ (0 ≤ y ∧ y ≤ 1023))) : k_M l y_Mo_slot (.code y_Mo_slot b_Mo_slot 3 (some .int) :: kW) rm_Mo_slot_1 D k_cl (k_ty cI cR cG) [.ref (w 0), .int (zI x), .int (zI y)] ([(w 0, .inr (4, [.ref (w 1), .int (zI ↑n), .ref (w 2), .ref (w 3), .ref (w 4), .ref (w 5), .int (zI ↑np), .ref (w 6), .ref (w 7), .int (zI ↑kn), .ref (w 8), .ref (w 9), .ref (w 10), .int (zI ↑ch), .int (zI le), .ref (w 11), .int (zI sf), .int (zI st), .ref (w 12)]))]) (k_Qi D k_cl (zI (-2)) [(w 0, .inr (4, [.ref (w 1), .int (zI ↑n), .ref (w 2), .ref (w 3), .ref (w 4), .ref (w 5), .int (zI ↑np), .ref (w 6), .ref (w 7), .int (zI ↑kn), .ref (w 8), .ref (w 9), .ref (w 10), .int (zI ↑ch), .int (zI le), .ref (w 11), .int (zI sf), .int (zI st), .ref (w 12)]))]) := by
  refine k_start (cc := b_Mo_slot) (maxL := 3) (ret := (some .int)) (by decide) rfl (Nat.le_of_ble_eq_true rfl) ?_
  intro p ev s m ar below meth c A ls Qf hQf hx hb hr hml hts hown hlocks hin hK hG hA hP hD hS hl
  replace hown : s.vm.findClass R_Mo = some m.cls := hown
  replace hl : lv_has ls 3 [(0, .ref (w 0)), (1, .int (zI x)), (2, .int (zI y))] := hl
  have hkw : ∀ w ∈ kW, w.before ar s = true := fun w h => hts w (List.mem_cons_of_mem _ h)
  replace hP : va_P D k_cl ([(w 0, .inr (4, [.ref (w 1), .int (zI ↑n), .ref (w 2), .ref (w 3), .ref (w 4), .ref (w 5), .int (zI ↑np), .ref (w 6), .ref (w 7), .int (zI ↑kn), .ref (w 8), .ref (w 9), .ref (w 10), .int (zI ↑ch), .int (zI le), .ref (w 11), .int (zI sf), .int (zI st), .ref (w 12)]))]) s.heap := hP
  replace hD : va_D A ([(w 0, .inr (4, [.ref (w 1), .int (zI ↑n), .ref (w 2), .ref (w 3), .ref (w 4), .ref (w 5), .int (zI ↑np), .ref (w 6), .ref (w 7), .int (zI ↑kn), .ref (w 8), .ref (w 9), .ref (w 10), .int (zI ↑ch), .int (zI le), .ref (w 11), .int (zI sf), .int (zI st), .ref (w 12)]))]) := hD
  have hx2 := hx1.1
  have hx3 := hx1.2
  have hy2 := hy1.1
  have hy3 := hy1.2
  refine lv_iload_n hx hb d_Mo_slot_0 rfl (lv_at hl 1 rfl) ?_
  refine k_if_lt (tgt := 17) hx hb d_Mo_slot_1 (by decide) ⟨by omega, by omega⟩ (fun c_1 => ?_) (fun c_1 => ?_)
  · refine lv_bipush (v := zI (-2)) hx hb d_Mo_slot_17 (by decide) ?_
    rw [← hQf]
    exact k_iret hx hb hr hlocks hP hS rfl d_Mo_slot_19
  · refine lv_iload_n hx hb d_Mo_slot_4 rfl (lv_at hl 1 rfl) ?_
    refine lv_bipush (v := zI 9) hx hb d_Mo_slot_5 (by decide) ?_
    refine k_icmp_gt (tgt := 17) hx hb d_Mo_slot_7 (by decide) ⟨by omega, by omega⟩ ⟨by omega, by omega⟩ (fun c_7 => ?_) (fun c_7 => ?_)
    · refine lv_bipush (v := zI (-2)) hx hb d_Mo_slot_17 (by decide) ?_
      rw [← hQf]
      exact k_iret hx hb hr hlocks hP hS rfl d_Mo_slot_19
    · refine lv_iload_n hx hb d_Mo_slot_10 rfl (lv_at hl 2 rfl) ?_
      refine k_beI (va_runS (As := [.int (zI y)]) (rest := []) ⟨hx, hb, hml, hown, hkw⟩ (c_Mo_isSet l D cI cR cG y ⟨by omega, by omega⟩ _) (va_cwS 1 hkw (k_gS kw_methodLink_Mo_50 kw_static_Mo_isSet kw_initialized_Mo kw_code_Mo_isSet) rfl rfl rfl (by decide +kernel) ⟨(Nat.le_of_ble_eq_true rfl), (Nat.le_of_ble_eq_true rfl)⟩) (k_preS hK hG hP hD [] rfl rfl) rfl rfl hl.1 rfl (lv_room (Nat.le_of_ble_eq_true rfl)) d_Mo_slot_11 ⟨Nat.zero_le _, Nat.zero_le _⟩) hP hD hS hA [] rfl (Eq.trans (b := []) rfl rfl) ?_
      clear hP hD hS; intro H locs hP hD hS
      replace hP : va_P D k_cl ([(w 0, .inr (4, [.ref (w 1), .int (zI ↑n), .ref (w 2), .ref (w 3), .ref (w 4), .ref (w 5), .int (zI ↑np), .ref (w 6), .ref (w 7), .int (zI ↑kn), .ref (w 8), .ref (w 9), .ref (w 10), .int (zI ↑ch), .int (zI le), .ref (w 11), .int (zI sf), .int (zI st), .ref (w 12)]))]) H := hP
      replace hD : va_D A ([(w 0, .inr (4, [.ref (w 1), .int (zI ↑n), .ref (w 2), .ref (w 3), .ref (w 4), .ref (w 5), .int (zI ↑np), .ref (w 6), .ref (w 7), .int (zI ↑kn), .ref (w 8), .ref (w 9), .ref (w 10), .int (zI ↑ch), .int (zI le), .ref (w 11), .int (zI sf), .int (zI st), .ref (w 12)]))]) := hD
      refine k_bif_ne (tgt := 20) hx hb d_Mo_slot_14 (by decide) (fun c_14 => ?_) (fun c_14 => ?_)
      · exfalso; omega
      · refine lv_bipush (v := zI (-2)) hx hb d_Mo_slot_17 (by decide) ?_
        rw [← hQf]
        exact k_iret hx hb hr hlocks hP hS rfl d_Mo_slot_19

abbrev rm_Mo_slot_2 : Room := { frames := 1, cells := 0, slots := 0, locals := 20 }
set_option maxHeartbeats 4000000 in
set_option maxRecDepth 100000 in
theorem c_Mo_slot_2 (l : Launch) (D : va_G) (cI cR cG : ClassId) (w : Nat → Nat) (n np kn ch : Nat) (le sf st : Int) (x y : Int) (hx1 : k_sm x) (hy1 : k_sm y) (hok : (0 ≤ x ∧ x ≤ 9) ∧ (0 ≤ y ∧ y ≤ 1023)) (hn : np = 4) : k_M l y_Mo_slot (.code y_Mo_slot b_Mo_slot 3 (some .int) :: kW) rm_Mo_slot_2 D k_cl (k_ty cI cR cG) [.ref (w 0), .int (zI x), .int (zI y)] ([(w 0, .inr (4, [.ref (w 1), .int (zI ↑n), .ref (w 2), .ref (w 3), .ref (w 4), .ref (w 5), .int (zI ↑np), .ref (w 6), .ref (w 7), .int (zI ↑kn), .ref (w 8), .ref (w 9), .ref (w 10), .int (zI ↑ch), .int (zI le), .ref (w 11), .int (zI sf), .int (zI st), .ref (w 12)]))]) (k_Qi D k_cl (zI (-4)) [(w 0, .inr (4, [.ref (w 1), .int (zI ↑n), .ref (w 2), .ref (w 3), .ref (w 4), .ref (w 5), .int (zI ↑np), .ref (w 6), .ref (w 7), .int (zI ↑kn), .ref (w 8), .ref (w 9), .ref (w 10), .int (zI ↑ch), .int (zI le), .ref (w 11), .int (zI sf), .int (zI st), .ref (w 12)]))]) := by
  refine k_start (cc := b_Mo_slot) (maxL := 3) (ret := (some .int)) (by decide) rfl (Nat.le_of_ble_eq_true rfl) ?_
  intro p ev s m ar below meth c A ls Qf hQf hx hb hr hml hts hown hlocks hin hK hG hA hP hD hS hl
  replace hown : s.vm.findClass R_Mo = some m.cls := hown
  replace hl : lv_has ls 3 [(0, .ref (w 0)), (1, .int (zI x)), (2, .int (zI y))] := hl
  have hkw : ∀ w ∈ kW, w.before ar s = true := fun w h => hts w (List.mem_cons_of_mem _ h)
  replace hP : va_P D k_cl ([(w 0, .inr (4, [.ref (w 1), .int (zI ↑n), .ref (w 2), .ref (w 3), .ref (w 4), .ref (w 5), .int (zI ↑np), .ref (w 6), .ref (w 7), .int (zI ↑kn), .ref (w 8), .ref (w 9), .ref (w 10), .int (zI ↑ch), .int (zI le), .ref (w 11), .int (zI sf), .int (zI st), .ref (w 12)]))]) s.heap := hP
  replace hD : va_D A ([(w 0, .inr (4, [.ref (w 1), .int (zI ↑n), .ref (w 2), .ref (w 3), .ref (w 4), .ref (w 5), .int (zI ↑np), .ref (w 6), .ref (w 7), .int (zI ↑kn), .ref (w 8), .ref (w 9), .ref (w 10), .int (zI ↑ch), .int (zI le), .ref (w 11), .int (zI sf), .int (zI st), .ref (w 12)]))]) := hD
  have hx2 := hx1.1
  have hx3 := hx1.2
  have hy2 := hy1.1
  have hy3 := hy1.2
  refine lv_iload_n hx hb d_Mo_slot_0 rfl (lv_at hl 1 rfl) ?_
  refine k_if_lt (tgt := 17) hx hb d_Mo_slot_1 (by decide) ⟨by omega, by omega⟩ (fun c_1 => ?_) (fun c_1 => ?_)
  · exfalso; omega
  · refine lv_iload_n hx hb d_Mo_slot_4 rfl (lv_at hl 1 rfl) ?_
    refine lv_bipush (v := zI 9) hx hb d_Mo_slot_5 (by decide) ?_
    refine k_icmp_gt (tgt := 17) hx hb d_Mo_slot_7 (by decide) ⟨by omega, by omega⟩ ⟨by omega, by omega⟩ (fun c_7 => ?_) (fun c_7 => ?_)
    · exfalso; omega
    · refine lv_iload_n hx hb d_Mo_slot_10 rfl (lv_at hl 2 rfl) ?_
      refine k_beI (va_runS (As := [.int (zI y)]) (rest := []) ⟨hx, hb, hml, hown, hkw⟩ (c_Mo_isSet l D cI cR cG y ⟨by omega, by omega⟩ _) (va_cwS 1 hkw (k_gS kw_methodLink_Mo_50 kw_static_Mo_isSet kw_initialized_Mo kw_code_Mo_isSet) rfl rfl rfl (by decide +kernel) ⟨(Nat.le_of_ble_eq_true rfl), (Nat.le_of_ble_eq_true rfl)⟩) (k_preS hK hG hP hD [] rfl rfl) rfl rfl hl.1 rfl (lv_room (Nat.le_of_ble_eq_true rfl)) d_Mo_slot_11 ⟨Nat.zero_le _, Nat.zero_le _⟩) hP hD hS hA [] rfl (Eq.trans (b := []) rfl rfl) ?_
      clear hP hD hS; intro H locs hP hD hS
      replace hP : va_P D k_cl ([(w 0, .inr (4, [.ref (w 1), .int (zI ↑n), .ref (w 2), .ref (w 3), .ref (w 4), .ref (w 5), .int (zI ↑np), .ref (w 6), .ref (w 7), .int (zI ↑kn), .ref (w 8), .ref (w 9), .ref (w 10), .int (zI ↑ch), .int (zI le), .ref (w 11), .int (zI sf), .int (zI st), .ref (w 12)]))]) H := hP
      replace hD : va_D A ([(w 0, .inr (4, [.ref (w 1), .int (zI ↑n), .ref (w 2), .ref (w 3), .ref (w 4), .ref (w 5), .int (zI ↑np), .ref (w 6), .ref (w 7), .int (zI ↑kn), .ref (w 8), .ref (w 9), .ref (w 10), .int (zI ↑ch), .int (zI le), .ref (w 11), .int (zI sf), .int (zI st), .ref (w 12)]))]) := hD
      refine k_bif_ne (tgt := 20) hx hb d_Mo_slot_14 (by decide) (fun c_14 => ?_) (fun c_14 => ?_)
      · refine lv_aload_n hx hb d_Mo_slot_20 rfl (lv_at hl 0 rfl) ?_
        refine va_get (D := D) (ci := 4) (v := .int (zI ↑np)) (C := R_Mo) (T := T_Mo) (N := 19) hx hb hkw kin_Mo hown hK hP 0 rfl rfl 6 (by decide) (hkw _ kw_fieldLink_Mo_95) (fun _ h9 => h9) rfl d_Mo_slot_21 ?_
        refine lv_iconst (v := zI 4) hx hb d_Mo_slot_24 (by decide) ?_
        refine k_icmp_ne (tgt := 31) hx hb d_Mo_slot_25 (by decide) ⟨by omega, by omega⟩ ⟨by omega, by omega⟩ (fun c_25 => ?_) (fun c_25 => ?_)
        · exfalso; omega
        · refine lv_bipush (v := zI (-4)) hx hb d_Mo_slot_28 (by decide) ?_
          rw [← hQf]
          exact k_iret hx hb hr hlocks hP hS rfl d_Mo_slot_30
      · exfalso; omega

abbrev rm_Mo_slot_3 : Room := { frames := 1, cells := 0, slots := 0, locals := 20 }
set_option maxHeartbeats 4000000 in
set_option maxRecDepth 100000 in
theorem c_Mo_slot_3 (l : Launch) (D : va_G) (cI cR cG : ClassId) (w : Nat → Nat) (n np kn ch : Nat) (le sf st : Int) (of se : Nat → Nat) (u v : Nat) (hu : u ≤ 9) (hv : v ≤ 1023) (hn : np < 4) : k_M l y_Mo_slot (.code y_Mo_slot b_Mo_slot 3 (some .int) :: kW) rm_Mo_slot_3 D k_cl (k_ty cI cR cG) [.ref (w 0), .int (zI ↑u), .int (zI ↑v)] ([(w 0, .inr (4, [.ref (w 1), .int (zI ↑n), .ref (w 2), .ref (w 3), .ref (w 4), .ref (w 5), .int (zI ↑np), .ref (w 6), .ref (w 7), .int (zI ↑kn), .ref (w 8), .ref (w 9), .ref (w 10), .int (zI ↑ch), .int (zI le), .ref (w 11), .int (zI sf), .int (zI st), .ref (w 12)])), (w 6, .inl (cI, 4, .inl (kA of))), (w 7, .inl (cI, 4, .inl (kA se)))]) (k_Qi D k_cl (zI ↑np) [(w 0, .inr (4, [.ref (w 1), .int (zI ↑n), .ref (w 2), .ref (w 3), .ref (w 4), .ref (w 5), .int (zI (↑(np + 1))), .ref (w 6), .ref (w 7), .int (zI 0), .ref (w 8), .ref (w 9), .ref (w 10), .int (zI ↑ch), .int (zI le), .ref (w 11), .int (zI sf), .int (zI st), .ref (w 12)])), (w 6, .inl (cI, 4, .inl (kA (va_up of np u)))), (w 7, .inl (cI, 4, .inl (kA (va_up se np v))))]) := by
  refine k_start (cc := b_Mo_slot) (maxL := 3) (ret := (some .int)) (by decide) rfl (Nat.le_of_ble_eq_true rfl) ?_
  intro p ev s m ar below meth c A ls Qf hQf hx hb hr hml hts hown hlocks hin hK hG hA hP hD hS hl
  replace hown : s.vm.findClass R_Mo = some m.cls := hown
  replace hl : lv_has ls 3 [(0, .ref (w 0)), (1, .int (zI ↑u)), (2, .int (zI ↑v))] := hl
  have hkw : ∀ w ∈ kW, w.before ar s = true := fun w h => hts w (List.mem_cons_of_mem _ h)
  replace hP : va_P D k_cl ([(w 0, .inr (4, [.ref (w 1), .int (zI ↑n), .ref (w 2), .ref (w 3), .ref (w 4), .ref (w 5), .int (zI ↑np), .ref (w 6), .ref (w 7), .int (zI ↑kn), .ref (w 8), .ref (w 9), .ref (w 10), .int (zI ↑ch), .int (zI le), .ref (w 11), .int (zI sf), .int (zI st), .ref (w 12)])), (w 6, .inl (cI, 4, .inl (kA of))), (w 7, .inl (cI, 4, .inl (kA se)))]) s.heap := hP
  replace hD : va_D A ([(w 0, .inr (4, [.ref (w 1), .int (zI ↑n), .ref (w 2), .ref (w 3), .ref (w 4), .ref (w 5), .int (zI ↑np), .ref (w 6), .ref (w 7), .int (zI ↑kn), .ref (w 8), .ref (w 9), .ref (w 10), .int (zI ↑ch), .int (zI le), .ref (w 11), .int (zI sf), .int (zI st), .ref (w 12)])), (w 6, .inl (cI, 4, .inl (kA of))), (w 7, .inl (cI, 4, .inl (kA se)))]) := hD
  refine lv_iload_n hx hb d_Mo_slot_0 rfl (lv_at hl 1 rfl) ?_
  refine k_if_lt (tgt := 17) hx hb d_Mo_slot_1 (by decide) ⟨by omega, by omega⟩ (fun c_1 => ?_) (fun c_1 => ?_)
  · exfalso; omega
  · refine lv_iload_n hx hb d_Mo_slot_4 rfl (lv_at hl 1 rfl) ?_
    refine lv_bipush (v := zI 9) hx hb d_Mo_slot_5 (by decide) ?_
    refine k_icmp_gt (tgt := 17) hx hb d_Mo_slot_7 (by decide) ⟨by omega, by omega⟩ ⟨by omega, by omega⟩ (fun c_7 => ?_) (fun c_7 => ?_)
    · exfalso; omega
    · refine lv_iload_n hx hb d_Mo_slot_10 rfl (lv_at hl 2 rfl) ?_
      refine k_beI (va_runS (As := [.int (zI ↑v)]) (rest := []) ⟨hx, hb, hml, hown, hkw⟩ (c_Mo_isSet l D cI cR cG ↑v ⟨by omega, by omega⟩ _) (va_cwS 1 hkw (k_gS kw_methodLink_Mo_50 kw_static_Mo_isSet kw_initialized_Mo kw_code_Mo_isSet) rfl rfl rfl (by decide +kernel) ⟨(Nat.le_of_ble_eq_true rfl), (Nat.le_of_ble_eq_true rfl)⟩) (k_preS hK hG hP hD [] rfl rfl) rfl rfl hl.1 rfl (lv_room (Nat.le_of_ble_eq_true rfl)) d_Mo_slot_11 ⟨Nat.zero_le _, Nat.zero_le _⟩) hP hD hS hA [] rfl (Eq.trans (b := []) rfl rfl) ?_
      clear hP hD hS; intro H locs hP hD hS
      replace hP : va_P D k_cl ([(w 0, .inr (4, [.ref (w 1), .int (zI ↑n), .ref (w 2), .ref (w 3), .ref (w 4), .ref (w 5), .int (zI ↑np), .ref (w 6), .ref (w 7), .int (zI ↑kn), .ref (w 8), .ref (w 9), .ref (w 10), .int (zI ↑ch), .int (zI le), .ref (w 11), .int (zI sf), .int (zI st), .ref (w 12)])), (w 6, .inl (cI, 4, .inl (kA of))), (w 7, .inl (cI, 4, .inl (kA se)))]) H := hP
      replace hD : va_D A ([(w 0, .inr (4, [.ref (w 1), .int (zI ↑n), .ref (w 2), .ref (w 3), .ref (w 4), .ref (w 5), .int (zI ↑np), .ref (w 6), .ref (w 7), .int (zI ↑kn), .ref (w 8), .ref (w 9), .ref (w 10), .int (zI ↑ch), .int (zI le), .ref (w 11), .int (zI sf), .int (zI st), .ref (w 12)])), (w 6, .inl (cI, 4, .inl (kA of))), (w 7, .inl (cI, 4, .inl (kA se)))]) := hD
      refine k_bif_ne (tgt := 20) hx hb d_Mo_slot_14 (by decide) (fun c_14 => ?_) (fun c_14 => ?_)
      · refine lv_aload_n hx hb d_Mo_slot_20 rfl (lv_at hl 0 rfl) ?_
        refine va_get (D := D) (ci := 4) (v := .int (zI ↑np)) (C := R_Mo) (T := T_Mo) (N := 19) hx hb hkw kin_Mo hown hK hP 0 rfl rfl 6 (by decide) (hkw _ kw_fieldLink_Mo_95) (fun _ h9 => h9) rfl d_Mo_slot_21 ?_
        refine lv_iconst (v := zI 4) hx hb d_Mo_slot_24 (by decide) ?_
        refine k_icmp_ne (tgt := 31) hx hb d_Mo_slot_25 (by decide) ⟨by omega, by omega⟩ ⟨by omega, by omega⟩ (fun c_25 => ?_) (fun c_25 => ?_)
        · refine lv_aload_n hx hb d_Mo_slot_31 rfl (lv_at hl 0 rfl) ?_
          refine va_get (D := D) (ci := 4) (v := .ref (w 6)) (C := R_Mo) (T := T_Mo) (N := 19) hx hb hkw kin_Mo hown hK hP 0 rfl rfl 7 (by decide) (hkw _ kw_fieldLink_Mo_25) (fun _ h9 => h9) rfl d_Mo_slot_32 ?_
          refine lv_aload_n hx hb d_Mo_slot_35 rfl (lv_at hl 0 rfl) ?_
          refine va_get (D := D) (ci := 4) (v := .int (zI ↑np)) (C := R_Mo) (T := T_Mo) (N := 19) hx hb hkw kin_Mo hown hK hP 0 rfl rfl 6 (by decide) (hkw _ kw_fieldLink_Mo_95) (fun _ h9 => h9) rfl d_Mo_slot_36 ?_
          refine lv_iload_n hx hb d_Mo_slot_39 rfl (lv_at hl 1 rfl) ?_
          refine k_ast hx hb hK hP hD hS 1 0 rfl rfl (i := np) (v := u) (by omega) (by omega) (by omega) (by omega) d_Mo_slot_40 ?_
          clear hP hD hS; intro H locs hP hD hS
          replace hP : va_P D k_cl ([(w 0, .inr (4, [.ref (w 1), .int (zI ↑n), .ref (w 2), .ref (w 3), .ref (w 4), .ref (w 5), .int (zI ↑np), .ref (w 6), .ref (w 7), .int (zI ↑kn), .ref (w 8), .ref (w 9), .ref (w 10), .int (zI ↑ch), .int (zI le), .ref (w 11), .int (zI sf), .int (zI st), .ref (w 12)])), (w 6, .inl (cI, 4, .inl (kA (va_up of np u)))), (w 7, .inl (cI, 4, .inl (kA se)))]) H := hP
          replace hD : va_D A ([(w 0, .inr (4, [.ref (w 1), .int (zI ↑n), .ref (w 2), .ref (w 3), .ref (w 4), .ref (w 5), .int (zI ↑np), .ref (w 6), .ref (w 7), .int (zI ↑kn), .ref (w 8), .ref (w 9), .ref (w 10), .int (zI ↑ch), .int (zI le), .ref (w 11), .int (zI sf), .int (zI st), .ref (w 12)])), (w 6, .inl (cI, 4, .inl (kA (va_up of np u)))), (w 7, .inl (cI, 4, .inl (kA se)))]) := hD
          refine lv_aload_n hx hb d_Mo_slot_41 rfl (lv_at hl 0 rfl) ?_
          refine va_get (D := D) (ci := 4) (v := .ref (w 7)) (C := R_Mo) (T := T_Mo) (N := 19) hx hb hkw kin_Mo hown hK hP 0 rfl rfl 8 (by decide) (hkw _ kw_fieldLink_Mo_28) (fun _ h9 => h9) rfl d_Mo_slot_42 ?_
          refine lv_aload_n hx hb d_Mo_slot_45 rfl (lv_at hl 0 rfl) ?_
          refine va_get (D := D) (ci := 4) (v := .int (zI ↑np)) (C := R_Mo) (T := T_Mo) (N := 19) hx hb hkw kin_Mo hown hK hP 0 rfl rfl 6 (by decide) (hkw _ kw_fieldLink_Mo_95) (fun _ h9 => h9) rfl d_Mo_slot_46 ?_
          refine lv_iload_n hx hb d_Mo_slot_49 rfl (lv_at hl 2 rfl) ?_
          refine k_ast hx hb hK hP hD hS 2 0 rfl rfl (i := np) (v := v) (by omega) (by omega) (by omega) (by omega) d_Mo_slot_50 ?_
          clear hP hD hS; intro H locs hP hD hS
          replace hP : va_P D k_cl ([(w 0, .inr (4, [.ref (w 1), .int (zI ↑n), .ref (w 2), .ref (w 3), .ref (w 4), .ref (w 5), .int (zI ↑np), .ref (w 6), .ref (w 7), .int (zI ↑kn), .ref (w 8), .ref (w 9), .ref (w 10), .int (zI ↑ch), .int (zI le), .ref (w 11), .int (zI sf), .int (zI st), .ref (w 12)])), (w 6, .inl (cI, 4, .inl (kA (va_up of np u)))), (w 7, .inl (cI, 4, .inl (kA (va_up se np v))))]) H := hP
          replace hD : va_D A ([(w 0, .inr (4, [.ref (w 1), .int (zI ↑n), .ref (w 2), .ref (w 3), .ref (w 4), .ref (w 5), .int (zI ↑np), .ref (w 6), .ref (w 7), .int (zI ↑kn), .ref (w 8), .ref (w 9), .ref (w 10), .int (zI ↑ch), .int (zI le), .ref (w 11), .int (zI sf), .int (zI st), .ref (w 12)])), (w 6, .inl (cI, 4, .inl (kA (va_up of np u)))), (w 7, .inl (cI, 4, .inl (kA (va_up se np v))))]) := hD
          refine lv_aload_n hx hb d_Mo_slot_51 rfl (lv_at hl 0 rfl) ?_
          refine lv_dup hx hb d_Mo_slot_52 rfl ?_
          refine va_get (D := D) (ci := 4) (v := .int (zI ↑np)) (C := R_Mo) (T := T_Mo) (N := 19) hx hb hkw kin_Mo hown hK hP 0 rfl rfl 6 (by decide) (hkw _ kw_fieldLink_Mo_95) (fun _ h9 => h9) rfl d_Mo_slot_53 ?_
          refine lv_iconst (v := zI 1) hx hb d_Mo_slot_56 (by decide) ?_
          refine k_iadd (v := ↑(np + 1)) hx hb d_Mo_slot_57 (by omega) ?_
          refine va_put (D := D) (ci := 4) (v := .int (zI (↑(np + 1)))) (ty := .int) (C := R_Mo) (T := T_Mo) (N := 19) hx hb hkw kin_Mo ty_Mo ty_Mo_ok nm_Mo hown hK hP hD hS 0 rfl rfl 6 (by decide) (hkw _ kw_fieldLink_Mo_95) (fun _ h9 => h9) rfl (by decide +kernel) rfl rfl (Nat.le_of_ble_eq_true rfl) d_Mo_slot_58 ?_
          clear hP hD hS; intro H locs hP hD hS
          replace hP : va_P D k_cl ([(w 0, .inr (4, [.ref (w 1), .int (zI ↑n), .ref (w 2), .ref (w 3), .ref (w 4), .ref (w 5), .int (zI (↑(np + 1))), .ref (w 6), .ref (w 7), .int (zI ↑kn), .ref (w 8), .ref (w 9), .ref (w 10), .int (zI ↑ch), .int (zI le), .ref (w 11), .int (zI sf), .int (zI st), .ref (w 12)])), (w 6, .inl (cI, 4, .inl (kA (va_up of np u)))), (w 7, .inl (cI, 4, .inl (kA (va_up se np v))))]) H := hP
          replace hD : va_D A ([(w 0, .inr (4, [.ref (w 1), .int (zI ↑n), .ref (w 2), .ref (w 3), .ref (w 4), .ref (w 5), .int (zI (↑(np + 1))), .ref (w 6), .ref (w 7), .int (zI ↑kn), .ref (w 8), .ref (w 9), .ref (w 10), .int (zI ↑ch), .int (zI le), .ref (w 11), .int (zI sf), .int (zI st), .ref (w 12)])), (w 6, .inl (cI, 4, .inl (kA (va_up of np u)))), (w 7, .inl (cI, 4, .inl (kA (va_up se np v))))]) := hD
          refine lv_aload_n hx hb d_Mo_slot_61 rfl (lv_at hl 0 rfl) ?_
          refine lv_iconst (v := zI 0) hx hb d_Mo_slot_62 (by decide) ?_
          refine va_put (D := D) (ci := 4) (v := .int (zI 0)) (ty := .boolean) (C := R_Mo) (T := T_Mo) (N := 19) hx hb hkw kin_Mo ty_Mo ty_Mo_ok nm_Mo hown hK hP hD hS 0 rfl rfl 9 (by decide) (hkw _ kw_fieldLink_Mo_53) (fun _ h9 => h9) rfl (by decide +kernel) (by decide) (by decide) (Nat.le_of_ble_eq_true rfl) d_Mo_slot_63 ?_
          clear hP hD hS; intro H locs hP hD hS
          replace hP : va_P D k_cl ([(w 0, .inr (4, [.ref (w 1), .int (zI ↑n), .ref (w 2), .ref (w 3), .ref (w 4), .ref (w 5), .int (zI (↑(np + 1))), .ref (w 6), .ref (w 7), .int (zI 0), .ref (w 8), .ref (w 9), .ref (w 10), .int (zI ↑ch), .int (zI le), .ref (w 11), .int (zI sf), .int (zI st), .ref (w 12)])), (w 6, .inl (cI, 4, .inl (kA (va_up of np u)))), (w 7, .inl (cI, 4, .inl (kA (va_up se np v))))]) H := hP
          replace hD : va_D A ([(w 0, .inr (4, [.ref (w 1), .int (zI ↑n), .ref (w 2), .ref (w 3), .ref (w 4), .ref (w 5), .int (zI (↑(np + 1))), .ref (w 6), .ref (w 7), .int (zI 0), .ref (w 8), .ref (w 9), .ref (w 10), .int (zI ↑ch), .int (zI le), .ref (w 11), .int (zI sf), .int (zI st), .ref (w 12)])), (w 6, .inl (cI, 4, .inl (kA (va_up of np u)))), (w 7, .inl (cI, 4, .inl (kA (va_up se np v))))]) := hD
          refine lv_aload_n hx hb d_Mo_slot_66 rfl (lv_at hl 0 rfl) ?_
          refine va_get (D := D) (ci := 4) (v := .int (zI (↑(np + 1)))) (C := R_Mo) (T := T_Mo) (N := 19) hx hb hkw kin_Mo hown hK hP 0 rfl rfl 6 (by decide) (hkw _ kw_fieldLink_Mo_95) (fun _ h9 => h9) rfl d_Mo_slot_67 ?_
          refine lv_iconst (v := zI 1) hx hb d_Mo_slot_70 (by decide) ?_
          refine k_isub (v := ↑np) hx hb d_Mo_slot_71 (by omega) ?_
          rw [← hQf]
          exact k_iret hx hb hr hlocks hP hS rfl d_Mo_slot_72
        · exfalso; omega
      · exfalso; omega

abbrev rm_Mo_unslot : Room := { frames := 0, cells := 0, slots := 0, locals := 0 }
set_option maxHeartbeats 4000000 in
set_option maxRecDepth 100000 in
theorem c_Mo_unslot (l : Launch) (D : va_G) (cI cR cG : ClassId) (w : Nat → Nat) (n np kn ch : Nat) (le sf st : Int)  : k_M l y_Mo_unslot (.code y_Mo_unslot b_Mo_unslot 2 (some .int) :: kW) rm_Mo_unslot D k_cl (k_ty cI cR cG) [.ref (w 0)] ([(w 0, .inr (4, [.ref (w 1), .int (zI ↑n), .ref (w 2), .ref (w 3), .ref (w 4), .ref (w 5), .int (zI ↑np), .ref (w 6), .ref (w 7), .int (zI ↑kn), .ref (w 8), .ref (w 9), .ref (w 10), .int (zI ↑ch), .int (zI le), .ref (w 11), .int (zI sf), .int (zI st), .ref (w 12)]))]) (k_Qi D k_cl (zI ↑np) [(w 0, .inr (4, [.ref (w 1), .int (zI ↑n), .ref (w 2), .ref (w 3), .ref (w 4), .ref (w 5), .int (zI 0), .ref (w 6), .ref (w 7), .int (zI 0), .ref (w 8), .ref (w 9), .ref (w 10), .int (zI ↑ch), .int (zI le), .ref (w 11), .int (zI sf), .int (zI st), .ref (w 12)]))]) := by
  refine k_start (cc := b_Mo_unslot) (maxL := 2) (ret := (some .int)) (by decide) rfl (Nat.le_of_ble_eq_true rfl) ?_
  intro p ev s m ar below meth c A ls Qf hQf hx hb hr hml hts hown hlocks hin hK hG hA hP hD hS hl
  replace hown : s.vm.findClass R_Mo = some m.cls := hown
  replace hl : lv_has ls 2 [(0, .ref (w 0))] := hl
  have hkw : ∀ w ∈ kW, w.before ar s = true := fun w h => hts w (List.mem_cons_of_mem _ h)
  replace hP : va_P D k_cl ([(w 0, .inr (4, [.ref (w 1), .int (zI ↑n), .ref (w 2), .ref (w 3), .ref (w 4), .ref (w 5), .int (zI ↑np), .ref (w 6), .ref (w 7), .int (zI ↑kn), .ref (w 8), .ref (w 9), .ref (w 10), .int (zI ↑ch), .int (zI le), .ref (w 11), .int (zI sf), .int (zI st), .ref (w 12)]))]) s.heap := hP
  replace hD : va_D A ([(w 0, .inr (4, [.ref (w 1), .int (zI ↑n), .ref (w 2), .ref (w 3), .ref (w 4), .ref (w 5), .int (zI ↑np), .ref (w 6), .ref (w 7), .int (zI ↑kn), .ref (w 8), .ref (w 9), .ref (w 10), .int (zI ↑ch), .int (zI le), .ref (w 11), .int (zI sf), .int (zI st), .ref (w 12)]))]) := hD
  refine lv_aload_n hx hb d_Mo_unslot_0 rfl (lv_at hl 0 rfl) ?_
  refine va_get (D := D) (ci := 4) (v := .int (zI ↑np)) (C := R_Mo) (T := T_Mo) (N := 19) hx hb hkw kin_Mo hown hK hP 0 rfl rfl 6 (by decide) (hkw _ kw_fieldLink_Mo_95) (fun _ h9 => h9) rfl d_Mo_unslot_1 ?_
  refine lv_istore_n (lv' := [(1, .int (zI ↑np)), (0, .ref (w 0))]) hx hb d_Mo_unslot_4 rfl hl (by decide) rfl ?_
  clear hl; intro ls hl
  refine lv_aload_n hx hb d_Mo_unslot_5 rfl (lv_at hl 1 rfl) ?_
  refine lv_iconst (v := zI 0) hx hb d_Mo_unslot_6 (by decide) ?_
  refine va_put (D := D) (ci := 4) (v := .int (zI 0)) (ty := .int) (C := R_Mo) (T := T_Mo) (N := 19) hx hb hkw kin_Mo ty_Mo ty_Mo_ok nm_Mo hown hK hP hD hS 0 rfl rfl 6 (by decide) (hkw _ kw_fieldLink_Mo_95) (fun _ h9 => h9) rfl (by decide +kernel) rfl rfl (Nat.le_of_ble_eq_true rfl) d_Mo_unslot_7 ?_
  clear hP hD hS; intro H locs hP hD hS
  replace hP : va_P D k_cl ([(w 0, .inr (4, [.ref (w 1), .int (zI ↑n), .ref (w 2), .ref (w 3), .ref (w 4), .ref (w 5), .int (zI 0), .ref (w 6), .ref (w 7), .int (zI ↑kn), .ref (w 8), .ref (w 9), .ref (w 10), .int (zI ↑ch), .int (zI le), .ref (w 11), .int (zI sf), .int (zI st), .ref (w 12)]))]) H := hP
  replace hD : va_D A ([(w 0, .inr (4, [.ref (w 1), .int (zI ↑n), .ref (w 2), .ref (w 3), .ref (w 4), .ref (w 5), .int (zI 0), .ref (w 6), .ref (w 7), .int (zI ↑kn), .ref (w 8), .ref (w 9), .ref (w 10), .int (zI ↑ch), .int (zI le), .ref (w 11), .int (zI sf), .int (zI st), .ref (w 12)]))]) := hD
  refine lv_aload_n hx hb d_Mo_unslot_10 rfl (lv_at hl 1 rfl) ?_
  refine lv_iconst (v := zI 0) hx hb d_Mo_unslot_11 (by decide) ?_
  refine va_put (D := D) (ci := 4) (v := .int (zI 0)) (ty := .boolean) (C := R_Mo) (T := T_Mo) (N := 19) hx hb hkw kin_Mo ty_Mo ty_Mo_ok nm_Mo hown hK hP hD hS 0 rfl rfl 9 (by decide) (hkw _ kw_fieldLink_Mo_53) (fun _ h9 => h9) rfl (by decide +kernel) (by decide) (by decide) (Nat.le_of_ble_eq_true rfl) d_Mo_unslot_12 ?_
  clear hP hD hS; intro H locs hP hD hS
  replace hP : va_P D k_cl ([(w 0, .inr (4, [.ref (w 1), .int (zI ↑n), .ref (w 2), .ref (w 3), .ref (w 4), .ref (w 5), .int (zI 0), .ref (w 6), .ref (w 7), .int (zI 0), .ref (w 8), .ref (w 9), .ref (w 10), .int (zI ↑ch), .int (zI le), .ref (w 11), .int (zI sf), .int (zI st), .ref (w 12)]))]) H := hP
  replace hD : va_D A ([(w 0, .inr (4, [.ref (w 1), .int (zI ↑n), .ref (w 2), .ref (w 3), .ref (w 4), .ref (w 5), .int (zI 0), .ref (w 6), .ref (w 7), .int (zI 0), .ref (w 8), .ref (w 9), .ref (w 10), .int (zI ↑ch), .int (zI le), .ref (w 11), .int (zI sf), .int (zI st), .ref (w 12)]))]) := hD
  refine lv_iload_n hx hb d_Mo_unslot_15 rfl (lv_at hl 0 rfl) ?_
  rw [← hQf]
  exact k_iret hx hb hr hlocks hP hS rfl d_Mo_unslot_16

abbrev rm_Mo_fits : Room := { frames := 0, cells := 0, slots := 0, locals := 0 }
set_option maxHeartbeats 4000000 in
set_option maxRecDepth 100000 in
theorem c_Mo_fits (l : Launch) (D : va_G) (cI cR cG : ClassId) (w : Nat → Nat) (n np kn ch : Nat) (le sf st : Int) (s0 p0 : Nat) (t se : Nat → Nat) (pl : Nat → Int) (hs : s0 < 4) (hp : p0 < 30) (ht : ∀ j, t j ≤ 1023) (hse : ∀ j, se j ≤ 1023) (hpl : ∀ j, -1 ≤ pl j ∧ pl j ≤ 30) : k_M l y_Mo_fits (.code y_Mo_fits b_Mo_fits 4 (some .boolean) :: kW) rm_Mo_fits D k_cl (k_ty cI cR cG) [.ref (w 0), .int (zI ↑s0), .int (zI ↑p0)] ([(w 0, .inr (4, [.ref (w 1), .int (zI ↑n), .ref (w 2), .ref (w 3), .ref (w 4), .ref (w 5), .int (zI ↑np), .ref (w 6), .ref (w 7), .int (zI ↑kn), .ref (w 8), .ref (w 9), .ref (w 10), .int (zI ↑ch), .int (zI le), .ref (w 11), .int (zI sf), .int (zI st), .ref (w 12)])), (w 1, .inl (cI, 30, .inl (kA t))), (w 7, .inl (cI, 4, .inl (kA se))), (w 12, .inl (cI, 4, .inl (kZ pl)))]) (k_Qi D k_cl (k_b (gFit t se pl s0 p0 = true)) [(w 0, .inr (4, [.ref (w 1), .int (zI ↑n), .ref (w 2), .ref (w 3), .ref (w 4), .ref (w 5), .int (zI ↑np), .ref (w 6), .ref (w 7), .int (zI ↑kn), .ref (w 8), .ref (w 9), .ref (w 10), .int (zI ↑ch), .int (zI le), .ref (w 11), .int (zI sf), .int (zI st), .ref (w 12)])), (w 1, .inl (cI, 30, .inl (kA t))), (w 7, .inl (cI, 4, .inl (kA se))), (w 12, .inl (cI, 4, .inl (kZ pl)))]) := by
  refine k_start (cc := b_Mo_fits) (maxL := 4) (ret := (some .boolean)) (by decide) rfl (Nat.le_of_ble_eq_true rfl) ?_
  intro p ev s m ar below meth c A ls Qf hQf hx hb hr hml hts hown hlocks hin hK hG hA hP hD hS hl
  replace hown : s.vm.findClass R_Mo = some m.cls := hown
  replace hl : lv_has ls 4 [(0, .ref (w 0)), (1, .int (zI ↑s0)), (2, .int (zI ↑p0))] := hl
  have hkw : ∀ w ∈ kW, w.before ar s = true := fun w h => hts w (List.mem_cons_of_mem _ h)
  replace hP : va_P D k_cl ([(w 0, .inr (4, [.ref (w 1), .int (zI ↑n), .ref (w 2), .ref (w 3), .ref (w 4), .ref (w 5), .int (zI ↑np), .ref (w 6), .ref (w 7), .int (zI ↑kn), .ref (w 8), .ref (w 9), .ref (w 10), .int (zI ↑ch), .int (zI le), .ref (w 11), .int (zI sf), .int (zI st), .ref (w 12)])), (w 1, .inl (cI, 30, .inl (kA t))), (w 7, .inl (cI, 4, .inl (kA se))), (w 12, .inl (cI, 4, .inl (kZ pl)))]) s.heap := hP
  replace hD : va_D A ([(w 0, .inr (4, [.ref (w 1), .int (zI ↑n), .ref (w 2), .ref (w 3), .ref (w 4), .ref (w 5), .int (zI ↑np), .ref (w 6), .ref (w 7), .int (zI ↑kn), .ref (w 8), .ref (w 9), .ref (w 10), .int (zI ↑ch), .int (zI le), .ref (w 11), .int (zI sf), .int (zI st), .ref (w 12)])), (w 1, .inl (cI, 30, .inl (kA t))), (w 7, .inl (cI, 4, .inl (kA se))), (w 12, .inl (cI, 4, .inl (kZ pl)))]) := hD
  refine lv_aload_n hx hb d_Mo_fits_0 rfl (lv_at hl 0 rfl) ?_
  refine va_get (D := D) (ci := 4) (v := .ref (w 1)) (C := R_Mo) (T := T_Mo) (N := 19) hx hb hkw kin_Mo hown hK hP 0 rfl rfl 0 (by decide) (hkw _ kw_fieldLink_Mo_7) (fun _ h9 => h9) rfl d_Mo_fits_1 ?_
  refine lv_iload_n hx hb d_Mo_fits_4 rfl (lv_at hl 2 rfl) ?_
  refine k_ald hx hb hK hP 1 0 rfl rfl (i := p0) (by omega) (by omega) (by omega) d_Mo_fits_5 ?_
  have hv_1 := ht p0
  refine lv_aload_n hx hb d_Mo_fits_6 rfl (lv_at hl 0 rfl) ?_
  refine va_get (D := D) (ci := 4) (v := .ref (w 7)) (C := R_Mo) (T := T_Mo) (N := 19) hx hb hkw kin_Mo hown hK hP 0 rfl rfl 8 (by decide) (hkw _ kw_fieldLink_Mo_28) (fun _ h9 => h9) rfl d_Mo_fits_7 ?_
  refine lv_iload_n hx hb d_Mo_fits_10 rfl (lv_at hl 1 rfl) ?_
  refine k_ald hx hb hK hP 2 0 rfl rfl (i := s0) (by omega) (by omega) (by omega) d_Mo_fits_11 ?_
  have hv_2 := hse s0
  refine k_iand (a := (t p0)) (b := (se s0)) hx hb d_Mo_fits_12 ?_
  have hv_3 := k_and_le (t p0) (se s0) 1023 (by omega)
  refine k_if_ne (tgt := 18) hx hb d_Mo_fits_13 (by decide) ⟨by omega, by omega⟩ (fun c_13 => ?_) (fun c_13 => ?_)
  · refine lv_iconst (v := zI 0) hx hb d_Mo_fits_18 (by decide) ?_
    refine lv_istore_n (lv' := [(3, .int (zI 0)), (0, .ref (w 0)), (1, .int (zI ↑s0)), (2, .int (zI ↑p0))]) hx hb d_Mo_fits_19 rfl hl (by decide) rfl ?_
    clear hl; intro ls hl
    have loop_20 : ∀ (u : Nat) (i : Nat), (i + u = s0) → (gFree pl se s0 ↑p0 u i = gFree pl se s0 ↑p0 s0 0) → ∀ (H : Heap) (locs : List Loc) (ls : Array Slot), va_P D k_cl ([(w 0, .inr (4, [.ref (w 1), .int (zI ↑n), .ref (w 2), .ref (w 3), .ref (w 4), .ref (w 5), .int (zI ↑np), .ref (w 6), .ref (w 7), .int (zI ↑kn), .ref (w 8), .ref (w 9), .ref (w 10), .int (zI ↑ch), .int (zI le), .ref (w 11), .int (zI sf), .int (zI st), .ref (w 12)])), (w 1, .inl (cI, 30, .inl (kA t))), (w 7, .inl (cI, 4, .inl (kA se))), (w 12, .inl (cI, 4, .inl (kZ pl)))]) H → va_D A ([(w 0, .inr (4, [.ref (w 1), .int (zI ↑n), .ref (w 2), .ref (w 3), .ref (w 4), .ref (w 5), .int (zI ↑np), .ref (w 6), .ref (w 7), .int (zI ↑kn), .ref (w 8), .ref (w 9), .ref (w 10), .int (zI ↑ch), .int (zI le), .ref (w 11), .int (zI sf), .int (zI st), .ref (w 12)])), (w 1, .inl (cI, 30, .inl (kA t))), (w 7, .inl (cI, 4, .inl (kA se))), (w 12, .inl (cI, 4, .inl (kZ pl)))]) → va_S A s.heap H locs → lv_has ls 4 [(0, .ref (w 0)), (1, .int (zI ↑s0)), (2, .int (zI ↑p0)), (3, .int (zI ↑i))] → W p l ev rm_Mo_fits s m ar below meth c H locs 0 0 Qf (F0 m 20 ls []) := by
      intro u
      induction u with
      | zero =>
        intro i hin hgo H locs ls hP hD hS hl
        refine lv_iload_n hx hb d_Mo_fits_20 rfl (lv_at hl 3 rfl) ?_
        refine lv_iload_n hx hb d_Mo_fits_21 rfl (lv_at hl 1 rfl) ?_
        refine k_icmp_ge (tgt := 59) hx hb d_Mo_fits_22 (by decide) ⟨by omega, by omega⟩ ⟨by omega, by omega⟩ (fun c_22 => ?_) (fun c_22 => ?_)
        · refine lv_iconst (v := zI 1) hx hb d_Mo_fits_59 (by decide) ?_
          rw [← hQf]
          exact k_zret hx hb hr hlocks hP hS (k_bt (by unfold gFit; rw [← hgo]; simp only [Bool.and_eq_true, decide_eq_true_eq]; exact ⟨by omega, rfl⟩)).symm d_Mo_fits_60
        · exfalso; omega
      | succ u ih_20 =>
        intro i hin hgo H locs ls hP hD hS hl
        refine lv_iload_n hx hb d_Mo_fits_20 rfl (lv_at hl 3 rfl) ?_
        refine lv_iload_n hx hb d_Mo_fits_21 rfl (lv_at hl 1 rfl) ?_
        refine k_icmp_ge (tgt := 59) hx hb d_Mo_fits_22 (by decide) ⟨by omega, by omega⟩ ⟨by omega, by omega⟩ (fun c_22 => ?_) (fun c_22 => ?_)
        · exfalso; omega
        · refine lv_aload_n hx hb d_Mo_fits_25 rfl (lv_at hl 0 rfl) ?_
          refine va_get (D := D) (ci := 4) (v := .ref (w 12)) (C := R_Mo) (T := T_Mo) (N := 19) hx hb hkw kin_Mo hown hK hP 0 rfl rfl 18 (by decide) (hkw _ kw_fieldLink_Mo_43) (fun _ h9 => h9) rfl d_Mo_fits_26 ?_
          refine lv_iload_n hx hb d_Mo_fits_29 rfl (lv_at hl 3 rfl) ?_
          refine k_aldZ hx hb hK hP 3 0 rfl rfl (i := i) (by omega) (by omega) (by omega) d_Mo_fits_30 ?_
          have hv_4 := hpl i
          refine lv_iload_n hx hb d_Mo_fits_31 rfl (lv_at hl 2 rfl) ?_
          refine k_icmp_ne (tgt := 53) hx hb d_Mo_fits_32 (by decide) ⟨by omega, by omega⟩ ⟨by omega, by omega⟩ (fun c_32 => ?_) (fun c_32 => ?_)
          · refine k_iinc (v := ↑(i + 1)) (lv' := [(3, .int (zI (↑(i + 1)))), (0, .ref (w 0)), (1, .int (zI ↑s0)), (2, .int (zI ↑p0))]) hx hb d_Mo_fits_53 hl (k := 3) rfl (by omega) (by decide) rfl ?_
            clear hl; intro ls hl
            refine lv_goto (tgt := 20) hx hb d_Mo_fits_56 (by decide) ?_
            exact ih_20 (i + 1) (by omega) (by rw [gFree] at hgo; (repeat' split at hgo); all_goals first | exact hgo | (exfalso; omega)) _ _ _ hP hD hS (lv_sub hl [1, 2, 3, 0] rfl)
          · refine lv_aload_n hx hb d_Mo_fits_35 rfl (lv_at hl 0 rfl) ?_
            refine va_get (D := D) (ci := 4) (v := .ref (w 7)) (C := R_Mo) (T := T_Mo) (N := 19) hx hb hkw kin_Mo hown hK hP 0 rfl rfl 8 (by decide) (hkw _ kw_fieldLink_Mo_28) (fun _ h9 => h9) rfl d_Mo_fits_36 ?_
            refine lv_iload_n hx hb d_Mo_fits_39 rfl (lv_at hl 3 rfl) ?_
            refine k_ald hx hb hK hP 2 0 rfl rfl (i := i) (by omega) (by omega) (by omega) d_Mo_fits_40 ?_
            have hv_5 := hse i
            refine lv_aload_n hx hb d_Mo_fits_41 rfl (lv_at hl 0 rfl) ?_
            refine va_get (D := D) (ci := 4) (v := .ref (w 7)) (C := R_Mo) (T := T_Mo) (N := 19) hx hb hkw kin_Mo hown hK hP 0 rfl rfl 8 (by decide) (hkw _ kw_fieldLink_Mo_28) (fun _ h9 => h9) rfl d_Mo_fits_42 ?_
            refine lv_iload_n hx hb d_Mo_fits_45 rfl (lv_at hl 1 rfl) ?_
            refine k_ald hx hb hK hP 2 0 rfl rfl (i := s0) (by omega) (by omega) (by omega) d_Mo_fits_46 ?_
            have hv_6 := hse s0
            refine k_iand (a := (se i)) (b := (se s0)) hx hb d_Mo_fits_47 ?_
            have hv_7 := k_and_le (se i) (se s0) 1023 (by omega)
            refine k_if_eq (tgt := 53) hx hb d_Mo_fits_48 (by decide) ⟨by omega, by omega⟩ (fun c_48 => ?_) (fun c_48 => ?_)
            · refine k_iinc (v := ↑(i + 1)) (lv' := [(3, .int (zI (↑(i + 1)))), (0, .ref (w 0)), (1, .int (zI ↑s0)), (2, .int (zI ↑p0))]) hx hb d_Mo_fits_53 hl (k := 3) rfl (by omega) (by decide) rfl ?_
              clear hl; intro ls hl
              refine lv_goto (tgt := 20) hx hb d_Mo_fits_56 (by decide) ?_
              exact ih_20 (i + 1) (by omega) (by rw [gFree] at hgo; (repeat' split at hgo); all_goals first | exact hgo | (exfalso; omega)) _ _ _ hP hD hS (lv_sub hl [1, 2, 3, 0] rfl)
            · refine lv_iconst (v := zI 0) hx hb d_Mo_fits_51 (by decide) ?_
              rw [← hQf]
              exact k_zret hx hb hr hlocks hP hS (k_bf (by unfold gFit; rw [← hgo, gFree]; simp only [Bool.and_eq_true, decide_eq_true_eq]; intro h9; have h8 := h9.2; (repeat' split at h8); all_goals first | (exfalso; omega) | (exact absurd h8 (by simp)))).symm d_Mo_fits_52
    exact loop_20 s0 0 (by omega) rfl _ _ _ hP hD hS (lv_sub hl [1, 2, 3, 0] rfl)
  · refine lv_iconst (v := zI 0) hx hb d_Mo_fits_16 (by decide) ?_
    rw [← hQf]
    exact k_zret hx hb hr hlocks hP hS (k_bf (by unfold gFit; simp only [Bool.and_eq_true, decide_eq_true_eq]; intro h9; have := h9.1; omega)).symm d_Mo_fits_17

abbrev rm_Mo_moved : Room := { frames := 0, cells := 0, slots := 0, locals := 0 }
set_option maxHeartbeats 4000000 in
set_option maxRecDepth 100000 in
theorem c_Mo_moved (l : Launch) (D : va_G) (cI cR cG : ClassId) (w : Nat → Nat) (n np kn ch : Nat) (le sf st : Int) (of : Nat → Nat) (pl : Nat → Int) (hnp : np ≤ 4) (hof : ∀ j, of j ≤ 9) (hpl : ∀ j, -1 ≤ pl j ∧ pl j ≤ 30) : k_M l y_Mo_moved (.code y_Mo_moved b_Mo_moved 6 (some .int) :: kW) rm_Mo_moved D k_cl (k_ty cI cR cG) [.ref (w 0)] ([(w 0, .inr (4, [.ref (w 1), .int (zI ↑n), .ref (w 2), .ref (w 3), .ref (w 4), .ref (w 5), .int (zI ↑np), .ref (w 6), .ref (w 7), .int (zI ↑kn), .ref (w 8), .ref (w 9), .ref (w 10), .int (zI ↑ch), .int (zI le), .ref (w 11), .int (zI sf), .int (zI st), .ref (w 12)])), (w 6, .inl (cI, 4, .inl (kA of))), (w 12, .inl (cI, 4, .inl (kZ pl)))]) (k_Qi D k_cl (zI (gMoved pl of np)) [(w 0, .inr (4, [.ref (w 1), .int (zI ↑n), .ref (w 2), .ref (w 3), .ref (w 4), .ref (w 5), .int (zI ↑np), .ref (w 6), .ref (w 7), .int (zI ↑kn), .ref (w 8), .ref (w 9), .ref (w 10), .int (zI ↑ch), .int (zI le), .ref (w 11), .int (zI sf), .int (zI st), .ref (w 12)])), (w 6, .inl (cI, 4, .inl (kA of))), (w 12, .inl (cI, 4, .inl (kZ pl)))]) := by
  refine k_start (cc := b_Mo_moved) (maxL := 6) (ret := (some .int)) (by decide) rfl (Nat.le_of_ble_eq_true rfl) ?_
  intro p ev s m ar below meth c A ls Qf hQf hx hb hr hml hts hown hlocks hin hK hG hA hP hD hS hl
  replace hown : s.vm.findClass R_Mo = some m.cls := hown
  replace hl : lv_has ls 6 [(0, .ref (w 0))] := hl
  have hkw : ∀ w ∈ kW, w.before ar s = true := fun w h => hts w (List.mem_cons_of_mem _ h)
  replace hP : va_P D k_cl ([(w 0, .inr (4, [.ref (w 1), .int (zI ↑n), .ref (w 2), .ref (w 3), .ref (w 4), .ref (w 5), .int (zI ↑np), .ref (w 6), .ref (w 7), .int (zI ↑kn), .ref (w 8), .ref (w 9), .ref (w 10), .int (zI ↑ch), .int (zI le), .ref (w 11), .int (zI sf), .int (zI st), .ref (w 12)])), (w 6, .inl (cI, 4, .inl (kA of))), (w 12, .inl (cI, 4, .inl (kZ pl)))]) s.heap := hP
  replace hD : va_D A ([(w 0, .inr (4, [.ref (w 1), .int (zI ↑n), .ref (w 2), .ref (w 3), .ref (w 4), .ref (w 5), .int (zI ↑np), .ref (w 6), .ref (w 7), .int (zI ↑kn), .ref (w 8), .ref (w 9), .ref (w 10), .int (zI ↑ch), .int (zI le), .ref (w 11), .int (zI sf), .int (zI st), .ref (w 12)])), (w 6, .inl (cI, 4, .inl (kA of))), (w 12, .inl (cI, 4, .inl (kZ pl)))]) := hD
  refine lv_ldc (v := zI 1000000) hx hb hown (hkw _ kw_constant_Mo_98) d_Mo_moved_0 ?_
  refine lv_istore_n (lv' := [(1, .int (zI 1000000)), (0, .ref (w 0))]) hx hb d_Mo_moved_2 rfl hl (by decide) rfl ?_
  clear hl; intro ls hl
  refine lv_bipush (v := zI (-9)) hx hb d_Mo_moved_3 (by decide) ?_
  refine k_stk (st2 := [.int (zI (↑0 - 9))]) (by rw [show ((-9) : Int) = ↑0 - 9 from by omega]) ?_
  refine lv_istore_n (lv' := [(2, .int (zI (↑0 - 9))), (1, .int (zI 1000000)), (0, .ref (w 0))]) hx hb d_Mo_moved_5 rfl hl (by decide) rfl ?_
  clear hl; intro ls hl
  have loop_6 : ∀ (u : Nat) (mi : Nat) (bs : Int), (mi + u = 39) → (0 ≤ bs ∧ bs ≤ 1000000) → (gBest pl of np u mi bs = gMoved pl of np) → ∀ (H : Heap) (locs : List Loc) (ls : Array Slot), va_P D k_cl ([(w 0, .inr (4, [.ref (w 1), .int (zI ↑n), .ref (w 2), .ref (w 3), .ref (w 4), .ref (w 5), .int (zI ↑np), .ref (w 6), .ref (w 7), .int (zI ↑kn), .ref (w 8), .ref (w 9), .ref (w 10), .int (zI ↑ch), .int (zI le), .ref (w 11), .int (zI sf), .int (zI st), .ref (w 12)])), (w 6, .inl (cI, 4, .inl (kA of))), (w 12, .inl (cI, 4, .inl (kZ pl)))]) H → va_D A ([(w 0, .inr (4, [.ref (w 1), .int (zI ↑n), .ref (w 2), .ref (w 3), .ref (w 4), .ref (w 5), .int (zI ↑np), .ref (w 6), .ref (w 7), .int (zI ↑kn), .ref (w 8), .ref (w 9), .ref (w 10), .int (zI ↑ch), .int (zI le), .ref (w 11), .int (zI sf), .int (zI st), .ref (w 12)])), (w 6, .inl (cI, 4, .inl (kA of))), (w 12, .inl (cI, 4, .inl (kZ pl)))]) → va_S A s.heap H locs → lv_has ls 6 [(0, .ref (w 0)), (1, .int (zI bs)), (2, .int (zI (↑mi - 9)))] → W p l ev rm_Mo_moved s m ar below meth c H locs 0 0 Qf (F0 m 6 ls []) := by
    intro u
    induction u with
    | zero =>
      intro mi bs hin hbs hgo H locs ls hP hD hS hl
      refine lv_iload_n hx hb d_Mo_moved_6 rfl (lv_at hl 2 rfl) ?_
      refine lv_bipush (v := zI 30) hx hb d_Mo_moved_7 (by decide) ?_
      refine k_icmp_ge (tgt := 84) hx hb d_Mo_moved_9 (by decide) ⟨by omega, by omega⟩ ⟨by omega, by omega⟩ (fun c_9 => ?_) (fun c_9 => ?_)
      · refine lv_iload_n hx hb d_Mo_moved_84 rfl (lv_at hl 1 rfl) ?_
        rw [← hQf]
        exact k_iret hx hb hr hlocks hP hS (by rw [← hgo]; rfl) d_Mo_moved_85
      · exfalso; omega
    | succ u ih_6 =>
      intro mi bs hin hbs hgo H locs ls hP hD hS hl
      refine lv_iload_n hx hb d_Mo_moved_6 rfl (lv_at hl 2 rfl) ?_
      refine lv_bipush (v := zI 30) hx hb d_Mo_moved_7 (by decide) ?_
      refine k_icmp_ge (tgt := 84) hx hb d_Mo_moved_9 (by decide) ⟨by omega, by omega⟩ ⟨by omega, by omega⟩ (fun c_9 => ?_) (fun c_9 => ?_)
      · exfalso; omega
      · refine lv_iconst (v := zI 0) hx hb d_Mo_moved_12 (by decide) ?_
        refine lv_istore_n (lv' := [(3, .int (zI 0)), (0, .ref (w 0)), (1, .int (zI bs)), (2, .int (zI (↑mi - 9)))]) hx hb d_Mo_moved_13 rfl hl (by decide) rfl ?_
        clear hl; intro ls hl
        refine lv_iconst (v := zI 0) hx hb d_Mo_moved_14 (by decide) ?_
        refine lv_istore (lv' := [(4, .int (zI 0)), (3, .int (zI 0)), (0, .ref (w 0)), (1, .int (zI bs)), (2, .int (zI (↑mi - 9)))]) hx hb d_Mo_moved_15 hl (by decide) rfl ?_
        clear hl; intro ls hl
        have loop_17 : ∀ (u2 : Nat) (i : Nat) (sm : Int), (i + u2 = np) → (0 ≤ sm ∧ sm ≤ 40 * ↑i) → (gSum pl of (↑mi - 9) u2 i sm = gSum pl of (↑mi - 9) np 0 0) → ∀ (H : Heap) (locs : List Loc) (ls : Array Slot), va_P D k_cl ([(w 0, .inr (4, [.ref (w 1), .int (zI ↑n), .ref (w 2), .ref (w 3), .ref (w 4), .ref (w 5), .int (zI ↑np), .ref (w 6), .ref (w 7), .int (zI ↑kn), .ref (w 8), .ref (w 9), .ref (w 10), .int (zI ↑ch), .int (zI le), .ref (w 11), .int (zI sf), .int (zI st), .ref (w 12)])), (w 6, .inl (cI, 4, .inl (kA of))), (w 12, .inl (cI, 4, .inl (kZ pl)))]) H → va_D A ([(w 0, .inr (4, [.ref (w 1), .int (zI ↑n), .ref (w 2), .ref (w 3), .ref (w 4), .ref (w 5), .int (zI ↑np), .ref (w 6), .ref (w 7), .int (zI ↑kn), .ref (w 8), .ref (w 9), .ref (w 10), .int (zI ↑ch), .int (zI le), .ref (w 11), .int (zI sf), .int (zI st), .ref (w 12)])), (w 6, .inl (cI, 4, .inl (kA of))), (w 12, .inl (cI, 4, .inl (kZ pl)))]) → va_S A s.heap H locs → lv_has ls 6 [(0, .ref (w 0)), (1, .int (zI bs)), (2, .int (zI (↑mi - 9))), (3, .int (zI sm)), (4, .int (zI ↑i))] → W p l ev rm_Mo_moved s m ar below meth c H locs 0 0 Qf (F0 m 17 ls []) := by
          intro u2
          induction u2 with
          | zero =>
            intro i sm hin2 hsm hgo2 H locs ls hP hD hS hl
            refine lv_iload hx hb d_Mo_moved_17 (lv_at hl 4 rfl) ?_
            refine lv_aload_n hx hb d_Mo_moved_19 rfl (lv_at hl 0 rfl) ?_
            refine va_get (D := D) (ci := 4) (v := .int (zI ↑np)) (C := R_Mo) (T := T_Mo) (N := 19) hx hb hkw kin_Mo hown hK hP 0 rfl rfl 6 (by decide) (hkw _ kw_fieldLink_Mo_95) (fun _ h9 => h9) rfl d_Mo_moved_20 ?_
            refine k_icmp_ge (tgt := 67) hx hb d_Mo_moved_23 (by decide) ⟨by omega, by omega⟩ ⟨by omega, by omega⟩ (fun c_23 => ?_) (fun c_23 => ?_)
            · refine lv_iload_n hx hb d_Mo_moved_67 rfl (lv_at hl 3 rfl) ?_
              refine lv_iload_n hx hb d_Mo_moved_68 rfl (lv_at hl 1 rfl) ?_
              refine k_icmp_ge (tgt := 76) hx hb d_Mo_moved_69 (by decide) ⟨by omega, by omega⟩ ⟨by omega, by omega⟩ (fun c_69 => ?_) (fun c_69 => ?_)
              · refine lv_iload_n hx hb d_Mo_moved_76 rfl (lv_at hl 1 rfl) ?_
                refine lv_istore_n (lv' := [(1, .int (zI bs)), (0, .ref (w 0)), (2, .int (zI (↑mi - 9))), (3, .int (zI sm)), (4, .int (zI ↑i))]) hx hb d_Mo_moved_77 rfl hl (by decide) rfl ?_
                clear hl; intro ls hl
                refine k_iinc (v := ↑(mi + 1) - 9) (lv' := [(2, .int (zI (↑(mi + 1) - 9))), (1, .int (zI bs)), (0, .ref (w 0)), (3, .int (zI sm)), (4, .int (zI ↑i))]) hx hb d_Mo_moved_78 hl (k := 2) rfl (by omega) (by decide) rfl ?_
                clear hl; intro ls hl
                refine lv_goto (tgt := 6) hx hb d_Mo_moved_81 (by decide) ?_
                exact ih_6 (mi + 1) bs (by omega) (by omega) (by have h22 : sm = gSum pl of (↑mi - 9) np 0 0 := hgo2; rw [gBest, ← h22, if_neg (by omega)] at hgo; exact hgo) _ _ _ hP hD hS (lv_sub hl [2, 1, 0] rfl)
              · refine lv_iload_n hx hb d_Mo_moved_72 rfl (lv_at hl 3 rfl) ?_
                refine lv_goto (tgt := 77) hx hb d_Mo_moved_73 (by decide) ?_
                refine lv_istore_n (lv' := [(1, .int (zI sm)), (0, .ref (w 0)), (2, .int (zI (↑mi - 9))), (3, .int (zI sm)), (4, .int (zI ↑i))]) hx hb d_Mo_moved_77 rfl hl (by decide) rfl ?_
                clear hl; intro ls hl
                refine k_iinc (v := ↑(mi + 1) - 9) (lv' := [(2, .int (zI (↑(mi + 1) - 9))), (1, .int (zI sm)), (0, .ref (w 0)), (3, .int (zI sm)), (4, .int (zI ↑i))]) hx hb d_Mo_moved_78 hl (k := 2) rfl (by omega) (by decide) rfl ?_
                clear hl; intro ls hl
                refine lv_goto (tgt := 6) hx hb d_Mo_moved_81 (by decide) ?_
                exact ih_6 (mi + 1) sm (by omega) (by omega) (by have h22 : sm = gSum pl of (↑mi - 9) np 0 0 := hgo2; rw [gBest, ← h22, if_pos (by omega)] at hgo; exact hgo) _ _ _ hP hD hS (lv_sub hl [2, 1, 0] rfl)
            · exfalso; omega
          | succ u2 ih_17 =>
            intro i sm hin2 hsm hgo2 H locs ls hP hD hS hl
            refine lv_iload hx hb d_Mo_moved_17 (lv_at hl 4 rfl) ?_
            refine lv_aload_n hx hb d_Mo_moved_19 rfl (lv_at hl 0 rfl) ?_
            refine va_get (D := D) (ci := 4) (v := .int (zI ↑np)) (C := R_Mo) (T := T_Mo) (N := 19) hx hb hkw kin_Mo hown hK hP 0 rfl rfl 6 (by decide) (hkw _ kw_fieldLink_Mo_95) (fun _ h9 => h9) rfl d_Mo_moved_20 ?_
            refine k_icmp_ge (tgt := 67) hx hb d_Mo_moved_23 (by decide) ⟨by omega, by omega⟩ ⟨by omega, by omega⟩ (fun c_23 => ?_) (fun c_23 => ?_)
            · exfalso; omega
            · refine lv_aload_n hx hb d_Mo_moved_26 rfl (lv_at hl 0 rfl) ?_
              refine va_get (D := D) (ci := 4) (v := .ref (w 12)) (C := R_Mo) (T := T_Mo) (N := 19) hx hb hkw kin_Mo hown hK hP 0 rfl rfl 18 (by decide) (hkw _ kw_fieldLink_Mo_43) (fun _ h9 => h9) rfl d_Mo_moved_27 ?_
              refine lv_iload hx hb d_Mo_moved_30 (lv_at hl 4 rfl) ?_
              refine k_aldZ hx hb hK hP 2 0 rfl rfl (i := i) (by omega) (by omega) (by omega) d_Mo_moved_32 ?_
              have hv_1 := hpl i
              refine lv_aload_n hx hb d_Mo_moved_33 rfl (lv_at hl 0 rfl) ?_
              refine va_get (D := D) (ci := 4) (v := .ref (w 6)) (C := R_Mo) (T := T_Mo) (N := 19) hx hb hkw kin_Mo hown hK hP 0 rfl rfl 7 (by decide) (hkw _ kw_fieldLink_Mo_25) (fun _ h9 => h9) rfl d_Mo_moved_34 ?_
              refine lv_iload hx hb d_Mo_moved_37 (lv_at hl 4 rfl) ?_
              refine k_ald hx hb hK hP 1 0 rfl rfl (i := i) (by omega) (by omega) (by omega) d_Mo_moved_39 ?_
              have hv_2 := hof i
              refine k_isub hx hb d_Mo_moved_40 rfl ?_
              refine lv_iload_n hx hb d_Mo_moved_41 rfl (lv_at hl 2 rfl) ?_
              refine k_isub (v := pl i - ↑(of i) - (↑mi - 9)) hx hb d_Mo_moved_42 (by omega) ?_
              refine lv_istore (lv' := [(5, .int (zI (pl i - ↑(of i) - (↑mi - 9)))), (0, .ref (w 0)), (1, .int (zI bs)), (2, .int (zI (↑mi - 9))), (3, .int (zI sm)), (4, .int (zI ↑i))]) hx hb d_Mo_moved_43 hl (by decide) rfl ?_
              clear hl; intro ls hl
              refine lv_iload_n hx hb d_Mo_moved_45 rfl (lv_at hl 4 rfl) ?_
              refine lv_iload hx hb d_Mo_moved_46 (lv_at hl 0 rfl) ?_
              refine k_if_ge (tgt := 57) hx hb d_Mo_moved_48 (by decide) ⟨by omega, by omega⟩ (fun c_48 => ?_) (fun c_48 => ?_)
              · refine lv_iload hx hb d_Mo_moved_57 (lv_at hl 0 rfl) ?_
                refine k_iadd (v := sm + ↑((pl i - ↑(of i) - (↑mi - 9)).natAbs)) hx hb d_Mo_moved_59 (by omega) ?_
                refine lv_istore_n (lv' := [(3, .int (zI (sm + ↑((pl i - ↑(of i) - (↑mi - 9)).natAbs)))), (5, .int (zI (pl i - ↑(of i) - (↑mi - 9)))), (0, .ref (w 0)), (1, .int (zI bs)), (2, .int (zI (↑mi - 9))), (4, .int (zI ↑i))]) hx hb d_Mo_moved_60 rfl hl (by decide) rfl ?_
                clear hl; intro ls hl
                refine k_iinc (v := ↑(i + 1)) (lv' := [(4, .int (zI (↑(i + 1)))), (3, .int (zI (sm + ↑((pl i - ↑(of i) - (↑mi - 9)).natAbs)))), (5, .int (zI (pl i - ↑(of i) - (↑mi - 9)))), (0, .ref (w 0)), (1, .int (zI bs)), (2, .int (zI (↑mi - 9)))]) hx hb d_Mo_moved_61 hl (k := 5) rfl (by omega) (by decide) rfl ?_
                clear hl; intro ls hl
                refine lv_goto (tgt := 17) hx hb d_Mo_moved_64 (by decide) ?_
                exact ih_17 (i + 1) _ (by omega) (by omega) hgo2 _ _ _ hP hD hS (lv_sub hl [3, 4, 5, 1, 0] rfl)
              · refine lv_iload hx hb d_Mo_moved_51 (lv_at hl 0 rfl) ?_
                refine k_ineg (v := -(pl i - ↑(of i) - (↑mi - 9))) hx hb d_Mo_moved_53 (by omega) ?_
                refine lv_goto (tgt := 59) hx hb d_Mo_moved_54 (by decide) ?_
                refine k_iadd (v := sm + ↑((pl i - ↑(of i) - (↑mi - 9)).natAbs)) hx hb d_Mo_moved_59 (by omega) ?_
                refine lv_istore_n (lv' := [(3, .int (zI (sm + ↑((pl i - ↑(of i) - (↑mi - 9)).natAbs)))), (5, .int (zI (pl i - ↑(of i) - (↑mi - 9)))), (0, .ref (w 0)), (1, .int (zI bs)), (2, .int (zI (↑mi - 9))), (4, .int (zI ↑i))]) hx hb d_Mo_moved_60 rfl hl (by decide) rfl ?_
                clear hl; intro ls hl
                refine k_iinc (v := ↑(i + 1)) (lv' := [(4, .int (zI (↑(i + 1)))), (3, .int (zI (sm + ↑((pl i - ↑(of i) - (↑mi - 9)).natAbs)))), (5, .int (zI (pl i - ↑(of i) - (↑mi - 9)))), (0, .ref (w 0)), (1, .int (zI bs)), (2, .int (zI (↑mi - 9)))]) hx hb d_Mo_moved_61 hl (k := 5) rfl (by omega) (by decide) rfl ?_
                clear hl; intro ls hl
                refine lv_goto (tgt := 17) hx hb d_Mo_moved_64 (by decide) ?_
                exact ih_17 (i + 1) _ (by omega) (by omega) hgo2 _ _ _ hP hD hS (lv_sub hl [3, 4, 5, 1, 0] rfl)
        exact loop_17 np 0 0 (by omega) (by omega) rfl _ _ _ hP hD hS (lv_sub hl [2, 3, 4, 1, 0] rfl)
  exact loop_6 39 0 1000000 (by omega) (by omega) rfl _ _ _ hP hD hS (lv_sub hl [2, 1, 0] rfl)

abbrev rm_Mo_choose : Room := { frames := 1, cells := 0, slots := 0, locals := 25 }
set_option maxHeartbeats 4000000 in
set_option maxRecDepth 100000 in
theorem c_Mo_choose (l : Launch) (D : va_G) (cI cR cG : ClassId) (w : Nat → Nat) (n np kn ch : Nat) (le sf st : Int) (of mn : Nat → Nat) (fi pl : Nat → Int) (hnp : np ≤ 4) (hof : ∀ j, of j ≤ 9) (hpl : ∀ j, -1 ≤ pl j ∧ pl j ≤ 30) (hok : gOK (mn, ch, le, fi, sf, st)) (hch : ch ≤ 1000000) : k_M l y_Mo_choose (.code y_Mo_choose b_Mo_choose 5 none :: kW) rm_Mo_choose D k_cl (k_ty cI cR cG) [.ref (w 0)] ([(w 0, .inr (4, [.ref (w 1), .int (zI ↑n), .ref (w 2), .ref (w 3), .ref (w 4), .ref (w 5), .int (zI ↑np), .ref (w 6), .ref (w 7), .int (zI ↑kn), .ref (w 8), .ref (w 9), .ref (w 10), .int (zI ↑ch), .int (zI le), .ref (w 11), .int (zI sf), .int (zI st), .ref (w 12)])), (w 6, .inl (cI, 4, .inl (kA of))), (w 10, .inl (cI, 200, .inl (kA mn))), (w 11, .inl (cI, 4, .inl (kZ fi))), (w 12, .inl (cI, 4, .inl (kZ pl)))]) (k_Qv D k_cl [(w 0, .inr (4, [.ref (w 1), .int (zI ↑n), .ref (w 2), .ref (w 3), .ref (w 4), .ref (w 5), .int (zI ↑np), .ref (w 6), .ref (w 7), .int (zI ↑kn), .ref (w 8), .ref (w 9), .ref (w 10), .int (zI (↑((gChoose of np pl (mn, ch, le, fi, sf, st)).2.1))), .int (zI ((gChoose of np pl (mn, ch, le, fi, sf, st)).2.2.1)), .ref (w 11), .int (zI ((gChoose of np pl (mn, ch, le, fi, sf, st)).2.2.2.2.1)), .int (zI ((gChoose of np pl (mn, ch, le, fi, sf, st)).2.2.2.2.2)), .ref (w 12)])), (w 6, .inl (cI, 4, .inl (kA of))), (w 10, .inl (cI, 200, .inl (kA ((gChoose of np pl (mn, ch, le, fi, sf, st)).1)))), (w 11, .inl (cI, 4, .inl (kZ ((gChoose of np pl (mn, ch, le, fi, sf, st)).2.2.2.1)))), (w 12, .inl (cI, 4, .inl (kZ pl)))]) := by
  refine k_start (cc := b_Mo_choose) (maxL := 5) (ret := none) (by decide) rfl (Nat.le_of_ble_eq_true rfl) ?_
  intro p ev s m ar below meth c A ls Qf hQf hx hb hr hml hts hown hlocks hin hK hG hA hP hD hS hl
  replace hown : s.vm.findClass R_Mo = some m.cls := hown
  replace hl : lv_has ls 5 [(0, .ref (w 0))] := hl
  have hkw : ∀ w ∈ kW, w.before ar s = true := fun w h => hts w (List.mem_cons_of_mem _ h)
  replace hP : va_P D k_cl ([(w 0, .inr (4, [.ref (w 1), .int (zI ↑n), .ref (w 2), .ref (w 3), .ref (w 4), .ref (w 5), .int (zI ↑np), .ref (w 6), .ref (w 7), .int (zI ↑kn), .ref (w 8), .ref (w 9), .ref (w 10), .int (zI ↑ch), .int (zI le), .ref (w 11), .int (zI sf), .int (zI st), .ref (w 12)])), (w 6, .inl (cI, 4, .inl (kA of))), (w 10, .inl (cI, 200, .inl (kA mn))), (w 11, .inl (cI, 4, .inl (kZ fi))), (w 12, .inl (cI, 4, .inl (kZ pl)))]) s.heap := hP
  replace hD : va_D A ([(w 0, .inr (4, [.ref (w 1), .int (zI ↑n), .ref (w 2), .ref (w 3), .ref (w 4), .ref (w 5), .int (zI ↑np), .ref (w 6), .ref (w 7), .int (zI ↑kn), .ref (w 8), .ref (w 9), .ref (w 10), .int (zI ↑ch), .int (zI le), .ref (w 11), .int (zI sf), .int (zI st), .ref (w 12)])), (w 6, .inl (cI, 4, .inl (kA of))), (w 10, .inl (cI, 200, .inl (kA mn))), (w 11, .inl (cI, 4, .inl (kZ fi))), (w 12, .inl (cI, 4, .inl (kZ pl)))]) := hD
  have hby := gMoved_bd hpl hof hnp
  obtain ⟨hk1, hk2, hk3⟩ := hok
  dsimp only at hk1 hk2 hk3
  have hfr := gFrom_bd hpl np 0 30 (by omega)
  have hto := gTo_bd hpl np 0 (-1) (by omega)
  refine lv_aload_n hx hb d_Mo_choose_0 rfl (lv_at hl 0 rfl) ?_
  refine k_beI (va_runV (As := []) (rest := []) ⟨hx, hb, hml, hown, hkw⟩ (c_Mo_moved l D cI cR cG w n np kn ch le sf st of pl (by omega) hof hpl _) (cwV 0 hkw (k_gV kw_methodLink_Mo_99 kw_instanceMethod_Mo_moved kw_selects_Mo_moved kw_initialized_Mo kw_code_Mo_moved) rfl rfl rfl (by decide +kernel) ⟨(Nat.le_of_ble_eq_true rfl), (Nat.le_of_ble_eq_true rfl)⟩) (k_preV (q0 := 0) hK hG hP hD [0, 1, 4] rfl rfl rfl rfl) rfl rfl hl.1 rfl (lv_room (Nat.le_of_ble_eq_true rfl)) d_Mo_choose_1 ⟨Nat.zero_le _, Nat.zero_le _⟩) hP hD hS hA [0, 1, 4] rfl (Eq.trans (b := [w 0, w 6, w 12]) rfl rfl) ?_
  clear hP hD hS; intro H locs hP hD hS
  replace hP : va_P D k_cl ([(w 0, .inr (4, [.ref (w 1), .int (zI ↑n), .ref (w 2), .ref (w 3), .ref (w 4), .ref (w 5), .int (zI ↑np), .ref (w 6), .ref (w 7), .int (zI ↑kn), .ref (w 8), .ref (w 9), .ref (w 10), .int (zI ↑ch), .int (zI le), .ref (w 11), .int (zI sf), .int (zI st), .ref (w 12)])), (w 6, .inl (cI, 4, .inl (kA of))), (w 10, .inl (cI, 200, .inl (kA mn))), (w 11, .inl (cI, 4, .inl (kZ fi))), (w 12, .inl (cI, 4, .inl (kZ pl)))]) H := hP
  replace hD : va_D A ([(w 0, .inr (4, [.ref (w 1), .int (zI ↑n), .ref (w 2), .ref (w 3), .ref (w 4), .ref (w 5), .int (zI ↑np), .ref (w 6), .ref (w 7), .int (zI ↑kn), .ref (w 8), .ref (w 9), .ref (w 10), .int (zI ↑ch), .int (zI le), .ref (w 11), .int (zI sf), .int (zI st), .ref (w 12)])), (w 6, .inl (cI, 4, .inl (kA of))), (w 10, .inl (cI, 200, .inl (kA mn))), (w 11, .inl (cI, 4, .inl (kZ fi))), (w 12, .inl (cI, 4, .inl (kZ pl)))]) := hD
  refine lv_istore_n (lv' := [(1, .int (zI (gMoved pl of np))), (0, .ref (w 0))]) hx hb d_Mo_choose_4 rfl hl (by decide) rfl ?_
  clear hl; intro ls hl
  refine lv_aload_n hx hb d_Mo_choose_5 rfl (lv_at hl 1 rfl) ?_
  refine va_get (D := D) (ci := 4) (v := .ref (w 10)) (C := R_Mo) (T := T_Mo) (N := 19) hx hb hkw kin_Mo hown hK hP 0 rfl rfl 12 (by decide) (hkw _ kw_fieldLink_Mo_37) (fun _ h9 => h9) rfl d_Mo_choose_6 ?_
  refine lv_iload_n hx hb d_Mo_choose_9 rfl (lv_at hl 0 rfl) ?_
  refine lv_dup2_11 hx hb d_Mo_choose_10 rfl rfl ?_
  refine k_ald hx hb hK hP 2 0 rfl rfl (i := (gMoved pl of np).toNat) (by omega) (by omega) (by omega) d_Mo_choose_11 ?_
  refine lv_iconst (v := zI 1) hx hb d_Mo_choose_12 (by decide) ?_
  refine k_iadd (v := ↑(mn (gMoved pl of np).toNat + 1)) hx hb d_Mo_choose_13 (by omega) ?_
  refine k_ast hx hb hK hP hD hS 2 0 rfl rfl (i := (gMoved pl of np).toNat) (v := (mn (gMoved pl of np).toNat + 1)) (by omega) (by omega) (by omega) (by omega) d_Mo_choose_14 ?_
  clear hP hD hS; intro H locs hP hD hS
  replace hP : va_P D k_cl ([(w 0, .inr (4, [.ref (w 1), .int (zI ↑n), .ref (w 2), .ref (w 3), .ref (w 4), .ref (w 5), .int (zI ↑np), .ref (w 6), .ref (w 7), .int (zI ↑kn), .ref (w 8), .ref (w 9), .ref (w 10), .int (zI ↑ch), .int (zI le), .ref (w 11), .int (zI sf), .int (zI st), .ref (w 12)])), (w 6, .inl (cI, 4, .inl (kA of))), (w 10, .inl (cI, 200, .inl (kA (va_up mn ((gMoved pl of np).toNat) (mn (gMoved pl of np).toNat + 1))))), (w 11, .inl (cI, 4, .inl (kZ fi))), (w 12, .inl (cI, 4, .inl (kZ pl)))]) H := hP
  replace hD : va_D A ([(w 0, .inr (4, [.ref (w 1), .int (zI ↑n), .ref (w 2), .ref (w 3), .ref (w 4), .ref (w 5), .int (zI ↑np), .ref (w 6), .ref (w 7), .int (zI ↑kn), .ref (w 8), .ref (w 9), .ref (w 10), .int (zI ↑ch), .int (zI le), .ref (w 11), .int (zI sf), .int (zI st), .ref (w 12)])), (w 6, .inl (cI, 4, .inl (kA of))), (w 10, .inl (cI, 200, .inl (kA (va_up mn ((gMoved pl of np).toNat) (mn (gMoved pl of np).toNat + 1))))), (w 11, .inl (cI, 4, .inl (kZ fi))), (w 12, .inl (cI, 4, .inl (kZ pl)))]) := hD
  have join_63 : ∀ (le1 : Int) (fi1 : Nat → Int), (le1 = if ch = 0 ∨ gMoved pl of np < le then gMoved pl of np else le) → (fi1 = if ch = 0 ∨ gMoved pl of np < le then gCopy pl np 0 fi else fi) → ∀ (H : Heap) (locs : List Loc) (ls : Array Slot), va_P D k_cl ([(w 0, .inr (4, [.ref (w 1), .int (zI ↑n), .ref (w 2), .ref (w 3), .ref (w 4), .ref (w 5), .int (zI ↑np), .ref (w 6), .ref (w 7), .int (zI ↑kn), .ref (w 8), .ref (w 9), .ref (w 10), .int (zI ↑ch), .int (zI le1), .ref (w 11), .int (zI sf), .int (zI st), .ref (w 12)])), (w 6, .inl (cI, 4, .inl (kA of))), (w 10, .inl (cI, 200, .inl (kA (va_up mn (gMoved pl of np).toNat (mn (gMoved pl of np).toNat + 1))))), (w 11, .inl (cI, 4, .inl (kZ fi1))), (w 12, .inl (cI, 4, .inl (kZ pl)))]) H → va_D A ([(w 0, .inr (4, [.ref (w 1), .int (zI ↑n), .ref (w 2), .ref (w 3), .ref (w 4), .ref (w 5), .int (zI ↑np), .ref (w 6), .ref (w 7), .int (zI ↑kn), .ref (w 8), .ref (w 9), .ref (w 10), .int (zI ↑ch), .int (zI le1), .ref (w 11), .int (zI sf), .int (zI st), .ref (w 12)])), (w 6, .inl (cI, 4, .inl (kA of))), (w 10, .inl (cI, 200, .inl (kA (va_up mn (gMoved pl of np).toNat (mn (gMoved pl of np).toNat + 1))))), (w 11, .inl (cI, 4, .inl (kZ fi1))), (w 12, .inl (cI, 4, .inl (kZ pl)))]) → va_S A s.heap H locs → lv_has ls 5 [(0, .ref (w 0))] → W p l ev rm_Mo_choose s m ar below meth c H locs 0 0 Qf (F0 m 63 ls []) := by
    intro le1 fi1 e1 e2 H locs ls hP hD hS hl
    refine lv_bipush (v := zI 30) hx hb d_Mo_choose_63 (by decide) ?_
    refine lv_istore_n (lv' := [(2, .int (zI 30)), (0, .ref (w 0))]) hx hb d_Mo_choose_65 rfl hl (by decide) rfl ?_
    clear hl; intro ls hl
    refine lv_iconst (v := zI (-1)) hx hb d_Mo_choose_66 (by decide) ?_
    refine lv_istore_n (lv' := [(3, .int (zI (-1))), (2, .int (zI 30)), (0, .ref (w 0))]) hx hb d_Mo_choose_67 rfl hl (by decide) rfl ?_
    clear hl; intro ls hl
    refine lv_iconst (v := zI 0) hx hb d_Mo_choose_68 (by decide) ?_
    refine lv_istore (lv' := [(4, .int (zI 0)), (3, .int (zI (-1))), (2, .int (zI 30)), (0, .ref (w 0))]) hx hb d_Mo_choose_69 hl (by decide) rfl ?_
    clear hl; intro ls hl
    have loop_71 : ∀ (u : Nat) (i : Nat) (fr : Int) (to : Int), (i + u = np) → (-1 ≤ fr ∧ fr ≤ 30) → (-1 ≤ to ∧ to ≤ 30) → (gFrom pl u i fr = gFrom pl np 0 30) → (gTo pl u i to = gTo pl np 0 (-1)) → ∀ (H : Heap) (locs : List Loc) (ls : Array Slot), va_P D k_cl ([(w 0, .inr (4, [.ref (w 1), .int (zI ↑n), .ref (w 2), .ref (w 3), .ref (w 4), .ref (w 5), .int (zI ↑np), .ref (w 6), .ref (w 7), .int (zI ↑kn), .ref (w 8), .ref (w 9), .ref (w 10), .int (zI ↑ch), .int (zI le1), .ref (w 11), .int (zI sf), .int (zI st), .ref (w 12)])), (w 6, .inl (cI, 4, .inl (kA of))), (w 10, .inl (cI, 200, .inl (kA (va_up mn (gMoved pl of np).toNat (mn (gMoved pl of np).toNat + 1))))), (w 11, .inl (cI, 4, .inl (kZ fi1))), (w 12, .inl (cI, 4, .inl (kZ pl)))]) H → va_D A ([(w 0, .inr (4, [.ref (w 1), .int (zI ↑n), .ref (w 2), .ref (w 3), .ref (w 4), .ref (w 5), .int (zI ↑np), .ref (w 6), .ref (w 7), .int (zI ↑kn), .ref (w 8), .ref (w 9), .ref (w 10), .int (zI ↑ch), .int (zI le1), .ref (w 11), .int (zI sf), .int (zI st), .ref (w 12)])), (w 6, .inl (cI, 4, .inl (kA of))), (w 10, .inl (cI, 200, .inl (kA (va_up mn (gMoved pl of np).toNat (mn (gMoved pl of np).toNat + 1))))), (w 11, .inl (cI, 4, .inl (kZ fi1))), (w 12, .inl (cI, 4, .inl (kZ pl)))]) → va_S A s.heap H locs → lv_has ls 5 [(0, .ref (w 0)), (2, .int (zI fr)), (3, .int (zI to)), (4, .int (zI ↑i))] → W p l ev rm_Mo_choose s m ar below meth c H locs 0 0 Qf (F0 m 71 ls []) := by
      intro u
      induction u with
      | zero =>
        intro i fr to hin hf9 ht9 hgf hgt H locs ls hP hD hS hl
        refine lv_iload hx hb d_Mo_choose_71 (lv_at hl 3 rfl) ?_
        refine lv_aload_n hx hb d_Mo_choose_73 rfl (lv_at hl 0 rfl) ?_
        refine va_get (D := D) (ci := 4) (v := .int (zI ↑np)) (C := R_Mo) (T := T_Mo) (N := 19) hx hb hkw kin_Mo hown hK hP 0 rfl rfl 6 (by decide) (hkw _ kw_fieldLink_Mo_95) (fun _ h9 => h9) rfl d_Mo_choose_74 ?_
        refine k_icmp_ge (tgt := 132) hx hb d_Mo_choose_77 (by decide) ⟨by omega, by omega⟩ ⟨by omega, by omega⟩ (fun c_77 => ?_) (fun c_77 => ?_)
        · replace hgf : fr = gFrom pl np 0 30 := hgf
          replace hgt : to = gTo pl np 0 (-1) := hgt
          have join_187 : ∀ (sf1 : Int) (st1 : Int), (sf1 = if ch = 0 ∨ gTo pl np 0 (-1) - gFrom pl np 0 30 < st - sf ∨ (gTo pl np 0 (-1) - gFrom pl np 0 30 = st - sf ∧ gFrom pl np 0 30 < sf) then gFrom pl np 0 30 else sf) → (st1 = if ch = 0 ∨ gTo pl np 0 (-1) - gFrom pl np 0 30 < st - sf ∨ (gTo pl np 0 (-1) - gFrom pl np 0 30 = st - sf ∧ gFrom pl np 0 30 < sf) then gTo pl np 0 (-1) else st) → ∀ (H : Heap) (locs : List Loc) (ls : Array Slot), va_P D k_cl ([(w 0, .inr (4, [.ref (w 1), .int (zI ↑n), .ref (w 2), .ref (w 3), .ref (w 4), .ref (w 5), .int (zI ↑np), .ref (w 6), .ref (w 7), .int (zI ↑kn), .ref (w 8), .ref (w 9), .ref (w 10), .int (zI ↑ch), .int (zI le1), .ref (w 11), .int (zI sf1), .int (zI st1), .ref (w 12)])), (w 6, .inl (cI, 4, .inl (kA of))), (w 10, .inl (cI, 200, .inl (kA (va_up mn (gMoved pl of np).toNat (mn (gMoved pl of np).toNat + 1))))), (w 11, .inl (cI, 4, .inl (kZ fi1))), (w 12, .inl (cI, 4, .inl (kZ pl)))]) H → va_D A ([(w 0, .inr (4, [.ref (w 1), .int (zI ↑n), .ref (w 2), .ref (w 3), .ref (w 4), .ref (w 5), .int (zI ↑np), .ref (w 6), .ref (w 7), .int (zI ↑kn), .ref (w 8), .ref (w 9), .ref (w 10), .int (zI ↑ch), .int (zI le1), .ref (w 11), .int (zI sf1), .int (zI st1), .ref (w 12)])), (w 6, .inl (cI, 4, .inl (kA of))), (w 10, .inl (cI, 200, .inl (kA (va_up mn (gMoved pl of np).toNat (mn (gMoved pl of np).toNat + 1))))), (w 11, .inl (cI, 4, .inl (kZ fi1))), (w 12, .inl (cI, 4, .inl (kZ pl)))]) → va_S A s.heap H locs → lv_has ls 5 [(0, .ref (w 0))] → W p l ev rm_Mo_choose s m ar below meth c H locs 0 0 Qf (F0 m 187 ls []) := by
            intro sf1 st1 e3 e4 H locs ls hP hD hS hl
            refine lv_aload_n hx hb d_Mo_choose_187 rfl (lv_at hl 0 rfl) ?_
            refine lv_dup hx hb d_Mo_choose_188 rfl ?_
            refine va_get (D := D) (ci := 4) (v := .int (zI ↑ch)) (C := R_Mo) (T := T_Mo) (N := 19) hx hb hkw kin_Mo hown hK hP 0 rfl rfl 13 (by decide) (hkw _ kw_fieldLink_Mo_103) (fun _ h9 => h9) rfl d_Mo_choose_189 ?_
            refine lv_iconst (v := zI 1) hx hb d_Mo_choose_192 (by decide) ?_
            refine k_iadd (v := ↑(ch + 1)) hx hb d_Mo_choose_193 (by omega) ?_
            refine va_put (D := D) (ci := 4) (v := .int (zI (↑(ch + 1)))) (ty := .int) (C := R_Mo) (T := T_Mo) (N := 19) hx hb hkw kin_Mo ty_Mo ty_Mo_ok nm_Mo hown hK hP hD hS 0 rfl rfl 13 (by decide) (hkw _ kw_fieldLink_Mo_103) (fun _ h9 => h9) rfl (by decide +kernel) rfl rfl (Nat.le_of_ble_eq_true rfl) d_Mo_choose_194 ?_
            clear hP hD hS; intro H locs hP hD hS
            replace hP : va_P D k_cl ([(w 0, .inr (4, [.ref (w 1), .int (zI ↑n), .ref (w 2), .ref (w 3), .ref (w 4), .ref (w 5), .int (zI ↑np), .ref (w 6), .ref (w 7), .int (zI ↑kn), .ref (w 8), .ref (w 9), .ref (w 10), .int (zI (↑(ch + 1))), .int (zI le1), .ref (w 11), .int (zI sf1), .int (zI st1), .ref (w 12)])), (w 6, .inl (cI, 4, .inl (kA of))), (w 10, .inl (cI, 200, .inl (kA (va_up mn (gMoved pl of np).toNat (mn (gMoved pl of np).toNat + 1))))), (w 11, .inl (cI, 4, .inl (kZ fi1))), (w 12, .inl (cI, 4, .inl (kZ pl)))]) H := hP
            replace hD : va_D A ([(w 0, .inr (4, [.ref (w 1), .int (zI ↑n), .ref (w 2), .ref (w 3), .ref (w 4), .ref (w 5), .int (zI ↑np), .ref (w 6), .ref (w 7), .int (zI ↑kn), .ref (w 8), .ref (w 9), .ref (w 10), .int (zI (↑(ch + 1))), .int (zI le1), .ref (w 11), .int (zI sf1), .int (zI st1), .ref (w 12)])), (w 6, .inl (cI, 4, .inl (kA of))), (w 10, .inl (cI, 200, .inl (kA (va_up mn (gMoved pl of np).toNat (mn (gMoved pl of np).toNat + 1))))), (w 11, .inl (cI, 4, .inl (kZ fi1))), (w 12, .inl (cI, 4, .inl (kZ pl)))]) := hD
            have e9 : gChoose of np pl (mn, ch, le, fi, sf, st) = (va_up mn (gMoved pl of np).toNat (mn (gMoved pl of np).toNat + 1), ch + 1, le1, fi1, sf1, st1) := by rw [e1, e2, e3, e4]; rfl
            replace hP : va_P D k_cl [(w 0, .inr (4, [.ref (w 1), .int (zI ↑n), .ref (w 2), .ref (w 3), .ref (w 4), .ref (w 5), .int (zI ↑np), .ref (w 6), .ref (w 7), .int (zI ↑kn), .ref (w 8), .ref (w 9), .ref (w 10), .int (zI (↑((gChoose of np pl (mn, ch, le, fi, sf, st)).2.1))), .int (zI ((gChoose of np pl (mn, ch, le, fi, sf, st)).2.2.1)), .ref (w 11), .int (zI ((gChoose of np pl (mn, ch, le, fi, sf, st)).2.2.2.2.1)), .int (zI ((gChoose of np pl (mn, ch, le, fi, sf, st)).2.2.2.2.2)), .ref (w 12)])), (w 6, .inl (cI, 4, .inl (kA of))), (w 10, .inl (cI, 200, .inl (kA ((gChoose of np pl (mn, ch, le, fi, sf, st)).1)))), (w 11, .inl (cI, 4, .inl (kZ ((gChoose of np pl (mn, ch, le, fi, sf, st)).2.2.2.1)))), (w 12, .inl (cI, 4, .inl (kZ pl)))] H := by rw [e9]; exact hP
            rw [← hQf]
            exact k_vret hx hb hr hlocks hP hS d_Mo_choose_197
          refine lv_aload_n hx hb d_Mo_choose_132 rfl (lv_at hl 0 rfl) ?_
          refine va_get (D := D) (ci := 4) (v := .int (zI ↑ch)) (C := R_Mo) (T := T_Mo) (N := 19) hx hb hkw kin_Mo hown hK hP 0 rfl rfl 13 (by decide) (hkw _ kw_fieldLink_Mo_103) (fun _ h9 => h9) rfl d_Mo_choose_133 ?_
          refine k_if_eq (tgt := 177) hx hb d_Mo_choose_136 (by decide) ⟨by omega, by omega⟩ (fun c_136 => ?_) (fun c_136 => ?_)
          · refine lv_aload_n hx hb d_Mo_choose_177 rfl (lv_at hl 0 rfl) ?_
            refine lv_iload_n hx hb d_Mo_choose_178 rfl (lv_at hl 1 rfl) ?_
            refine va_put (D := D) (ci := 4) (v := .int (zI fr)) (ty := .int) (C := R_Mo) (T := T_Mo) (N := 19) hx hb hkw kin_Mo ty_Mo ty_Mo_ok nm_Mo hown hK hP hD hS 0 rfl rfl 16 (by decide) (hkw _ kw_fieldLink_Mo_112) (fun _ h9 => h9) rfl (by decide +kernel) rfl rfl (Nat.le_of_ble_eq_true rfl) d_Mo_choose_179 ?_
            clear hP hD hS; intro H locs hP hD hS
            replace hP : va_P D k_cl ([(w 0, .inr (4, [.ref (w 1), .int (zI ↑n), .ref (w 2), .ref (w 3), .ref (w 4), .ref (w 5), .int (zI ↑np), .ref (w 6), .ref (w 7), .int (zI ↑kn), .ref (w 8), .ref (w 9), .ref (w 10), .int (zI ↑ch), .int (zI le1), .ref (w 11), .int (zI fr), .int (zI st), .ref (w 12)])), (w 6, .inl (cI, 4, .inl (kA of))), (w 10, .inl (cI, 200, .inl (kA (va_up mn (gMoved pl of np).toNat (mn (gMoved pl of np).toNat + 1))))), (w 11, .inl (cI, 4, .inl (kZ fi1))), (w 12, .inl (cI, 4, .inl (kZ pl)))]) H := hP
            replace hD : va_D A ([(w 0, .inr (4, [.ref (w 1), .int (zI ↑n), .ref (w 2), .ref (w 3), .ref (w 4), .ref (w 5), .int (zI ↑np), .ref (w 6), .ref (w 7), .int (zI ↑kn), .ref (w 8), .ref (w 9), .ref (w 10), .int (zI ↑ch), .int (zI le1), .ref (w 11), .int (zI fr), .int (zI st), .ref (w 12)])), (w 6, .inl (cI, 4, .inl (kA of))), (w 10, .inl (cI, 200, .inl (kA (va_up mn (gMoved pl of np).toNat (mn (gMoved pl of np).toNat + 1))))), (w 11, .inl (cI, 4, .inl (kZ fi1))), (w 12, .inl (cI, 4, .inl (kZ pl)))]) := hD
            refine lv_aload_n hx hb d_Mo_choose_182 rfl (lv_at hl 0 rfl) ?_
            refine lv_iload_n hx hb d_Mo_choose_183 rfl (lv_at hl 2 rfl) ?_
            refine va_put (D := D) (ci := 4) (v := .int (zI to)) (ty := .int) (C := R_Mo) (T := T_Mo) (N := 19) hx hb hkw kin_Mo ty_Mo ty_Mo_ok nm_Mo hown hK hP hD hS 0 rfl rfl 17 (by decide) (hkw _ kw_fieldLink_Mo_109) (fun _ h9 => h9) rfl (by decide +kernel) rfl rfl (Nat.le_of_ble_eq_true rfl) d_Mo_choose_184 ?_
            clear hP hD hS; intro H locs hP hD hS
            replace hP : va_P D k_cl ([(w 0, .inr (4, [.ref (w 1), .int (zI ↑n), .ref (w 2), .ref (w 3), .ref (w 4), .ref (w 5), .int (zI ↑np), .ref (w 6), .ref (w 7), .int (zI ↑kn), .ref (w 8), .ref (w 9), .ref (w 10), .int (zI ↑ch), .int (zI le1), .ref (w 11), .int (zI fr), .int (zI to), .ref (w 12)])), (w 6, .inl (cI, 4, .inl (kA of))), (w 10, .inl (cI, 200, .inl (kA (va_up mn (gMoved pl of np).toNat (mn (gMoved pl of np).toNat + 1))))), (w 11, .inl (cI, 4, .inl (kZ fi1))), (w 12, .inl (cI, 4, .inl (kZ pl)))]) H := hP
            replace hD : va_D A ([(w 0, .inr (4, [.ref (w 1), .int (zI ↑n), .ref (w 2), .ref (w 3), .ref (w 4), .ref (w 5), .int (zI ↑np), .ref (w 6), .ref (w 7), .int (zI ↑kn), .ref (w 8), .ref (w 9), .ref (w 10), .int (zI ↑ch), .int (zI le1), .ref (w 11), .int (zI fr), .int (zI to), .ref (w 12)])), (w 6, .inl (cI, 4, .inl (kA of))), (w 10, .inl (cI, 200, .inl (kA (va_up mn (gMoved pl of np).toNat (mn (gMoved pl of np).toNat + 1))))), (w 11, .inl (cI, 4, .inl (kZ fi1))), (w 12, .inl (cI, 4, .inl (kZ pl)))]) := hD
            exact join_187 fr to ((if_pos (by omega)).trans hgf.symm).symm ((if_pos (by omega)).trans hgt.symm).symm _ _ _ hP hD hS (lv_sub hl [0] rfl)
          · refine lv_iload_n hx hb d_Mo_choose_139 rfl (lv_at hl 2 rfl) ?_
            refine lv_iload_n hx hb d_Mo_choose_140 rfl (lv_at hl 1 rfl) ?_
            refine k_isub hx hb d_Mo_choose_141 rfl ?_
            refine lv_aload_n hx hb d_Mo_choose_142 rfl (lv_at hl 0 rfl) ?_
            refine va_get (D := D) (ci := 4) (v := .int (zI st)) (C := R_Mo) (T := T_Mo) (N := 19) hx hb hkw kin_Mo hown hK hP 0 rfl rfl 17 (by decide) (hkw _ kw_fieldLink_Mo_109) (fun _ h9 => h9) rfl d_Mo_choose_143 ?_
            refine lv_aload_n hx hb d_Mo_choose_146 rfl (lv_at hl 0 rfl) ?_
            refine va_get (D := D) (ci := 4) (v := .int (zI sf)) (C := R_Mo) (T := T_Mo) (N := 19) hx hb hkw kin_Mo hown hK hP 0 rfl rfl 16 (by decide) (hkw _ kw_fieldLink_Mo_112) (fun _ h9 => h9) rfl d_Mo_choose_147 ?_
            refine k_isub hx hb d_Mo_choose_150 rfl ?_
            refine k_icmp_lt (tgt := 177) hx hb d_Mo_choose_151 (by decide) ⟨by omega, by omega⟩ ⟨by omega, by omega⟩ (fun c_151 => ?_) (fun c_151 => ?_)
            · refine lv_aload_n hx hb d_Mo_choose_177 rfl (lv_at hl 0 rfl) ?_
              refine lv_iload_n hx hb d_Mo_choose_178 rfl (lv_at hl 1 rfl) ?_
              refine va_put (D := D) (ci := 4) (v := .int (zI fr)) (ty := .int) (C := R_Mo) (T := T_Mo) (N := 19) hx hb hkw kin_Mo ty_Mo ty_Mo_ok nm_Mo hown hK hP hD hS 0 rfl rfl 16 (by decide) (hkw _ kw_fieldLink_Mo_112) (fun _ h9 => h9) rfl (by decide +kernel) rfl rfl (Nat.le_of_ble_eq_true rfl) d_Mo_choose_179 ?_
              clear hP hD hS; intro H locs hP hD hS
              replace hP : va_P D k_cl ([(w 0, .inr (4, [.ref (w 1), .int (zI ↑n), .ref (w 2), .ref (w 3), .ref (w 4), .ref (w 5), .int (zI ↑np), .ref (w 6), .ref (w 7), .int (zI ↑kn), .ref (w 8), .ref (w 9), .ref (w 10), .int (zI ↑ch), .int (zI le1), .ref (w 11), .int (zI fr), .int (zI st), .ref (w 12)])), (w 6, .inl (cI, 4, .inl (kA of))), (w 10, .inl (cI, 200, .inl (kA (va_up mn (gMoved pl of np).toNat (mn (gMoved pl of np).toNat + 1))))), (w 11, .inl (cI, 4, .inl (kZ fi1))), (w 12, .inl (cI, 4, .inl (kZ pl)))]) H := hP
              replace hD : va_D A ([(w 0, .inr (4, [.ref (w 1), .int (zI ↑n), .ref (w 2), .ref (w 3), .ref (w 4), .ref (w 5), .int (zI ↑np), .ref (w 6), .ref (w 7), .int (zI ↑kn), .ref (w 8), .ref (w 9), .ref (w 10), .int (zI ↑ch), .int (zI le1), .ref (w 11), .int (zI fr), .int (zI st), .ref (w 12)])), (w 6, .inl (cI, 4, .inl (kA of))), (w 10, .inl (cI, 200, .inl (kA (va_up mn (gMoved pl of np).toNat (mn (gMoved pl of np).toNat + 1))))), (w 11, .inl (cI, 4, .inl (kZ fi1))), (w 12, .inl (cI, 4, .inl (kZ pl)))]) := hD
              refine lv_aload_n hx hb d_Mo_choose_182 rfl (lv_at hl 0 rfl) ?_
              refine lv_iload_n hx hb d_Mo_choose_183 rfl (lv_at hl 2 rfl) ?_
              refine va_put (D := D) (ci := 4) (v := .int (zI to)) (ty := .int) (C := R_Mo) (T := T_Mo) (N := 19) hx hb hkw kin_Mo ty_Mo ty_Mo_ok nm_Mo hown hK hP hD hS 0 rfl rfl 17 (by decide) (hkw _ kw_fieldLink_Mo_109) (fun _ h9 => h9) rfl (by decide +kernel) rfl rfl (Nat.le_of_ble_eq_true rfl) d_Mo_choose_184 ?_
              clear hP hD hS; intro H locs hP hD hS
              replace hP : va_P D k_cl ([(w 0, .inr (4, [.ref (w 1), .int (zI ↑n), .ref (w 2), .ref (w 3), .ref (w 4), .ref (w 5), .int (zI ↑np), .ref (w 6), .ref (w 7), .int (zI ↑kn), .ref (w 8), .ref (w 9), .ref (w 10), .int (zI ↑ch), .int (zI le1), .ref (w 11), .int (zI fr), .int (zI to), .ref (w 12)])), (w 6, .inl (cI, 4, .inl (kA of))), (w 10, .inl (cI, 200, .inl (kA (va_up mn (gMoved pl of np).toNat (mn (gMoved pl of np).toNat + 1))))), (w 11, .inl (cI, 4, .inl (kZ fi1))), (w 12, .inl (cI, 4, .inl (kZ pl)))]) H := hP
              replace hD : va_D A ([(w 0, .inr (4, [.ref (w 1), .int (zI ↑n), .ref (w 2), .ref (w 3), .ref (w 4), .ref (w 5), .int (zI ↑np), .ref (w 6), .ref (w 7), .int (zI ↑kn), .ref (w 8), .ref (w 9), .ref (w 10), .int (zI ↑ch), .int (zI le1), .ref (w 11), .int (zI fr), .int (zI to), .ref (w 12)])), (w 6, .inl (cI, 4, .inl (kA of))), (w 10, .inl (cI, 200, .inl (kA (va_up mn (gMoved pl of np).toNat (mn (gMoved pl of np).toNat + 1))))), (w 11, .inl (cI, 4, .inl (kZ fi1))), (w 12, .inl (cI, 4, .inl (kZ pl)))]) := hD
              exact join_187 fr to ((if_pos (by omega)).trans hgf.symm).symm ((if_pos (by omega)).trans hgt.symm).symm _ _ _ hP hD hS (lv_sub hl [0] rfl)
            · refine lv_iload_n hx hb d_Mo_choose_154 rfl (lv_at hl 2 rfl) ?_
              refine lv_iload_n hx hb d_Mo_choose_155 rfl (lv_at hl 1 rfl) ?_
              refine k_isub hx hb d_Mo_choose_156 rfl ?_
              refine lv_aload_n hx hb d_Mo_choose_157 rfl (lv_at hl 0 rfl) ?_
              refine va_get (D := D) (ci := 4) (v := .int (zI st)) (C := R_Mo) (T := T_Mo) (N := 19) hx hb hkw kin_Mo hown hK hP 0 rfl rfl 17 (by decide) (hkw _ kw_fieldLink_Mo_109) (fun _ h9 => h9) rfl d_Mo_choose_158 ?_
              refine lv_aload_n hx hb d_Mo_choose_161 rfl (lv_at hl 0 rfl) ?_
              refine va_get (D := D) (ci := 4) (v := .int (zI sf)) (C := R_Mo) (T := T_Mo) (N := 19) hx hb hkw kin_Mo hown hK hP 0 rfl rfl 16 (by decide) (hkw _ kw_fieldLink_Mo_112) (fun _ h9 => h9) rfl d_Mo_choose_162 ?_
              refine k_isub hx hb d_Mo_choose_165 rfl ?_
              refine k_icmp_ne (tgt := 187) hx hb d_Mo_choose_166 (by decide) ⟨by omega, by omega⟩ ⟨by omega, by omega⟩ (fun c_166 => ?_) (fun c_166 => ?_)
              · exact join_187 sf st (if_neg (by omega)).symm (if_neg (by omega)).symm _ _ _ hP hD hS (lv_sub hl [0] rfl)
              · refine lv_iload_n hx hb d_Mo_choose_169 rfl (lv_at hl 1 rfl) ?_
                refine lv_aload_n hx hb d_Mo_choose_170 rfl (lv_at hl 0 rfl) ?_
                refine va_get (D := D) (ci := 4) (v := .int (zI sf)) (C := R_Mo) (T := T_Mo) (N := 19) hx hb hkw kin_Mo hown hK hP 0 rfl rfl 16 (by decide) (hkw _ kw_fieldLink_Mo_112) (fun _ h9 => h9) rfl d_Mo_choose_171 ?_
                refine k_icmp_ge (tgt := 187) hx hb d_Mo_choose_174 (by decide) ⟨by omega, by omega⟩ ⟨by omega, by omega⟩ (fun c_174 => ?_) (fun c_174 => ?_)
                · exact join_187 sf st (if_neg (by omega)).symm (if_neg (by omega)).symm _ _ _ hP hD hS (lv_sub hl [0] rfl)
                · refine lv_aload_n hx hb d_Mo_choose_177 rfl (lv_at hl 0 rfl) ?_
                  refine lv_iload_n hx hb d_Mo_choose_178 rfl (lv_at hl 1 rfl) ?_
                  refine va_put (D := D) (ci := 4) (v := .int (zI fr)) (ty := .int) (C := R_Mo) (T := T_Mo) (N := 19) hx hb hkw kin_Mo ty_Mo ty_Mo_ok nm_Mo hown hK hP hD hS 0 rfl rfl 16 (by decide) (hkw _ kw_fieldLink_Mo_112) (fun _ h9 => h9) rfl (by decide +kernel) rfl rfl (Nat.le_of_ble_eq_true rfl) d_Mo_choose_179 ?_
                  clear hP hD hS; intro H locs hP hD hS
                  replace hP : va_P D k_cl ([(w 0, .inr (4, [.ref (w 1), .int (zI ↑n), .ref (w 2), .ref (w 3), .ref (w 4), .ref (w 5), .int (zI ↑np), .ref (w 6), .ref (w 7), .int (zI ↑kn), .ref (w 8), .ref (w 9), .ref (w 10), .int (zI ↑ch), .int (zI le1), .ref (w 11), .int (zI fr), .int (zI st), .ref (w 12)])), (w 6, .inl (cI, 4, .inl (kA of))), (w 10, .inl (cI, 200, .inl (kA (va_up mn (gMoved pl of np).toNat (mn (gMoved pl of np).toNat + 1))))), (w 11, .inl (cI, 4, .inl (kZ fi1))), (w 12, .inl (cI, 4, .inl (kZ pl)))]) H := hP
                  replace hD : va_D A ([(w 0, .inr (4, [.ref (w 1), .int (zI ↑n), .ref (w 2), .ref (w 3), .ref (w 4), .ref (w 5), .int (zI ↑np), .ref (w 6), .ref (w 7), .int (zI ↑kn), .ref (w 8), .ref (w 9), .ref (w 10), .int (zI ↑ch), .int (zI le1), .ref (w 11), .int (zI fr), .int (zI st), .ref (w 12)])), (w 6, .inl (cI, 4, .inl (kA of))), (w 10, .inl (cI, 200, .inl (kA (va_up mn (gMoved pl of np).toNat (mn (gMoved pl of np).toNat + 1))))), (w 11, .inl (cI, 4, .inl (kZ fi1))), (w 12, .inl (cI, 4, .inl (kZ pl)))]) := hD
                  refine lv_aload_n hx hb d_Mo_choose_182 rfl (lv_at hl 0 rfl) ?_
                  refine lv_iload_n hx hb d_Mo_choose_183 rfl (lv_at hl 2 rfl) ?_
                  refine va_put (D := D) (ci := 4) (v := .int (zI to)) (ty := .int) (C := R_Mo) (T := T_Mo) (N := 19) hx hb hkw kin_Mo ty_Mo ty_Mo_ok nm_Mo hown hK hP hD hS 0 rfl rfl 17 (by decide) (hkw _ kw_fieldLink_Mo_109) (fun _ h9 => h9) rfl (by decide +kernel) rfl rfl (Nat.le_of_ble_eq_true rfl) d_Mo_choose_184 ?_
                  clear hP hD hS; intro H locs hP hD hS
                  replace hP : va_P D k_cl ([(w 0, .inr (4, [.ref (w 1), .int (zI ↑n), .ref (w 2), .ref (w 3), .ref (w 4), .ref (w 5), .int (zI ↑np), .ref (w 6), .ref (w 7), .int (zI ↑kn), .ref (w 8), .ref (w 9), .ref (w 10), .int (zI ↑ch), .int (zI le1), .ref (w 11), .int (zI fr), .int (zI to), .ref (w 12)])), (w 6, .inl (cI, 4, .inl (kA of))), (w 10, .inl (cI, 200, .inl (kA (va_up mn (gMoved pl of np).toNat (mn (gMoved pl of np).toNat + 1))))), (w 11, .inl (cI, 4, .inl (kZ fi1))), (w 12, .inl (cI, 4, .inl (kZ pl)))]) H := hP
                  replace hD : va_D A ([(w 0, .inr (4, [.ref (w 1), .int (zI ↑n), .ref (w 2), .ref (w 3), .ref (w 4), .ref (w 5), .int (zI ↑np), .ref (w 6), .ref (w 7), .int (zI ↑kn), .ref (w 8), .ref (w 9), .ref (w 10), .int (zI ↑ch), .int (zI le1), .ref (w 11), .int (zI fr), .int (zI to), .ref (w 12)])), (w 6, .inl (cI, 4, .inl (kA of))), (w 10, .inl (cI, 200, .inl (kA (va_up mn (gMoved pl of np).toNat (mn (gMoved pl of np).toNat + 1))))), (w 11, .inl (cI, 4, .inl (kZ fi1))), (w 12, .inl (cI, 4, .inl (kZ pl)))]) := hD
                  exact join_187 fr to ((if_pos (by omega)).trans hgf.symm).symm ((if_pos (by omega)).trans hgt.symm).symm _ _ _ hP hD hS (lv_sub hl [0] rfl)
        · exfalso; omega
      | succ u ih_71 =>
        intro i fr to hin hf9 ht9 hgf hgt H locs ls hP hD hS hl
        refine lv_iload hx hb d_Mo_choose_71 (lv_at hl 3 rfl) ?_
        refine lv_aload_n hx hb d_Mo_choose_73 rfl (lv_at hl 0 rfl) ?_
        refine va_get (D := D) (ci := 4) (v := .int (zI ↑np)) (C := R_Mo) (T := T_Mo) (N := 19) hx hb hkw kin_Mo hown hK hP 0 rfl rfl 6 (by decide) (hkw _ kw_fieldLink_Mo_95) (fun _ h9 => h9) rfl d_Mo_choose_74 ?_
        refine k_icmp_ge (tgt := 132) hx hb d_Mo_choose_77 (by decide) ⟨by omega, by omega⟩ ⟨by omega, by omega⟩ (fun c_77 => ?_) (fun c_77 => ?_)
        · exfalso; omega
        · refine lv_aload_n hx hb d_Mo_choose_80 rfl (lv_at hl 0 rfl) ?_
          refine va_get (D := D) (ci := 4) (v := .ref (w 12)) (C := R_Mo) (T := T_Mo) (N := 19) hx hb hkw kin_Mo hown hK hP 0 rfl rfl 18 (by decide) (hkw _ kw_fieldLink_Mo_43) (fun _ h9 => h9) rfl d_Mo_choose_81 ?_
          refine lv_iload hx hb d_Mo_choose_84 (lv_at hl 3 rfl) ?_
          refine k_aldZ hx hb hK hP 4 0 rfl rfl (i := i) (by omega) (by omega) (by omega) d_Mo_choose_86 ?_
          have hv_1 := hpl i
          refine lv_iload_n hx hb d_Mo_choose_87 rfl (lv_at hl 1 rfl) ?_
          refine k_icmp_ge (tgt := 101) hx hb d_Mo_choose_88 (by decide) ⟨by omega, by omega⟩ ⟨by omega, by omega⟩ (fun c_88 => ?_) (fun c_88 => ?_)
          · refine lv_iload_n hx hb d_Mo_choose_101 rfl (lv_at hl 1 rfl) ?_
            refine lv_istore_n (lv' := [(2, .int (zI fr)), (0, .ref (w 0)), (3, .int (zI to)), (4, .int (zI ↑i))]) hx hb d_Mo_choose_102 rfl hl (by decide) rfl ?_
            clear hl; intro ls hl
            refine lv_aload_n hx hb d_Mo_choose_103 rfl (lv_at hl 1 rfl) ?_
            refine va_get (D := D) (ci := 4) (v := .ref (w 12)) (C := R_Mo) (T := T_Mo) (N := 19) hx hb hkw kin_Mo hown hK hP 0 rfl rfl 18 (by decide) (hkw _ kw_fieldLink_Mo_43) (fun _ h9 => h9) rfl d_Mo_choose_104 ?_
            refine lv_iload hx hb d_Mo_choose_107 (lv_at hl 3 rfl) ?_
            refine k_aldZ hx hb hK hP 4 0 rfl rfl (i := i) (by omega) (by omega) (by omega) d_Mo_choose_109 ?_
            have hv_2 := hpl i
            refine lv_iload_n hx hb d_Mo_choose_110 rfl (lv_at hl 2 rfl) ?_
            refine k_icmp_le (tgt := 124) hx hb d_Mo_choose_111 (by decide) ⟨by omega, by omega⟩ ⟨by omega, by omega⟩ (fun c_111 => ?_) (fun c_111 => ?_)
            · refine lv_iload_n hx hb d_Mo_choose_124 rfl (lv_at hl 2 rfl) ?_
              refine lv_istore_n (lv' := [(3, .int (zI to)), (2, .int (zI fr)), (0, .ref (w 0)), (4, .int (zI ↑i))]) hx hb d_Mo_choose_125 rfl hl (by decide) rfl ?_
              clear hl; intro ls hl
              refine k_iinc (v := ↑(i + 1)) (lv' := [(4, .int (zI (↑(i + 1)))), (3, .int (zI to)), (2, .int (zI fr)), (0, .ref (w 0))]) hx hb d_Mo_choose_126 hl (k := 3) rfl (by omega) (by decide) rfl ?_
              clear hl; intro ls hl
              refine lv_goto (tgt := 71) hx hb d_Mo_choose_129 (by decide) ?_
              exact ih_71 (i + 1) fr to (by omega) (by omega) (by omega) (by rw [gFrom, if_neg (by omega)] at hgf; exact hgf) (by rw [gTo, if_neg (by omega)] at hgt; exact hgt) _ _ _ hP hD hS (lv_sub hl [3, 2, 1, 0] rfl)
            · refine lv_aload_n hx hb d_Mo_choose_114 rfl (lv_at hl 1 rfl) ?_
              refine va_get (D := D) (ci := 4) (v := .ref (w 12)) (C := R_Mo) (T := T_Mo) (N := 19) hx hb hkw kin_Mo hown hK hP 0 rfl rfl 18 (by decide) (hkw _ kw_fieldLink_Mo_43) (fun _ h9 => h9) rfl d_Mo_choose_115 ?_
              refine lv_iload hx hb d_Mo_choose_118 (lv_at hl 3 rfl) ?_
              refine k_aldZ hx hb hK hP 4 0 rfl rfl (i := i) (by omega) (by omega) (by omega) d_Mo_choose_120 ?_
              have hv_3 := hpl i
              refine lv_goto (tgt := 125) hx hb d_Mo_choose_121 (by decide) ?_
              refine lv_istore_n (lv' := [(3, .int (zI (pl i))), (2, .int (zI fr)), (0, .ref (w 0)), (4, .int (zI ↑i))]) hx hb d_Mo_choose_125 rfl hl (by decide) rfl ?_
              clear hl; intro ls hl
              refine k_iinc (v := ↑(i + 1)) (lv' := [(4, .int (zI (↑(i + 1)))), (3, .int (zI (pl i))), (2, .int (zI fr)), (0, .ref (w 0))]) hx hb d_Mo_choose_126 hl (k := 3) rfl (by omega) (by decide) rfl ?_
              clear hl; intro ls hl
              refine lv_goto (tgt := 71) hx hb d_Mo_choose_129 (by decide) ?_
              exact ih_71 (i + 1) fr (pl i) (by omega) (by omega) (by omega) (by rw [gFrom, if_neg (by omega)] at hgf; exact hgf) (by rw [gTo, if_pos (by omega)] at hgt; exact hgt) _ _ _ hP hD hS (lv_sub hl [3, 2, 1, 0] rfl)
          · refine lv_aload_n hx hb d_Mo_choose_91 rfl (lv_at hl 0 rfl) ?_
            refine va_get (D := D) (ci := 4) (v := .ref (w 12)) (C := R_Mo) (T := T_Mo) (N := 19) hx hb hkw kin_Mo hown hK hP 0 rfl rfl 18 (by decide) (hkw _ kw_fieldLink_Mo_43) (fun _ h9 => h9) rfl d_Mo_choose_92 ?_
            refine lv_iload hx hb d_Mo_choose_95 (lv_at hl 3 rfl) ?_
            refine k_aldZ hx hb hK hP 4 0 rfl rfl (i := i) (by omega) (by omega) (by omega) d_Mo_choose_97 ?_
            have hv_4 := hpl i
            refine lv_goto (tgt := 102) hx hb d_Mo_choose_98 (by decide) ?_
            refine lv_istore_n (lv' := [(2, .int (zI (pl i))), (0, .ref (w 0)), (3, .int (zI to)), (4, .int (zI ↑i))]) hx hb d_Mo_choose_102 rfl hl (by decide) rfl ?_
            clear hl; intro ls hl
            refine lv_aload_n hx hb d_Mo_choose_103 rfl (lv_at hl 1 rfl) ?_
            refine va_get (D := D) (ci := 4) (v := .ref (w 12)) (C := R_Mo) (T := T_Mo) (N := 19) hx hb hkw kin_Mo hown hK hP 0 rfl rfl 18 (by decide) (hkw _ kw_fieldLink_Mo_43) (fun _ h9 => h9) rfl d_Mo_choose_104 ?_
            refine lv_iload hx hb d_Mo_choose_107 (lv_at hl 3 rfl) ?_
            refine k_aldZ hx hb hK hP 4 0 rfl rfl (i := i) (by omega) (by omega) (by omega) d_Mo_choose_109 ?_
            have hv_5 := hpl i
            refine lv_iload_n hx hb d_Mo_choose_110 rfl (lv_at hl 2 rfl) ?_
            refine k_icmp_le (tgt := 124) hx hb d_Mo_choose_111 (by decide) ⟨by omega, by omega⟩ ⟨by omega, by omega⟩ (fun c_111 => ?_) (fun c_111 => ?_)
            · refine lv_iload_n hx hb d_Mo_choose_124 rfl (lv_at hl 2 rfl) ?_
              refine lv_istore_n (lv' := [(3, .int (zI to)), (2, .int (zI (pl i))), (0, .ref (w 0)), (4, .int (zI ↑i))]) hx hb d_Mo_choose_125 rfl hl (by decide) rfl ?_
              clear hl; intro ls hl
              refine k_iinc (v := ↑(i + 1)) (lv' := [(4, .int (zI (↑(i + 1)))), (3, .int (zI to)), (2, .int (zI (pl i))), (0, .ref (w 0))]) hx hb d_Mo_choose_126 hl (k := 3) rfl (by omega) (by decide) rfl ?_
              clear hl; intro ls hl
              refine lv_goto (tgt := 71) hx hb d_Mo_choose_129 (by decide) ?_
              exact ih_71 (i + 1) (pl i) to (by omega) (by omega) (by omega) (by rw [gFrom, if_pos (by omega)] at hgf; exact hgf) (by rw [gTo, if_neg (by omega)] at hgt; exact hgt) _ _ _ hP hD hS (lv_sub hl [3, 2, 1, 0] rfl)
            · refine lv_aload_n hx hb d_Mo_choose_114 rfl (lv_at hl 1 rfl) ?_
              refine va_get (D := D) (ci := 4) (v := .ref (w 12)) (C := R_Mo) (T := T_Mo) (N := 19) hx hb hkw kin_Mo hown hK hP 0 rfl rfl 18 (by decide) (hkw _ kw_fieldLink_Mo_43) (fun _ h9 => h9) rfl d_Mo_choose_115 ?_
              refine lv_iload hx hb d_Mo_choose_118 (lv_at hl 3 rfl) ?_
              refine k_aldZ hx hb hK hP 4 0 rfl rfl (i := i) (by omega) (by omega) (by omega) d_Mo_choose_120 ?_
              have hv_6 := hpl i
              refine lv_goto (tgt := 125) hx hb d_Mo_choose_121 (by decide) ?_
              refine lv_istore_n (lv' := [(3, .int (zI (pl i))), (2, .int (zI (pl i))), (0, .ref (w 0)), (4, .int (zI ↑i))]) hx hb d_Mo_choose_125 rfl hl (by decide) rfl ?_
              clear hl; intro ls hl
              refine k_iinc (v := ↑(i + 1)) (lv' := [(4, .int (zI (↑(i + 1)))), (3, .int (zI (pl i))), (2, .int (zI (pl i))), (0, .ref (w 0))]) hx hb d_Mo_choose_126 hl (k := 3) rfl (by omega) (by decide) rfl ?_
              clear hl; intro ls hl
              refine lv_goto (tgt := 71) hx hb d_Mo_choose_129 (by decide) ?_
              exact ih_71 (i + 1) (pl i) (pl i) (by omega) (by omega) (by omega) (by rw [gFrom, if_pos (by omega)] at hgf; exact hgf) (by rw [gTo, if_pos (by omega)] at hgt; exact hgt) _ _ _ hP hD hS (lv_sub hl [3, 2, 1, 0] rfl)
    exact loop_71 np 0 30 (-1) (by omega) (by omega) (by omega) rfl rfl _ _ _ hP hD hS (lv_sub hl [3, 2, 1, 0] rfl)
  refine lv_aload_n hx hb d_Mo_choose_15 rfl (lv_at hl 1 rfl) ?_
  refine va_get (D := D) (ci := 4) (v := .int (zI ↑ch)) (C := R_Mo) (T := T_Mo) (N := 19) hx hb hkw kin_Mo hown hK hP 0 rfl rfl 13 (by decide) (hkw _ kw_fieldLink_Mo_103) (fun _ h9 => h9) rfl d_Mo_choose_16 ?_
  refine k_if_eq (tgt := 30) hx hb d_Mo_choose_19 (by decide) ⟨by omega, by omega⟩ (fun c_19 => ?_) (fun c_19 => ?_)
  · refine lv_aload_n hx hb d_Mo_choose_30 rfl (lv_at hl 1 rfl) ?_
    refine lv_iload_n hx hb d_Mo_choose_31 rfl (lv_at hl 0 rfl) ?_
    refine va_put (D := D) (ci := 4) (v := .int (zI (gMoved pl of np))) (ty := .int) (C := R_Mo) (T := T_Mo) (N := 19) hx hb hkw kin_Mo ty_Mo ty_Mo_ok nm_Mo hown hK hP hD hS 0 rfl rfl 14 (by decide) (hkw _ kw_fieldLink_Mo_106) (fun _ h9 => h9) rfl (by decide +kernel) rfl rfl (Nat.le_of_ble_eq_true rfl) d_Mo_choose_32 ?_
    clear hP hD hS; intro H locs hP hD hS
    replace hP : va_P D k_cl ([(w 0, .inr (4, [.ref (w 1), .int (zI ↑n), .ref (w 2), .ref (w 3), .ref (w 4), .ref (w 5), .int (zI ↑np), .ref (w 6), .ref (w 7), .int (zI ↑kn), .ref (w 8), .ref (w 9), .ref (w 10), .int (zI ↑ch), .int (zI (gMoved pl of np)), .ref (w 11), .int (zI sf), .int (zI st), .ref (w 12)])), (w 6, .inl (cI, 4, .inl (kA of))), (w 10, .inl (cI, 200, .inl (kA (va_up mn ((gMoved pl of np).toNat) (mn (gMoved pl of np).toNat + 1))))), (w 11, .inl (cI, 4, .inl (kZ fi))), (w 12, .inl (cI, 4, .inl (kZ pl)))]) H := hP
    replace hD : va_D A ([(w 0, .inr (4, [.ref (w 1), .int (zI ↑n), .ref (w 2), .ref (w 3), .ref (w 4), .ref (w 5), .int (zI ↑np), .ref (w 6), .ref (w 7), .int (zI ↑kn), .ref (w 8), .ref (w 9), .ref (w 10), .int (zI ↑ch), .int (zI (gMoved pl of np)), .ref (w 11), .int (zI sf), .int (zI st), .ref (w 12)])), (w 6, .inl (cI, 4, .inl (kA of))), (w 10, .inl (cI, 200, .inl (kA (va_up mn ((gMoved pl of np).toNat) (mn (gMoved pl of np).toNat + 1))))), (w 11, .inl (cI, 4, .inl (kZ fi))), (w 12, .inl (cI, 4, .inl (kZ pl)))]) := hD
    refine lv_iconst (v := zI 0) hx hb d_Mo_choose_35 (by decide) ?_
    refine lv_istore_n (lv' := [(2, .int (zI 0)), (1, .int (zI (gMoved pl of np))), (0, .ref (w 0))]) hx hb d_Mo_choose_36 rfl hl (by decide) rfl ?_
    clear hl; intro ls hl
    have loop_37 : ∀ (u : Nat) (i : Nat) (f2 : Nat → Int), (i + u = np) → (gCopy pl u i f2 = gCopy pl np 0 fi) → ∀ (H : Heap) (locs : List Loc) (ls : Array Slot), va_P D k_cl ([(w 0, .inr (4, [.ref (w 1), .int (zI ↑n), .ref (w 2), .ref (w 3), .ref (w 4), .ref (w 5), .int (zI ↑np), .ref (w 6), .ref (w 7), .int (zI ↑kn), .ref (w 8), .ref (w 9), .ref (w 10), .int (zI ↑ch), .int (zI (gMoved pl of np)), .ref (w 11), .int (zI sf), .int (zI st), .ref (w 12)])), (w 6, .inl (cI, 4, .inl (kA of))), (w 10, .inl (cI, 200, .inl (kA (va_up mn (gMoved pl of np).toNat (mn (gMoved pl of np).toNat + 1))))), (w 11, .inl (cI, 4, .inl (kZ f2))), (w 12, .inl (cI, 4, .inl (kZ pl)))]) H → va_D A ([(w 0, .inr (4, [.ref (w 1), .int (zI ↑n), .ref (w 2), .ref (w 3), .ref (w 4), .ref (w 5), .int (zI ↑np), .ref (w 6), .ref (w 7), .int (zI ↑kn), .ref (w 8), .ref (w 9), .ref (w 10), .int (zI ↑ch), .int (zI (gMoved pl of np)), .ref (w 11), .int (zI sf), .int (zI st), .ref (w 12)])), (w 6, .inl (cI, 4, .inl (kA of))), (w 10, .inl (cI, 200, .inl (kA (va_up mn (gMoved pl of np).toNat (mn (gMoved pl of np).toNat + 1))))), (w 11, .inl (cI, 4, .inl (kZ f2))), (w 12, .inl (cI, 4, .inl (kZ pl)))]) → va_S A s.heap H locs → lv_has ls 5 [(0, .ref (w 0)), (2, .int (zI ↑i))] → W p l ev rm_Mo_choose s m ar below meth c H locs 0 0 Qf (F0 m 37 ls []) := by
      intro u
      induction u with
      | zero =>
        intro i f2 hin hgc H locs ls hP hD hS hl
        refine lv_iload_n hx hb d_Mo_choose_37 rfl (lv_at hl 1 rfl) ?_
        refine lv_aload_n hx hb d_Mo_choose_38 rfl (lv_at hl 0 rfl) ?_
        refine va_get (D := D) (ci := 4) (v := .int (zI ↑np)) (C := R_Mo) (T := T_Mo) (N := 19) hx hb hkw kin_Mo hown hK hP 0 rfl rfl 6 (by decide) (hkw _ kw_fieldLink_Mo_95) (fun _ h9 => h9) rfl d_Mo_choose_39 ?_
        refine k_icmp_ge (tgt := 63) hx hb d_Mo_choose_42 (by decide) ⟨by omega, by omega⟩ ⟨by omega, by omega⟩ (fun c_42 => ?_) (fun c_42 => ?_)
        · exact join_63 (gMoved pl of np) f2 (if_pos (by omega)).symm ((if_pos (by omega)).trans hgc.symm).symm _ _ _ hP hD hS (lv_sub hl [0] rfl)
        · exfalso; omega
      | succ u ih_37 =>
        intro i f2 hin hgc H locs ls hP hD hS hl
        refine lv_iload_n hx hb d_Mo_choose_37 rfl (lv_at hl 1 rfl) ?_
        refine lv_aload_n hx hb d_Mo_choose_38 rfl (lv_at hl 0 rfl) ?_
        refine va_get (D := D) (ci := 4) (v := .int (zI ↑np)) (C := R_Mo) (T := T_Mo) (N := 19) hx hb hkw kin_Mo hown hK hP 0 rfl rfl 6 (by decide) (hkw _ kw_fieldLink_Mo_95) (fun _ h9 => h9) rfl d_Mo_choose_39 ?_
        refine k_icmp_ge (tgt := 63) hx hb d_Mo_choose_42 (by decide) ⟨by omega, by omega⟩ ⟨by omega, by omega⟩ (fun c_42 => ?_) (fun c_42 => ?_)
        · exfalso; omega
        · refine lv_aload_n hx hb d_Mo_choose_45 rfl (lv_at hl 0 rfl) ?_
          refine va_get (D := D) (ci := 4) (v := .ref (w 11)) (C := R_Mo) (T := T_Mo) (N := 19) hx hb hkw kin_Mo hown hK hP 0 rfl rfl 15 (by decide) (hkw _ kw_fieldLink_Mo_40) (fun _ h9 => h9) rfl d_Mo_choose_46 ?_
          refine lv_iload_n hx hb d_Mo_choose_49 rfl (lv_at hl 1 rfl) ?_
          refine lv_aload_n hx hb d_Mo_choose_50 rfl (lv_at hl 0 rfl) ?_
          refine va_get (D := D) (ci := 4) (v := .ref (w 12)) (C := R_Mo) (T := T_Mo) (N := 19) hx hb hkw kin_Mo hown hK hP 0 rfl rfl 18 (by decide) (hkw _ kw_fieldLink_Mo_43) (fun _ h9 => h9) rfl d_Mo_choose_51 ?_
          refine lv_iload_n hx hb d_Mo_choose_54 rfl (lv_at hl 1 rfl) ?_
          refine k_aldZ hx hb hK hP 4 0 rfl rfl (i := i) (by omega) (by omega) (by omega) d_Mo_choose_55 ?_
          have hv_7 := hpl i
          refine k_astZ hx hb hK hP hD hS 3 0 rfl rfl (i := i) (by omega) (by omega) (by omega) d_Mo_choose_56 ?_
          clear hP hD hS; intro H locs hP hD hS
          replace hP : va_P D k_cl ([(w 0, .inr (4, [.ref (w 1), .int (zI ↑n), .ref (w 2), .ref (w 3), .ref (w 4), .ref (w 5), .int (zI ↑np), .ref (w 6), .ref (w 7), .int (zI ↑kn), .ref (w 8), .ref (w 9), .ref (w 10), .int (zI ↑ch), .int (zI (gMoved pl of np)), .ref (w 11), .int (zI sf), .int (zI st), .ref (w 12)])), (w 6, .inl (cI, 4, .inl (kA of))), (w 10, .inl (cI, 200, .inl (kA (va_up mn (gMoved pl of np).toNat (mn (gMoved pl of np).toNat + 1))))), (w 11, .inl (cI, 4, .inl (kZ (va_up f2 i (pl i))))), (w 12, .inl (cI, 4, .inl (kZ pl)))]) H := hP
          replace hD : va_D A ([(w 0, .inr (4, [.ref (w 1), .int (zI ↑n), .ref (w 2), .ref (w 3), .ref (w 4), .ref (w 5), .int (zI ↑np), .ref (w 6), .ref (w 7), .int (zI ↑kn), .ref (w 8), .ref (w 9), .ref (w 10), .int (zI ↑ch), .int (zI (gMoved pl of np)), .ref (w 11), .int (zI sf), .int (zI st), .ref (w 12)])), (w 6, .inl (cI, 4, .inl (kA of))), (w 10, .inl (cI, 200, .inl (kA (va_up mn (gMoved pl of np).toNat (mn (gMoved pl of np).toNat + 1))))), (w 11, .inl (cI, 4, .inl (kZ (va_up f2 i (pl i))))), (w 12, .inl (cI, 4, .inl (kZ pl)))]) := hD
          refine k_iinc (v := ↑(i + 1)) (lv' := [(2, .int (zI (↑(i + 1)))), (0, .ref (w 0))]) hx hb d_Mo_choose_57 hl (k := 1) rfl (by omega) (by decide) rfl ?_
          clear hl; intro ls hl
          refine lv_goto (tgt := 37) hx hb d_Mo_choose_60 (by decide) ?_
          exact ih_37 (i + 1) _ (by omega) hgc _ _ _ hP hD hS (lv_sub hl [1, 0] rfl)
    exact loop_37 np 0 fi (by omega) rfl _ _ _ hP hD hS (lv_sub hl [2, 0] rfl)
  · refine lv_iload_n hx hb d_Mo_choose_22 rfl (lv_at hl 0 rfl) ?_
    refine lv_aload_n hx hb d_Mo_choose_23 rfl (lv_at hl 1 rfl) ?_
    refine va_get (D := D) (ci := 4) (v := .int (zI le)) (C := R_Mo) (T := T_Mo) (N := 19) hx hb hkw kin_Mo hown hK hP 0 rfl rfl 14 (by decide) (hkw _ kw_fieldLink_Mo_106) (fun _ h9 => h9) rfl d_Mo_choose_24 ?_
    refine k_icmp_ge (tgt := 63) hx hb d_Mo_choose_27 (by decide) ⟨by omega, by omega⟩ ⟨by omega, by omega⟩ (fun c_27 => ?_) (fun c_27 => ?_)
    · exact join_63 le fi (if_neg (by omega)).symm (if_neg (by omega)).symm _ _ _ hP hD hS (lv_sub hl [1] rfl)
    · refine lv_aload_n hx hb d_Mo_choose_30 rfl (lv_at hl 1 rfl) ?_
      refine lv_iload_n hx hb d_Mo_choose_31 rfl (lv_at hl 0 rfl) ?_
      refine va_put (D := D) (ci := 4) (v := .int (zI (gMoved pl of np))) (ty := .int) (C := R_Mo) (T := T_Mo) (N := 19) hx hb hkw kin_Mo ty_Mo ty_Mo_ok nm_Mo hown hK hP hD hS 0 rfl rfl 14 (by decide) (hkw _ kw_fieldLink_Mo_106) (fun _ h9 => h9) rfl (by decide +kernel) rfl rfl (Nat.le_of_ble_eq_true rfl) d_Mo_choose_32 ?_
      clear hP hD hS; intro H locs hP hD hS
      replace hP : va_P D k_cl ([(w 0, .inr (4, [.ref (w 1), .int (zI ↑n), .ref (w 2), .ref (w 3), .ref (w 4), .ref (w 5), .int (zI ↑np), .ref (w 6), .ref (w 7), .int (zI ↑kn), .ref (w 8), .ref (w 9), .ref (w 10), .int (zI ↑ch), .int (zI (gMoved pl of np)), .ref (w 11), .int (zI sf), .int (zI st), .ref (w 12)])), (w 6, .inl (cI, 4, .inl (kA of))), (w 10, .inl (cI, 200, .inl (kA (va_up mn ((gMoved pl of np).toNat) (mn (gMoved pl of np).toNat + 1))))), (w 11, .inl (cI, 4, .inl (kZ fi))), (w 12, .inl (cI, 4, .inl (kZ pl)))]) H := hP
      replace hD : va_D A ([(w 0, .inr (4, [.ref (w 1), .int (zI ↑n), .ref (w 2), .ref (w 3), .ref (w 4), .ref (w 5), .int (zI ↑np), .ref (w 6), .ref (w 7), .int (zI ↑kn), .ref (w 8), .ref (w 9), .ref (w 10), .int (zI ↑ch), .int (zI (gMoved pl of np)), .ref (w 11), .int (zI sf), .int (zI st), .ref (w 12)])), (w 6, .inl (cI, 4, .inl (kA of))), (w 10, .inl (cI, 200, .inl (kA (va_up mn ((gMoved pl of np).toNat) (mn (gMoved pl of np).toNat + 1))))), (w 11, .inl (cI, 4, .inl (kZ fi))), (w 12, .inl (cI, 4, .inl (kZ pl)))]) := hD
      refine lv_iconst (v := zI 0) hx hb d_Mo_choose_35 (by decide) ?_
      refine lv_istore_n (lv' := [(2, .int (zI 0)), (1, .int (zI (gMoved pl of np))), (0, .ref (w 0))]) hx hb d_Mo_choose_36 rfl hl (by decide) rfl ?_
      clear hl; intro ls hl
      have loop_37 : ∀ (u : Nat) (i : Nat) (f2 : Nat → Int), (i + u = np) → (gCopy pl u i f2 = gCopy pl np 0 fi) → ∀ (H : Heap) (locs : List Loc) (ls : Array Slot), va_P D k_cl ([(w 0, .inr (4, [.ref (w 1), .int (zI ↑n), .ref (w 2), .ref (w 3), .ref (w 4), .ref (w 5), .int (zI ↑np), .ref (w 6), .ref (w 7), .int (zI ↑kn), .ref (w 8), .ref (w 9), .ref (w 10), .int (zI ↑ch), .int (zI (gMoved pl of np)), .ref (w 11), .int (zI sf), .int (zI st), .ref (w 12)])), (w 6, .inl (cI, 4, .inl (kA of))), (w 10, .inl (cI, 200, .inl (kA (va_up mn (gMoved pl of np).toNat (mn (gMoved pl of np).toNat + 1))))), (w 11, .inl (cI, 4, .inl (kZ f2))), (w 12, .inl (cI, 4, .inl (kZ pl)))]) H → va_D A ([(w 0, .inr (4, [.ref (w 1), .int (zI ↑n), .ref (w 2), .ref (w 3), .ref (w 4), .ref (w 5), .int (zI ↑np), .ref (w 6), .ref (w 7), .int (zI ↑kn), .ref (w 8), .ref (w 9), .ref (w 10), .int (zI ↑ch), .int (zI (gMoved pl of np)), .ref (w 11), .int (zI sf), .int (zI st), .ref (w 12)])), (w 6, .inl (cI, 4, .inl (kA of))), (w 10, .inl (cI, 200, .inl (kA (va_up mn (gMoved pl of np).toNat (mn (gMoved pl of np).toNat + 1))))), (w 11, .inl (cI, 4, .inl (kZ f2))), (w 12, .inl (cI, 4, .inl (kZ pl)))]) → va_S A s.heap H locs → lv_has ls 5 [(0, .ref (w 0)), (2, .int (zI ↑i))] → W p l ev rm_Mo_choose s m ar below meth c H locs 0 0 Qf (F0 m 37 ls []) := by
        intro u
        induction u with
        | zero =>
          intro i f2 hin hgc H locs ls hP hD hS hl
          refine lv_iload_n hx hb d_Mo_choose_37 rfl (lv_at hl 1 rfl) ?_
          refine lv_aload_n hx hb d_Mo_choose_38 rfl (lv_at hl 0 rfl) ?_
          refine va_get (D := D) (ci := 4) (v := .int (zI ↑np)) (C := R_Mo) (T := T_Mo) (N := 19) hx hb hkw kin_Mo hown hK hP 0 rfl rfl 6 (by decide) (hkw _ kw_fieldLink_Mo_95) (fun _ h9 => h9) rfl d_Mo_choose_39 ?_
          refine k_icmp_ge (tgt := 63) hx hb d_Mo_choose_42 (by decide) ⟨by omega, by omega⟩ ⟨by omega, by omega⟩ (fun c_42 => ?_) (fun c_42 => ?_)
          · exact join_63 (gMoved pl of np) f2 (if_pos (by omega)).symm ((if_pos (by omega)).trans hgc.symm).symm _ _ _ hP hD hS (lv_sub hl [0] rfl)
          · exfalso; omega
        | succ u ih_37 =>
          intro i f2 hin hgc H locs ls hP hD hS hl
          refine lv_iload_n hx hb d_Mo_choose_37 rfl (lv_at hl 1 rfl) ?_
          refine lv_aload_n hx hb d_Mo_choose_38 rfl (lv_at hl 0 rfl) ?_
          refine va_get (D := D) (ci := 4) (v := .int (zI ↑np)) (C := R_Mo) (T := T_Mo) (N := 19) hx hb hkw kin_Mo hown hK hP 0 rfl rfl 6 (by decide) (hkw _ kw_fieldLink_Mo_95) (fun _ h9 => h9) rfl d_Mo_choose_39 ?_
          refine k_icmp_ge (tgt := 63) hx hb d_Mo_choose_42 (by decide) ⟨by omega, by omega⟩ ⟨by omega, by omega⟩ (fun c_42 => ?_) (fun c_42 => ?_)
          · exfalso; omega
          · refine lv_aload_n hx hb d_Mo_choose_45 rfl (lv_at hl 0 rfl) ?_
            refine va_get (D := D) (ci := 4) (v := .ref (w 11)) (C := R_Mo) (T := T_Mo) (N := 19) hx hb hkw kin_Mo hown hK hP 0 rfl rfl 15 (by decide) (hkw _ kw_fieldLink_Mo_40) (fun _ h9 => h9) rfl d_Mo_choose_46 ?_
            refine lv_iload_n hx hb d_Mo_choose_49 rfl (lv_at hl 1 rfl) ?_
            refine lv_aload_n hx hb d_Mo_choose_50 rfl (lv_at hl 0 rfl) ?_
            refine va_get (D := D) (ci := 4) (v := .ref (w 12)) (C := R_Mo) (T := T_Mo) (N := 19) hx hb hkw kin_Mo hown hK hP 0 rfl rfl 18 (by decide) (hkw _ kw_fieldLink_Mo_43) (fun _ h9 => h9) rfl d_Mo_choose_51 ?_
            refine lv_iload_n hx hb d_Mo_choose_54 rfl (lv_at hl 1 rfl) ?_
            refine k_aldZ hx hb hK hP 4 0 rfl rfl (i := i) (by omega) (by omega) (by omega) d_Mo_choose_55 ?_
            have hv_8 := hpl i
            refine k_astZ hx hb hK hP hD hS 3 0 rfl rfl (i := i) (by omega) (by omega) (by omega) d_Mo_choose_56 ?_
            clear hP hD hS; intro H locs hP hD hS
            replace hP : va_P D k_cl ([(w 0, .inr (4, [.ref (w 1), .int (zI ↑n), .ref (w 2), .ref (w 3), .ref (w 4), .ref (w 5), .int (zI ↑np), .ref (w 6), .ref (w 7), .int (zI ↑kn), .ref (w 8), .ref (w 9), .ref (w 10), .int (zI ↑ch), .int (zI (gMoved pl of np)), .ref (w 11), .int (zI sf), .int (zI st), .ref (w 12)])), (w 6, .inl (cI, 4, .inl (kA of))), (w 10, .inl (cI, 200, .inl (kA (va_up mn (gMoved pl of np).toNat (mn (gMoved pl of np).toNat + 1))))), (w 11, .inl (cI, 4, .inl (kZ (va_up f2 i (pl i))))), (w 12, .inl (cI, 4, .inl (kZ pl)))]) H := hP
            replace hD : va_D A ([(w 0, .inr (4, [.ref (w 1), .int (zI ↑n), .ref (w 2), .ref (w 3), .ref (w 4), .ref (w 5), .int (zI ↑np), .ref (w 6), .ref (w 7), .int (zI ↑kn), .ref (w 8), .ref (w 9), .ref (w 10), .int (zI ↑ch), .int (zI (gMoved pl of np)), .ref (w 11), .int (zI sf), .int (zI st), .ref (w 12)])), (w 6, .inl (cI, 4, .inl (kA of))), (w 10, .inl (cI, 200, .inl (kA (va_up mn (gMoved pl of np).toNat (mn (gMoved pl of np).toNat + 1))))), (w 11, .inl (cI, 4, .inl (kZ (va_up f2 i (pl i))))), (w 12, .inl (cI, 4, .inl (kZ pl)))]) := hD
            refine k_iinc (v := ↑(i + 1)) (lv' := [(2, .int (zI (↑(i + 1)))), (0, .ref (w 0))]) hx hb d_Mo_choose_57 hl (k := 1) rfl (by omega) (by decide) rfl ?_
            clear hl; intro ls hl
            refine lv_goto (tgt := 37) hx hb d_Mo_choose_60 (by decide) ?_
            exact ih_37 (i + 1) _ (by omega) hgc _ _ _ hP hD hS (lv_sub hl [1, 0] rfl)
      exact loop_37 np 0 fi (by omega) rfl _ _ _ hP hD hS (lv_sub hl [2, 0] rfl)
