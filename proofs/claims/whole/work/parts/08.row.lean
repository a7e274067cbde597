abbrev rm_Row_add : Room := { frames := 1, cells := 0, slots := 0, locals := 20 }
set_option maxHeartbeats 4000000 in
set_option maxRecDepth 100000 in
theorem c_Row_add (l : Launch) (D : va_G) (cI cR cG : ClassId) (h e i v : Nat) (F : Nat → Nat) (hi : i < 30) (hv : v ≤ 30) (hF : ∀ j, F j ≤ 30) : k_M l y_Ro_add (.code y_Ro_add b_Ro_add 3 none :: kW) rm_Row_add D k_cl (k_ty cI cR cG) [.ref h, .int (zI ↑i), .int (zI ↑v)] ([(h, .inr (2, [.ref e])), (e, .inl (cI, 30, .inl (kA F)))]) (k_Qv D k_cl [(h, .inr (2, [.ref e])), (e, .inl (cI, 30, .inl (kA (rAdd F i v))))]) := by
  refine k_start (cc := b_Ro_add) (maxL := 3) (ret := none) (by decide) rfl (Nat.le_of_ble_eq_true rfl) ?_
  intro p ev s m ar below meth c A ls Qf hQf hx hb hr hml hts hown hlocks hin hK hG hA hP hD hS hl
  replace hown : s.vm.findClass R_Ro = some m.cls := hown
  replace hl : lv_has ls 3 [(0, .ref h), (1, .int (zI ↑i)), (2, .int (zI ↑v))] := hl
  have hkw : ∀ w ∈ kW, w.before ar s = true := fun w h => hts w (List.mem_cons_of_mem _ h)
  replace hP : va_P D k_cl ([(h, .inr (2, [.ref e])), (e, .inl (cI, 30, .inl (kA F)))]) s.heap := hP
  replace hD : va_D A ([(h, .inr (2, [.ref e])), (e, .inl (cI, 30, .inl (kA F)))]) := hD
  refine lv_iload_n hx hb d_Ro_add_0 rfl (lv_at hl 1 rfl) ?_
  refine k_beI (va_runSN (As := [.int (zI ↑i)]) (rest := []) ⟨hx, hb, hml, hown, hkw⟩ (c_PM_isPlace l D cI cR cG ↑i ⟨by omega, by omega⟩ _) ⟨va_cnB 1 hkw (k_gN kw_code_Pm_isPlace) rfl rfl rfl (hG (R_Ro, 21, y_Pm_isPlace, "PhraseMoves") List.mem_cons_self) (hkw _ kw_initialized_Pm) (by decide +kernel) ⟨(Nat.le_of_ble_eq_true rfl), (Nat.le_of_ble_eq_true rfl)⟩, (hkw _ kw_static_Pm_isPlace), trivial⟩ (k_preS hK hG hP hD [] rfl rfl) rfl rfl hl.1 rfl (lv_room (Nat.le_of_ble_eq_true rfl)) d_Ro_add_1 ⟨Nat.zero_le _, Nat.zero_le _⟩) hP hD hS hA [] rfl (Eq.trans (b := []) rfl rfl) ?_
  clear hP hD hS; intro H locs hP hD hS
  replace hP : va_P D k_cl ([(h, .inr (2, [.ref e])), (e, .inl (cI, 30, .inl (kA F)))]) H := hP
  replace hD : va_D A ([(h, .inr (2, [.ref e])), (e, .inl (cI, 30, .inl (kA F)))]) := hD
  refine k_bif_eq (tgt := 24) hx hb d_Ro_add_4 (by decide) (fun c_4 => ?_) (fun c_4 => ?_)
  · exfalso; omega
  · refine lv_iload_n hx hb d_Ro_add_7 rfl (lv_at hl 2 rfl) ?_
    refine lv_aload_n hx hb d_Ro_add_8 rfl (lv_at hl 0 rfl) ?_
    refine va_get (D := D) (ci := 2) (v := .ref e) (C := R_Ro) (T := T_Ro) (N := 1) hx hb hkw kin_Ro hown hK hP 0 rfl rfl 0 (by decide) (hkw _ kw_fieldLink_Ro_9) (fun _ h9 => h9) rfl d_Ro_add_9 ?_
    refine lv_iload_n hx hb d_Ro_add_12 rfl (lv_at hl 1 rfl) ?_
    refine k_ald hx hb hK hP 1 0 rfl rfl (i := i) (by omega) (by omega) (by omega) d_Ro_add_13 ?_
    have hv_1 := hF i
    refine k_icmp_ge (tgt := 24) hx hb d_Ro_add_14 (by decide) ⟨by omega, by omega⟩ ⟨by omega, by omega⟩ (fun c_14 => ?_) (fun c_14 => ?_)
    · rw [← hQf]
      have hP : va_P D k_cl [(h, .inr (2, [.ref e])), (e, .inl (cI, 30, .inl (kA (rAdd F i v))))] H := by
        rw [show rAdd F i v = F from if_neg (by omega)]
        exact hP
      exact k_vret hx hb hr hlocks hP hS d_Ro_add_24
    · refine lv_aload_n hx hb d_Ro_add_17 rfl (lv_at hl 0 rfl) ?_
      refine va_get (D := D) (ci := 2) (v := .ref e) (C := R_Ro) (T := T_Ro) (N := 1) hx hb hkw kin_Ro hown hK hP 0 rfl rfl 0 (by decide) (hkw _ kw_fieldLink_Ro_9) (fun _ h9 => h9) rfl d_Ro_add_18 ?_
      refine lv_iload_n hx hb d_Ro_add_21 rfl (lv_at hl 1 rfl) ?_
      refine lv_iload_n hx hb d_Ro_add_22 rfl (lv_at hl 2 rfl) ?_
      refine k_ast hx hb hK hP hD hS 1 0 rfl rfl (i := i) (v := v) (by omega) (by omega) (by omega) (by omega) d_Ro_add_23 ?_
      clear hP hD hS; intro H locs hP hD hS
      replace hP : va_P D k_cl ([(h, .inr (2, [.ref e])), (e, .inl (cI, 30, .inl (kA (va_up F i v))))]) H := hP
      replace hD : va_D A ([(h, .inr (2, [.ref e])), (e, .inl (cI, 30, .inl (kA (va_up F i v))))]) := hD
      rw [← hQf]
      have hP : va_P D k_cl [(h, .inr (2, [.ref e])), (e, .inl (cI, 30, .inl (kA (rAdd F i v))))] H := by
        rw [show rAdd F i v = va_up F i v from if_pos (by omega)]
        exact hP
      exact k_vret hx hb hr hlocks hP hS d_Ro_add_24

abbrev rm_Row_beginsAt : Room := { frames := 1, cells := 0, slots := 0, locals := 20 }
set_option maxHeartbeats 4000000 in
set_option maxRecDepth 100000 in
theorem c_Row_beginsAt (l : Launch) (D : va_G) (cI cR cG : ClassId) (h e i : Nat) (F : Nat → Nat) (hi : i < 30) (hF : ∀ j, F j ≤ 30) : k_M l y_Ro_beginsAt (.code y_Ro_beginsAt b_Ro_beginsAt 2 (some .boolean) :: kW) rm_Row_beginsAt D k_cl (k_ty cI cR cG) [.ref h, .int (zI ↑i)] ([(h, .inr (2, [.ref e])), (e, .inl (cI, 30, .inl (kA F)))]) (k_Qi D k_cl (k_b (F i ≠ 30)) [(h, .inr (2, [.ref e])), (e, .inl (cI, 30, .inl (kA F)))]) := by
  refine k_start (cc := b_Ro_beginsAt) (maxL := 2) (ret := (some .boolean)) (by decide) rfl (Nat.le_of_ble_eq_true rfl) ?_
  intro p ev s m ar below meth c A ls Qf hQf hx hb hr hml hts hown hlocks hin hK hG hA hP hD hS hl
  replace hown : s.vm.findClass R_Ro = some m.cls := hown
  replace hl : lv_has ls 2 [(0, .ref h), (1, .int (zI ↑i))] := hl
  have hkw : ∀ w ∈ kW, w.before ar s = true := fun w h => hts w (List.mem_cons_of_mem _ h)
  replace hP : va_P D k_cl ([(h, .inr (2, [.ref e])), (e, .inl (cI, 30, .inl (kA F)))]) s.heap := hP
  replace hD : va_D A ([(h, .inr (2, [.ref e])), (e, .inl (cI, 30, .inl (kA F)))]) := hD
  refine lv_iload_n hx hb d_Ro_beginsAt_0 rfl (lv_at hl 1 rfl) ?_
  refine k_beI (va_runSN (As := [.int (zI ↑i)]) (rest := []) ⟨hx, hb, hml, hown, hkw⟩ (c_PM_isPlace l D cI cR cG ↑i ⟨by omega, by omega⟩ _) ⟨va_cnB 1 hkw (k_gN kw_code_Pm_isPlace) rfl rfl rfl (hG (R_Ro, 21, y_Pm_isPlace, "PhraseMoves") List.mem_cons_self) (hkw _ kw_initialized_Pm) (by decide +kernel) ⟨(Nat.le_of_ble_eq_true rfl), (Nat.le_of_ble_eq_true rfl)⟩, (hkw _ kw_static_Pm_isPlace), trivial⟩ (k_preS hK hG hP hD [] rfl rfl) rfl rfl hl.1 rfl (lv_room (Nat.le_of_ble_eq_true rfl)) d_Ro_beginsAt_1 ⟨Nat.zero_le _, Nat.zero_le _⟩) hP hD hS hA [] rfl (Eq.trans (b := []) rfl rfl) ?_
  clear hP hD hS; intro H locs hP hD hS
  replace hP : va_P D k_cl ([(h, .inr (2, [.ref e])), (e, .inl (cI, 30, .inl (kA F)))]) H := hP
  replace hD : va_D A ([(h, .inr (2, [.ref e])), (e, .inl (cI, 30, .inl (kA F)))]) := hD
  refine k_bif_eq (tgt := 22) hx hb d_Ro_beginsAt_4 (by decide) (fun c_4 => ?_) (fun c_4 => ?_)
  · exfalso; omega
  · refine lv_aload_n hx hb d_Ro_beginsAt_7 rfl (lv_at hl 0 rfl) ?_
    refine va_get (D := D) (ci := 2) (v := .ref e) (C := R_Ro) (T := T_Ro) (N := 1) hx hb hkw kin_Ro hown hK hP 0 rfl rfl 0 (by decide) (hkw _ kw_fieldLink_Ro_9) (fun _ h9 => h9) rfl d_Ro_beginsAt_8 ?_
    refine lv_iload_n hx hb d_Ro_beginsAt_11 rfl (lv_at hl 1 rfl) ?_
    refine k_ald hx hb hK hP 1 0 rfl rfl (i := i) (by omega) (by omega) (by omega) d_Ro_beginsAt_12 ?_
    have hv_1 := hF i
    refine lv_bipush (v := zI 30) hx hb d_Ro_beginsAt_13 (by decide) ?_
    refine k_icmp_eq (tgt := 22) hx hb d_Ro_beginsAt_15 (by decide) ⟨by omega, by omega⟩ ⟨by omega, by omega⟩ (fun c_15 => ?_) (fun c_15 => ?_)
    · refine lv_iconst (v := zI 0) hx hb d_Ro_beginsAt_22 (by decide) ?_
      rw [← hQf]
      exact k_zret hx hb hr hlocks hP hS (k_bf (by omega)).symm d_Ro_beginsAt_23
    · refine lv_iconst (v := zI 1) hx hb d_Ro_beginsAt_18 (by decide) ?_
      refine lv_goto (tgt := 23) hx hb d_Ro_beginsAt_19 (by decide) ?_
      rw [← hQf]
      exact k_zret hx hb hr hlocks hP hS (k_bt (by omega)).symm d_Ro_beginsAt_23

abbrev rm_Row_keepLeast : Room := { frames := 0, cells := 0, slots := 0, locals := 0 }
set_option maxHeartbeats 4000000 in
set_option maxRecDepth 100000 in
theorem c_Row_keepLeast (l : Launch) (D : va_G) (cI cR cG : ClassId) (h e : Nat) (G0 : Nat → Nat) (hG0 : ∀ j, G0 j ≤ 30) : k_M l y_Ro_keepLeast (.code y_Ro_keepLeast b_Ro_keepLeast 3 none :: kW) rm_Row_keepLeast D k_cl (k_ty cI cR cG) [.ref h] ([(h, .inr (2, [.ref e])), (e, .inl (cI, 30, .inl (kA G0)))]) (k_Qv D k_cl [(h, .inr (2, [.ref e])), (e, .inl (cI, 30, .inl (kA (rKL 30 G0 30))))]) := by
  refine k_start (cc := b_Ro_keepLeast) (maxL := 3) (ret := none) (by decide) rfl (Nat.le_of_ble_eq_true rfl) ?_
  intro p ev s m ar below meth c A ls Qf hQf hx hb hr hml hts hown hlocks hin hK hG hA hP hD hS hl
  replace hown : s.vm.findClass R_Ro = some m.cls := hown
  replace hl : lv_has ls 3 [(0, .ref h)] := hl
  have hkw : ∀ w ∈ kW, w.before ar s = true := fun w h => hts w (List.mem_cons_of_mem _ h)
  replace hP : va_P D k_cl ([(h, .inr (2, [.ref e])), (e, .inl (cI, 30, .inl (kA G0)))]) s.heap := hP
  replace hD : va_D A ([(h, .inr (2, [.ref e])), (e, .inl (cI, 30, .inl (kA G0)))]) := hD
  refine lv_bipush (v := zI 30) hx hb d_Ro_keepLeast_0 (by decide) ?_
  refine lv_istore_n (lv' := [(1, .int (zI 30)), (0, .ref h)]) hx hb d_Ro_keepLeast_2 rfl hl (by decide) rfl ?_
  clear hl; intro ls hl
  refine lv_bipush (v := zI 29) hx hb d_Ro_keepLeast_3 (by decide) ?_
  refine lv_istore_n (lv' := [(2, .int (zI 29)), (1, .int (zI 30)), (0, .ref h)]) hx hb d_Ro_keepLeast_5 rfl hl (by decide) rfl ?_
  clear hl; intro ls hl
  have loop_6 : ∀ (n : Nat) (z : Int) (le : Nat) (F : Nat → Nat), (z = (n : Int) - 1) → (n ≤ 30) → (le ≤ 30) → (∀ j, F j ≤ 30) → (rKL n F le = rKL 30 G0 30) → ∀ (H : Heap) (locs : List Loc) (ls : Array Slot), va_P D k_cl ([(h, .inr (2, [.ref e])), (e, .inl (cI, 30, .inl (kA F)))]) H → va_D A ([(h, .inr (2, [.ref e])), (e, .inl (cI, 30, .inl (kA F)))]) → va_S A s.heap H locs → lv_has ls 3 [(0, .ref h), (1, .int (zI ↑le)), (2, .int (zI z))] → W p l ev rm_Row_keepLeast s m ar below meth c H locs 0 0 Qf (F0 m 6 ls []) := by
    intro n
    induction n with
    | zero =>
      intro z le F hz hn hle hF hgo H locs ls hP hD hS hl
      refine lv_iload_n hx hb d_Ro_keepLeast_6 rfl (lv_at hl 2 rfl) ?_
      refine k_if_lt (tgt := 44) hx hb d_Ro_keepLeast_7 (by decide) ⟨by omega, by omega⟩ (fun c_7 => ?_) (fun c_7 => ?_)
      · rw [← hQf]
        have hP : va_P D k_cl [(h, .inr (2, [.ref e])), (e, .inl (cI, 30, .inl (kA (rKL 30 G0 30))))] H := by
          rw [show rKL 30 G0 30 = F from hgo.symm]
          exact hP
        exact k_vret hx hb hr hlocks hP hS d_Ro_keepLeast_44
      · exfalso; omega
    | succ n ih_6 =>
      intro z le F hz hn hle hF hgo H locs ls hP hD hS hl
      refine lv_iload_n hx hb d_Ro_keepLeast_6 rfl (lv_at hl 2 rfl) ?_
      refine k_if_lt (tgt := 44) hx hb d_Ro_keepLeast_7 (by decide) ⟨by omega, by omega⟩ (fun c_7 => ?_) (fun c_7 => ?_)
      · exfalso; omega
      · refine lv_aload_n hx hb d_Ro_keepLeast_10 rfl (lv_at hl 0 rfl) ?_
        refine va_get (D := D) (ci := 2) (v := .ref e) (C := R_Ro) (T := T_Ro) (N := 1) hx hb hkw kin_Ro hown hK hP 0 rfl rfl 0 (by decide) (hkw _ kw_fieldLink_Ro_9) (fun _ h9 => h9) rfl d_Ro_keepLeast_11 ?_
        refine lv_iload_n hx hb d_Ro_keepLeast_14 rfl (lv_at hl 2 rfl) ?_
        refine k_ald hx hb hK hP 1 0 rfl rfl (i := n) (by omega) (by omega) (by omega) d_Ro_keepLeast_15 ?_
        have hv_1 := hF n
        refine lv_iload_n hx hb d_Ro_keepLeast_16 rfl (lv_at hl 1 rfl) ?_
        refine k_icmp_ge (tgt := 30) hx hb d_Ro_keepLeast_17 (by decide) ⟨by omega, by omega⟩ ⟨by omega, by omega⟩ (fun c_17 => ?_) (fun c_17 => ?_)
        · refine lv_aload_n hx hb d_Ro_keepLeast_30 rfl (lv_at hl 0 rfl) ?_
          refine va_get (D := D) (ci := 2) (v := .ref e) (C := R_Ro) (T := T_Ro) (N := 1) hx hb hkw kin_Ro hown hK hP 0 rfl rfl 0 (by decide) (hkw _ kw_fieldLink_Ro_9) (fun _ h9 => h9) rfl d_Ro_keepLeast_31 ?_
          refine lv_iload_n hx hb d_Ro_keepLeast_34 rfl (lv_at hl 2 rfl) ?_
          refine lv_bipush (v := zI 30) hx hb d_Ro_keepLeast_35 (by decide) ?_
          refine k_ast hx hb hK hP hD hS 1 0 rfl rfl (i := n) (v := 30) (by omega) (by omega) (by omega) (by omega) d_Ro_keepLeast_37 ?_
          clear hP hD hS; intro H locs hP hD hS
          replace hP : va_P D k_cl ([(h, .inr (2, [.ref e])), (e, .inl (cI, 30, .inl (kA (va_up F n 30))))]) H := hP
          replace hD : va_D A ([(h, .inr (2, [.ref e])), (e, .inl (cI, 30, .inl (kA (va_up F n 30))))]) := hD
          refine k_iinc (v := z + (-1)) (lv' := [(2, .int (zI (z + (-1)))), (0, .ref h), (1, .int (zI ↑le))]) hx hb d_Ro_keepLeast_38 hl (k := 2) rfl (by omega) (by decide) rfl ?_
          clear hl; intro ls hl
          refine lv_goto (tgt := 6) hx hb d_Ro_keepLeast_41 (by decide) ?_
          exact ih_6 (z + (-1)) le (va_up F n 30) (by omega) (by omega) (by omega) (k_upB hF (by omega)) (by rw [rKL] at hgo; (repeat' split at hgo); all_goals first | exact hgo | (exfalso; omega) | contradiction) _ _ _ hP hD hS (lv_sub hl [1, 2, 0] rfl)
        · refine lv_aload_n hx hb d_Ro_keepLeast_20 rfl (lv_at hl 0 rfl) ?_
          refine va_get (D := D) (ci := 2) (v := .ref e) (C := R_Ro) (T := T_Ro) (N := 1) hx hb hkw kin_Ro hown hK hP 0 rfl rfl 0 (by decide) (hkw _ kw_fieldLink_Ro_9) (fun _ h9 => h9) rfl d_Ro_keepLeast_21 ?_
          refine lv_iload_n hx hb d_Ro_keepLeast_24 rfl (lv_at hl 2 rfl) ?_
          refine k_ald hx hb hK hP 1 0 rfl rfl (i := n) (by omega) (by omega) (by omega) d_Ro_keepLeast_25 ?_
          have hv_2 := hF n
          refine lv_istore_n (lv' := [(1, .int (zI (↑(F n)))), (0, .ref h), (2, .int (zI z))]) hx hb d_Ro_keepLeast_26 rfl hl (by decide) rfl ?_
          clear hl; intro ls hl
          refine lv_goto (tgt := 38) hx hb d_Ro_keepLeast_27 (by decide) ?_
          refine k_iinc (v := z + (-1)) (lv' := [(2, .int (zI (z + (-1)))), (1, .int (zI (↑(F n)))), (0, .ref h)]) hx hb d_Ro_keepLeast_38 hl (k := 2) rfl (by omega) (by decide) rfl ?_
          clear hl; intro ls hl
          refine lv_goto (tgt := 6) hx hb d_Ro_keepLeast_41 (by decide) ?_
          exact ih_6 (z + (-1)) (F n) F (by omega) (by omega) (by omega) hF (by rw [rKL] at hgo; (repeat' split at hgo); all_goals first | exact hgo | (exfalso; omega) | contradiction) _ _ _ hP hD hS (lv_sub hl [2, 1, 0] rfl)
  exact loop_6 30 29 30 G0 (by omega) (by omega) (by omega) hG0 rfl _ _ _ hP hD hS (lv_sub hl [2, 1, 0] rfl)

abbrev rm_Row_size : Room := { frames := 2, cells := 0, slots := 0, locals := 41 }
set_option maxHeartbeats 4000000 in
set_option maxRecDepth 100000 in
theorem c_Row_size (l : Launch) (D : va_G) (cI cR cG : ClassId) (h e : Nat) (F : Nat → Nat) (hF : ∀ j, F j ≤ 30) : k_M l y_Ro_size (.code y_Ro_size b_Ro_size 3 (some .int) :: kW) rm_Row_size D k_cl (k_ty cI cR cG) [.ref h] ([(h, .inr (2, [.ref e])), (e, .inl (cI, 30, .inl (kA F)))]) (k_Qi D k_cl (zI (rSize F 30 0 0 : Nat)) [(h, .inr (2, [.ref e])), (e, .inl (cI, 30, .inl (kA F)))]) := by
  refine k_start (cc := b_Ro_size) (maxL := 3) (ret := (some .int)) (by decide) rfl (Nat.le_of_ble_eq_true rfl) ?_
  intro p ev s m ar below meth c A ls Qf hQf hx hb hr hml hts hown hlocks hin hK hG hA hP hD hS hl
  replace hown : s.vm.findClass R_Ro = some m.cls := hown
  replace hl : lv_has ls 3 [(0, .ref h)] := hl
  have hkw : ∀ w ∈ kW, w.before ar s = true := fun w h => hts w (List.mem_cons_of_mem _ h)
  replace hP : va_P D k_cl ([(h, .inr (2, [.ref e])), (e, .inl (cI, 30, .inl (kA F)))]) s.heap := hP
  replace hD : va_D A ([(h, .inr (2, [.ref e])), (e, .inl (cI, 30, .inl (kA F)))]) := hD
  refine lv_iconst (v := zI 0) hx hb d_Ro_size_0 (by decide) ?_
  refine lv_istore_n (lv' := [(1, .int (zI 0)), (0, .ref h)]) hx hb d_Ro_size_1 rfl hl (by decide) rfl ?_
  clear hl; intro ls hl
  refine lv_iconst (v := zI 0) hx hb d_Ro_size_2 (by decide) ?_
  refine lv_istore_n (lv' := [(2, .int (zI 0)), (1, .int (zI 0)), (0, .ref h)]) hx hb d_Ro_size_3 rfl hl (by decide) rfl ?_
  clear hl; intro ls hl
  have loop_4 : ∀ (n : Nat) (i : Nat) (acc : Nat), (i + n = 30) → (rSize F n i acc = rSize F 30 0 0) → ∀ (H : Heap) (locs : List Loc) (ls : Array Slot), va_P D k_cl ([(h, .inr (2, [.ref e])), (e, .inl (cI, 30, .inl (kA F)))]) H → va_D A ([(h, .inr (2, [.ref e])), (e, .inl (cI, 30, .inl (kA F)))]) → va_S A s.heap H locs → lv_has ls 3 [(0, .ref h), (1, .int (zI ↑acc)), (2, .int (zI ↑i))] → W p l ev rm_Row_size s m ar below meth c H locs 0 0 Qf (F0 m 4 ls []) := by
    intro n
    induction n with
    | zero =>
      intro i acc hin hgo H locs ls hP hD hS hl
      refine lv_iload_n hx hb d_Ro_size_4 rfl (lv_at hl 2 rfl) ?_
      refine lv_bipush (v := zI 30) hx hb d_Ro_size_5 (by decide) ?_
      refine k_icmp_ge (tgt := 27) hx hb d_Ro_size_7 (by decide) ⟨by omega, by omega⟩ ⟨by omega, by omega⟩ (fun c_7 => ?_) (fun c_7 => ?_)
      · refine lv_iload_n hx hb d_Ro_size_27 rfl (lv_at hl 1 rfl) ?_
        rw [← hQf]
        exact k_iret hx hb hr hlocks hP hS (by rw [← hgo]; rfl) d_Ro_size_28
      · exfalso; omega
    | succ n ih_4 =>
      intro i acc hin hgo H locs ls hP hD hS hl
      refine lv_iload_n hx hb d_Ro_size_4 rfl (lv_at hl 2 rfl) ?_
      refine lv_bipush (v := zI 30) hx hb d_Ro_size_5 (by decide) ?_
      refine k_icmp_ge (tgt := 27) hx hb d_Ro_size_7 (by decide) ⟨by omega, by omega⟩ ⟨by omega, by omega⟩ (fun c_7 => ?_) (fun c_7 => ?_)
      · exfalso; omega
      · refine lv_aload_n hx hb d_Ro_size_10 rfl (lv_at hl 0 rfl) ?_
        refine lv_iload_n hx hb d_Ro_size_11 rfl (lv_at hl 2 rfl) ?_
        refine k_beI (va_runV (As := [.int (zI ↑i)]) (rest := []) ⟨hx, hb, hml, hown, hkw⟩ (c_Row_beginsAt l D cI cR cG h e i F (by omega) hF _) (cwV 1 hkw (k_gV kw_methodLink_Ro_25 kw_instanceMethod_Ro_beginsAt kw_selects_Ro_beginsAt kw_initialized_Ro kw_code_Ro_beginsAt) rfl rfl rfl (by decide +kernel) ⟨(Nat.le_of_ble_eq_true rfl), (Nat.le_of_ble_eq_true rfl)⟩) (k_preV (q0 := 0) hK hG hP hD [0, 1] rfl rfl rfl rfl) rfl rfl hl.1 rfl (lv_room (Nat.le_of_ble_eq_true rfl)) d_Ro_size_12 ⟨Nat.zero_le _, Nat.zero_le _⟩) hP hD hS hA [0, 1] rfl (Eq.trans (b := [h, e]) rfl rfl) ?_
        clear hP hD hS; intro H locs hP hD hS
        replace hP : va_P D k_cl ([(h, .inr (2, [.ref e])), (e, .inl (cI, 30, .inl (kA F)))]) H := hP
        replace hD : va_D A ([(h, .inr (2, [.ref e])), (e, .inl (cI, 30, .inl (kA F)))]) := hD
        refine k_bif_eq (tgt := 21) hx hb d_Ro_size_15 (by decide) (fun c_15 => ?_) (fun c_15 => ?_)
        · refine k_iinc (v := ↑(i + 1)) (lv' := [(2, .int (zI (↑(i + 1)))), (0, .ref h), (1, .int (zI ↑acc))]) hx hb d_Ro_size_21 hl (k := 2) rfl (by omega) (by decide) rfl ?_
          clear hl; intro ls hl
          refine lv_goto (tgt := 4) hx hb d_Ro_size_24 (by decide) ?_
          exact ih_4 (i + 1) acc (by omega) (by rw [rSize] at hgo; (repeat' split at hgo); all_goals first | exact hgo | (exfalso; omega) | contradiction) _ _ _ hP hD hS (lv_sub hl [1, 2, 0] rfl)
        · refine k_iinc (v := ↑(acc + 1)) (lv' := [(1, .int (zI (↑(acc + 1)))), (0, .ref h), (2, .int (zI ↑i))]) hx hb d_Ro_size_18 hl (k := 1) rfl (by omega) (by decide) rfl ?_
          clear hl; intro ls hl
          refine k_iinc (v := ↑(i + 1)) (lv' := [(2, .int (zI (↑(i + 1)))), (1, .int (zI (↑(acc + 1)))), (0, .ref h)]) hx hb d_Ro_size_21 hl (k := 2) rfl (by omega) (by decide) rfl ?_
          clear hl; intro ls hl
          refine lv_goto (tgt := 4) hx hb d_Ro_size_24 (by decide) ?_
          exact ih_4 (i + 1) (acc + 1) (by omega) (by rw [rSize] at hgo; (repeat' split at hgo); all_goals first | exact hgo | (exfalso; omega) | contradiction) _ _ _ hP hD hS (lv_sub hl [2, 1, 0] rfl)
  exact loop_4 30 0 0 (by omega) rfl _ _ _ hP hD hS (lv_sub hl [2, 1, 0] rfl)

abbrev rm_Row_beginOf : Room := { frames := 2, cells := 0, slots := 0, locals := 41 }
set_option maxHeartbeats 4000000 in
set_option maxRecDepth 100000 in
theorem c_Row_beginOf (l : Launch) (D : va_G) (cI cR cG : ClassId) (h e : Nat) (k : Int) (F : Nat → Nat) (hk : k_sm k) (hF : ∀ j, F j ≤ 30) : k_M l y_Ro_beginOf (.code y_Ro_beginOf b_Ro_beginOf 4 (some .int) :: kW) rm_Row_beginOf D k_cl (k_ty cI cR cG) [.ref h, .int (zI k)] ([(h, .inr (2, [.ref e])), (e, .inl (cI, 30, .inl (kA F)))]) (k_Qi D k_cl (zI (rBegin F k 30 0 0)) [(h, .inr (2, [.ref e])), (e, .inl (cI, 30, .inl (kA F)))]) := by
  refine k_start (cc := b_Ro_beginOf) (maxL := 4) (ret := (some .int)) (by decide) rfl (Nat.le_of_ble_eq_true rfl) ?_
  intro p ev s m ar below meth c A ls Qf hQf hx hb hr hml hts hown hlocks hin hK hG hA hP hD hS hl
  replace hown : s.vm.findClass R_Ro = some m.cls := hown
  replace hl : lv_has ls 4 [(0, .ref h), (1, .int (zI k))] := hl
  have hkw : ∀ w ∈ kW, w.before ar s = true := fun w h => hts w (List.mem_cons_of_mem _ h)
  replace hP : va_P D k_cl ([(h, .inr (2, [.ref e])), (e, .inl (cI, 30, .inl (kA F)))]) s.heap := hP
  replace hD : va_D A ([(h, .inr (2, [.ref e])), (e, .inl (cI, 30, .inl (kA F)))]) := hD
  have hk1 := hk.1
  have hk2 := hk.2
  refine lv_iconst (v := zI 0) hx hb d_Ro_beginOf_0 (by decide) ?_
  refine lv_istore_n (lv' := [(2, .int (zI 0)), (0, .ref h), (1, .int (zI k))]) hx hb d_Ro_beginOf_1 rfl hl (by decide) rfl ?_
  clear hl; intro ls hl
  refine lv_iconst (v := zI 0) hx hb d_Ro_beginOf_2 (by decide) ?_
  refine lv_istore_n (lv' := [(3, .int (zI 0)), (2, .int (zI 0)), (0, .ref h), (1, .int (zI k))]) hx hb d_Ro_beginOf_3 rfl hl (by decide) rfl ?_
  clear hl; intro ls hl
  have loop_4 : ∀ (n : Nat) (i : Nat) (b : Nat), (i + n = 30) → (b ≤ i) → (rBegin F k n i b = rBegin F k 30 0 0) → ∀ (H : Heap) (locs : List Loc) (ls : Array Slot), va_P D k_cl ([(h, .inr (2, [.ref e])), (e, .inl (cI, 30, .inl (kA F)))]) H → va_D A ([(h, .inr (2, [.ref e])), (e, .inl (cI, 30, .inl (kA F)))]) → va_S A s.heap H locs → lv_has ls 4 [(0, .ref h), (1, .int (zI k)), (2, .int (zI ↑b)), (3, .int (zI ↑i))] → W p l ev rm_Row_beginOf s m ar below meth c H locs 0 0 Qf (F0 m 4 ls []) := by
    intro n
    induction n with
    | zero =>
      intro i b hin hbi hgo H locs ls hP hD hS hl
      refine lv_iload_n hx hb d_Ro_beginOf_4 rfl (lv_at hl 3 rfl) ?_
      refine lv_bipush (v := zI 30) hx hb d_Ro_beginOf_5 (by decide) ?_
      refine k_icmp_ge (tgt := 34) hx hb d_Ro_beginOf_7 (by decide) ⟨by omega, by omega⟩ ⟨by omega, by omega⟩ (fun c_7 => ?_) (fun c_7 => ?_)
      · refine lv_iconst (v := zI (-1)) hx hb d_Ro_beginOf_34 (by decide) ?_
        rw [← hQf]
        exact k_iret hx hb hr hlocks hP hS (by rw [← hgo]; rfl) d_Ro_beginOf_35
      · exfalso; omega
    | succ n ih_4 =>
      intro i b hin hbi hgo H locs ls hP hD hS hl
      refine lv_iload_n hx hb d_Ro_beginOf_4 rfl (lv_at hl 3 rfl) ?_
      refine lv_bipush (v := zI 30) hx hb d_Ro_beginOf_5 (by decide) ?_
      refine k_icmp_ge (tgt := 34) hx hb d_Ro_beginOf_7 (by decide) ⟨by omega, by omega⟩ ⟨by omega, by omega⟩ (fun c_7 => ?_) (fun c_7 => ?_)
      · exfalso; omega
      · refine lv_aload_n hx hb d_Ro_beginOf_10 rfl (lv_at hl 0 rfl) ?_
        refine lv_iload_n hx hb d_Ro_beginOf_11 rfl (lv_at hl 3 rfl) ?_
        refine k_beI (va_runV (As := [.int (zI ↑i)]) (rest := []) ⟨hx, hb, hml, hown, hkw⟩ (c_Row_beginsAt l D cI cR cG h e i F (by omega) hF _) (cwV 1 hkw (k_gV kw_methodLink_Ro_25 kw_instanceMethod_Ro_beginsAt kw_selects_Ro_beginsAt kw_initialized_Ro kw_code_Ro_beginsAt) rfl rfl rfl (by decide +kernel) ⟨(Nat.le_of_ble_eq_true rfl), (Nat.le_of_ble_eq_true rfl)⟩) (k_preV (q0 := 0) hK hG hP hD [0, 1] rfl rfl rfl rfl) rfl rfl hl.1 rfl (lv_room (Nat.le_of_ble_eq_true rfl)) d_Ro_beginOf_12 ⟨Nat.zero_le _, Nat.zero_le _⟩) hP hD hS hA [0, 1] rfl (Eq.trans (b := [h, e]) rfl rfl) ?_
        clear hP hD hS; intro H locs hP hD hS
        replace hP : va_P D k_cl ([(h, .inr (2, [.ref e])), (e, .inl (cI, 30, .inl (kA F)))]) H := hP
        replace hD : va_D A ([(h, .inr (2, [.ref e])), (e, .inl (cI, 30, .inl (kA F)))]) := hD
        refine k_bif_eq (tgt := 28) hx hb d_Ro_beginOf_15 (by decide) (fun c_15 => ?_) (fun c_15 => ?_)
        · refine k_iinc (v := ↑(i + 1)) (lv' := [(3, .int (zI (↑(i + 1)))), (0, .ref h), (1, .int (zI k)), (2, .int (zI ↑b))]) hx hb d_Ro_beginOf_28 hl (k := 3) rfl (by omega) (by decide) rfl ?_
          clear hl; intro ls hl
          refine lv_goto (tgt := 4) hx hb d_Ro_beginOf_31 (by decide) ?_
          exact ih_4 (i + 1) b (by omega) (by omega) (by rw [rBegin] at hgo; (repeat' split at hgo); all_goals first | exact hgo | (exfalso; omega) | contradiction) _ _ _ hP hD hS (lv_sub hl [1, 2, 3, 0] rfl)
        · refine lv_iload_n hx hb d_Ro_beginOf_18 rfl (lv_at hl 2 rfl) ?_
          refine lv_iload_n hx hb d_Ro_beginOf_19 rfl (lv_at hl 1 rfl) ?_
          refine k_icmp_ne (tgt := 25) hx hb d_Ro_beginOf_20 (by decide) ⟨by omega, by omega⟩ ⟨by omega, by omega⟩ (fun c_20 => ?_) (fun c_20 => ?_)
          · refine k_iinc (v := ↑(b + 1)) (lv' := [(2, .int (zI (↑(b + 1)))), (0, .ref h), (1, .int (zI k)), (3, .int (zI ↑i))]) hx hb d_Ro_beginOf_25 hl (k := 2) rfl (by omega) (by decide) rfl ?_
            clear hl; intro ls hl
            refine k_iinc (v := ↑(i + 1)) (lv' := [(3, .int (zI (↑(i + 1)))), (2, .int (zI (↑(b + 1)))), (0, .ref h), (1, .int (zI k))]) hx hb d_Ro_beginOf_28 hl (k := 3) rfl (by omega) (by decide) rfl ?_
            clear hl; intro ls hl
            refine lv_goto (tgt := 4) hx hb d_Ro_beginOf_31 (by decide) ?_
            exact ih_4 (i + 1) (b + 1) (by omega) (by omega) (by rw [rBegin] at hgo; (repeat' split at hgo); all_goals first | exact hgo | (exfalso; omega) | contradiction) _ _ _ hP hD hS (lv_sub hl [2, 3, 1, 0] rfl)
          · refine lv_iload_n hx hb d_Ro_beginOf_23 rfl (lv_at hl 3 rfl) ?_
            rw [← hQf]
            exact k_iret hx hb hr hlocks hP hS (congrArg zI (by rw [rBegin] at hgo; (repeat' split at hgo); all_goals first | exact hgo | (exfalso; omega))) d_Ro_beginOf_24
  exact loop_4 30 0 0 (by omega) (by omega) rfl _ _ _ hP hD hS (lv_sub hl [2, 3, 1, 0] rfl)

abbrev rm_Row_endOf : Room := { frames := 3, cells := 0, slots := 0, locals := 64 }
set_option maxHeartbeats 4000000 in
set_option maxRecDepth 100000 in
theorem c_Row_endOf (l : Launch) (D : va_G) (cI cR cG : ClassId) (h e : Nat) (k : Int) (F : Nat → Nat) (hk : k_sm k) (hF : ∀ j, F j ≤ 30) : k_M l y_Ro_endOf (.code y_Ro_endOf b_Ro_endOf 3 (some .int) :: kW) rm_Row_endOf D k_cl (k_ty cI cR cG) [.ref h, .int (zI k)] ([(h, .inr (2, [.ref e])), (e, .inl (cI, 30, .inl (kA F)))]) (k_Qi D k_cl (zI (rEnd F k)) [(h, .inr (2, [.ref e])), (e, .inl (cI, 30, .inl (kA F)))]) := by
  refine k_start (cc := b_Ro_endOf) (maxL := 3) (ret := (some .int)) (by decide) rfl (Nat.le_of_ble_eq_true rfl) ?_
  intro p ev s m ar below meth c A ls Qf hQf hx hb hr hml hts hown hlocks hin hK hG hA hP hD hS hl
  replace hown : s.vm.findClass R_Ro = some m.cls := hown
  replace hl : lv_has ls 3 [(0, .ref h), (1, .int (zI k))] := hl
  have hkw : ∀ w ∈ kW, w.before ar s = true := fun w h => hts w (List.mem_cons_of_mem _ h)
  replace hP : va_P D k_cl ([(h, .inr (2, [.ref e])), (e, .inl (cI, 30, .inl (kA F)))]) s.heap := hP
  replace hD : va_D A ([(h, .inr (2, [.ref e])), (e, .inl (cI, 30, .inl (kA F)))]) := hD
  have hk1 := hk.1
  have hk2 := hk.2
  have hz := rBegin_bd F k 30 0 0 (by omega)
  refine lv_aload_n hx hb d_Ro_endOf_0 rfl (lv_at hl 0 rfl) ?_
  refine lv_iload_n hx hb d_Ro_endOf_1 rfl (lv_at hl 1 rfl) ?_
  refine k_beI (va_runV (As := [.int (zI k)]) (rest := []) ⟨hx, hb, hml, hown, hkw⟩ (c_Row_beginOf l D cI cR cG h e k F ⟨by omega, by omega⟩ hF _) (cwV 1 hkw (k_gV kw_methodLink_Ro_28 kw_instanceMethod_Ro_beginOf kw_selects_Ro_beginOf kw_initialized_Ro kw_code_Ro_beginOf) rfl rfl rfl (by decide +kernel) ⟨(Nat.le_of_ble_eq_true rfl), (Nat.le_of_ble_eq_true rfl)⟩) (k_preV (q0 := 0) hK hG hP hD [0, 1] rfl rfl rfl rfl) rfl rfl hl.1 rfl (lv_room (Nat.le_of_ble_eq_true rfl)) d_Ro_endOf_2 ⟨Nat.zero_le _, Nat.zero_le _⟩) hP hD hS hA [0, 1] rfl (Eq.trans (b := [h, e]) rfl rfl) ?_
  clear hP hD hS; intro H locs hP hD hS
  replace hP : va_P D k_cl ([(h, .inr (2, [.ref e])), (e, .inl (cI, 30, .inl (kA F)))]) H := hP
  replace hD : va_D A ([(h, .inr (2, [.ref e])), (e, .inl (cI, 30, .inl (kA F)))]) := hD
  refine lv_istore_n (lv' := [(2, .int (zI (rBegin F k 30 0 0))), (0, .ref h), (1, .int (zI k))]) hx hb d_Ro_endOf_5 rfl hl (by decide) rfl ?_
  clear hl; intro ls hl
  refine lv_iload_n hx hb d_Ro_endOf_6 rfl (lv_at hl 0 rfl) ?_
  refine k_beI (va_runSN (As := [.int (zI (rBegin F k 30 0 0))]) (rest := []) ⟨hx, hb, hml, hown, hkw⟩ (c_PM_isPlace l D cI cR cG (rBegin F k 30 0 0) ⟨by omega, by omega⟩ _) ⟨va_cnB 1 hkw (k_gN kw_code_Pm_isPlace) rfl rfl rfl (hG (R_Ro, 21, y_Pm_isPlace, "PhraseMoves") List.mem_cons_self) (hkw _ kw_initialized_Pm) (by decide +kernel) ⟨(Nat.le_of_ble_eq_true rfl), (Nat.le_of_ble_eq_true rfl)⟩, (hkw _ kw_static_Pm_isPlace), trivial⟩ (k_preS hK hG hP hD [] rfl rfl) rfl rfl hl.1 rfl (lv_room (Nat.le_of_ble_eq_true rfl)) d_Ro_endOf_7 ⟨Nat.zero_le _, Nat.zero_le _⟩) hP hD hS hA [] rfl (Eq.trans (b := []) rfl rfl) ?_
  clear hP hD hS; intro H locs hP hD hS
  replace hP : va_P D k_cl ([(h, .inr (2, [.ref e])), (e, .inl (cI, 30, .inl (kA F)))]) H := hP
  replace hD : va_D A ([(h, .inr (2, [.ref e])), (e, .inl (cI, 30, .inl (kA F)))]) := hD
  refine k_bif_eq (tgt := 22) hx hb d_Ro_endOf_10 (by decide) (fun c_10 => ?_) (fun c_10 => ?_)
  · refine lv_iconst (v := zI (-1)) hx hb d_Ro_endOf_22 (by decide) ?_
    rw [← hQf]
    exact k_iret hx hb hr hlocks hP hS (congrArg zI (if_neg (by omega)).symm) d_Ro_endOf_23
  · refine lv_aload_n hx hb d_Ro_endOf_13 rfl (lv_at hl 1 rfl) ?_
    refine va_get (D := D) (ci := 2) (v := .ref e) (C := R_Ro) (T := T_Ro) (N := 1) hx hb hkw kin_Ro hown hK hP 0 rfl rfl 0 (by decide) (hkw _ kw_fieldLink_Ro_9) (fun _ h9 => h9) rfl d_Ro_endOf_14 ?_
    refine lv_iload_n hx hb d_Ro_endOf_17 rfl (lv_at hl 0 rfl) ?_
    refine k_ald hx hb hK hP 1 0 rfl rfl (i := (rBegin F k 30 0 0).toNat) (by omega) (by omega) (by omega) d_Ro_endOf_18 ?_
    have hv_1 := hF ((rBegin F k 30 0 0).toNat)
    refine lv_goto (tgt := 23) hx hb d_Ro_endOf_19 (by decide) ?_
    rw [← hQf]
    exact k_iret hx hb hr hlocks hP hS (congrArg zI (if_pos (by omega)).symm) d_Ro_endOf_23

abbrev rm_Row_placesCovered : Room := { frames := 2, cells := 0, slots := 0, locals := 41 }
set_option maxHeartbeats 4000000 in
set_option maxRecDepth 100000 in
theorem c_Row_placesCovered (l : Launch) (D : va_G) (cI cR cG : ClassId) (h e : Nat) (F : Nat → Nat) (hF : ∀ j, F j ≤ 30) : k_M l y_Ro_placesCovered (.code y_Ro_placesCovered b_Ro_placesCovered 4 (some .int) :: kW) rm_Row_placesCovered D k_cl (k_ty cI cR cG) [.ref h] ([(h, .inr (2, [.ref e])), (e, .inl (cI, 30, .inl (kA F)))]) (k_Qi D k_cl (zI (rCov F 30 0 0 (-1))) [(h, .inr (2, [.ref e])), (e, .inl (cI, 30, .inl (kA F)))]) := by
  refine k_start (cc := b_Ro_placesCovered) (maxL := 4) (ret := (some .int)) (by decide) rfl (Nat.le_of_ble_eq_true rfl) ?_
  intro p ev s m ar below meth c A ls Qf hQf hx hb hr hml hts hown hlocks hin hK hG hA hP hD hS hl
  replace hown : s.vm.findClass R_Ro = some m.cls := hown
  replace hl : lv_has ls 4 [(0, .ref h)] := hl
  have hkw : ∀ w ∈ kW, w.before ar s = true := fun w h => hts w (List.mem_cons_of_mem _ h)
  replace hP : va_P D k_cl ([(h, .inr (2, [.ref e])), (e, .inl (cI, 30, .inl (kA F)))]) s.heap := hP
  replace hD : va_D A ([(h, .inr (2, [.ref e])), (e, .inl (cI, 30, .inl (kA F)))]) := hD
  refine lv_iconst (v := zI 0) hx hb d_Ro_placesCovered_0 (by decide) ?_
  refine lv_istore_n (lv' := [(1, .int (zI 0)), (0, .ref h)]) hx hb d_Ro_placesCovered_1 rfl hl (by decide) rfl ?_
  clear hl; intro ls hl
  refine lv_iconst (v := zI (-1)) hx hb d_Ro_placesCovered_2 (by decide) ?_
  refine lv_istore_n (lv' := [(2, .int (zI (-1))), (1, .int (zI 0)), (0, .ref h)]) hx hb d_Ro_placesCovered_3 rfl hl (by decide) rfl ?_
  clear hl; intro ls hl
  refine lv_iconst (v := zI 0) hx hb d_Ro_placesCovered_4 (by decide) ?_
  refine lv_istore_n (lv' := [(3, .int (zI 0)), (2, .int (zI (-1))), (1, .int (zI 0)), (0, .ref h)]) hx hb d_Ro_placesCovered_5 rfl hl (by decide) rfl ?_
  clear hl; intro ls hl
  have loop_6 : ∀ (n : Nat) (i : Nat) (cov : Int) (last : Int), (i + n = 30) → (-1 ≤ last ∧ last ≤ 30) → (rCov F n i cov last = rCov F 30 0 0 (-1)) → ∀ (H : Heap) (locs : List Loc) (ls : Array Slot), va_P D k_cl ([(h, .inr (2, [.ref e])), (e, .inl (cI, 30, .inl (kA F)))]) H → va_D A ([(h, .inr (2, [.ref e])), (e, .inl (cI, 30, .inl (kA F)))]) → va_S A s.heap H locs → lv_has ls 4 [(0, .ref h), (1, .int (zI cov)), (2, .int (zI last)), (3, .int (zI ↑i))] → W p l ev rm_Row_placesCovered s m ar below meth c H locs 0 0 Qf (F0 m 6 ls []) := by
    intro n
    induction n with
    | zero =>
      intro i cov last hin hla hgo H locs ls hP hD hS hl
      refine lv_iload_n hx hb d_Ro_placesCovered_6 rfl (lv_at hl 3 rfl) ?_
      refine lv_bipush (v := zI 30) hx hb d_Ro_placesCovered_7 (by decide) ?_
      refine k_icmp_ge (tgt := 50) hx hb d_Ro_placesCovered_9 (by decide) ⟨by omega, by omega⟩ ⟨by omega, by omega⟩ (fun c_9 => ?_) (fun c_9 => ?_)
      · refine lv_iload_n hx hb d_Ro_placesCovered_50 rfl (lv_at hl 1 rfl) ?_
        rw [← hQf]
        exact k_iret hx hb hr hlocks hP hS (by rw [← hgo]; rfl) d_Ro_placesCovered_51
      · exfalso; omega
    | succ n ih_6 =>
      intro i cov last hin hla hgo H locs ls hP hD hS hl
      refine lv_iload_n hx hb d_Ro_placesCovered_6 rfl (lv_at hl 3 rfl) ?_
      refine lv_bipush (v := zI 30) hx hb d_Ro_placesCovered_7 (by decide) ?_
      refine k_icmp_ge (tgt := 50) hx hb d_Ro_placesCovered_9 (by decide) ⟨by omega, by omega⟩ ⟨by omega, by omega⟩ (fun c_9 => ?_) (fun c_9 => ?_)
      · exfalso; omega
      · refine lv_aload_n hx hb d_Ro_placesCovered_12 rfl (lv_at hl 0 rfl) ?_
        refine lv_iload_n hx hb d_Ro_placesCovered_13 rfl (lv_at hl 3 rfl) ?_
        refine k_beI (va_runV (As := [.int (zI ↑i)]) (rest := []) ⟨hx, hb, hml, hown, hkw⟩ (c_Row_beginsAt l D cI cR cG h e i F (by omega) hF _) (cwV 1 hkw (k_gV kw_methodLink_Ro_25 kw_instanceMethod_Ro_beginsAt kw_selects_Ro_beginsAt kw_initialized_Ro kw_code_Ro_beginsAt) rfl rfl rfl (by decide +kernel) ⟨(Nat.le_of_ble_eq_true rfl), (Nat.le_of_ble_eq_true rfl)⟩) (k_preV (q0 := 0) hK hG hP hD [0, 1] rfl rfl rfl rfl) rfl rfl hl.1 rfl (lv_room (Nat.le_of_ble_eq_true rfl)) d_Ro_placesCovered_14 ⟨Nat.zero_le _, Nat.zero_le _⟩) hP hD hS hA [0, 1] rfl (Eq.trans (b := [h, e]) rfl rfl) ?_
        clear hP hD hS; intro H locs hP hD hS
        replace hP : va_P D k_cl ([(h, .inr (2, [.ref e])), (e, .inl (cI, 30, .inl (kA F)))]) H := hP
        replace hD : va_D A ([(h, .inr (2, [.ref e])), (e, .inl (cI, 30, .inl (kA F)))]) := hD
        refine k_bif_eq (tgt := 44) hx hb d_Ro_placesCovered_17 (by decide) (fun c_17 => ?_) (fun c_17 => ?_)
        · refine k_iinc (v := ↑(i + 1)) (lv' := [(3, .int (zI (↑(i + 1)))), (0, .ref h), (1, .int (zI cov)), (2, .int (zI last))]) hx hb d_Ro_placesCovered_44 hl (k := 3) rfl (by omega) (by decide) rfl ?_
          clear hl; intro ls hl
          refine lv_goto (tgt := 6) hx hb d_Ro_placesCovered_47 (by decide) ?_
          exact ih_6 (i + 1) cov last (by omega) (by omega) (by rw [rCov] at hgo; (repeat' split at hgo); all_goals first | exact hgo | (exfalso; omega) | contradiction) _ _ _ hP hD hS (lv_sub hl [1, 2, 3, 0] rfl)
        · refine lv_iload_n hx hb d_Ro_placesCovered_20 rfl (lv_at hl 1 rfl) ?_
          refine lv_aload_n hx hb d_Ro_placesCovered_21 rfl (lv_at hl 0 rfl) ?_
          refine va_get (D := D) (ci := 2) (v := .ref e) (C := R_Ro) (T := T_Ro) (N := 1) hx hb hkw kin_Ro hown hK hP 0 rfl rfl 0 (by decide) (hkw _ kw_fieldLink_Ro_9) (fun _ h9 => h9) rfl d_Ro_placesCovered_22 ?_
          refine lv_iload_n hx hb d_Ro_placesCovered_25 rfl (lv_at hl 3 rfl) ?_
          refine k_ald hx hb hK hP 1 0 rfl rfl (i := i) (by omega) (by omega) (by omega) d_Ro_placesCovered_26 ?_
          have hv_1 := hF i
          refine lv_iload_n hx hb d_Ro_placesCovered_27 rfl (lv_at hl 2 rfl) ?_
          refine lv_iload_n hx hb d_Ro_placesCovered_28 rfl (lv_at hl 3 rfl) ?_
          refine lv_iconst (v := zI 1) hx hb d_Ro_placesCovered_29 (by decide) ?_
          refine k_isub hx hb d_Ro_placesCovered_30 rfl ?_
          refine k_max (v := max last (↑i - 1)) hx hb (hml.trans hl.1.symm) hown (hkw _ kw_methodLink_Ro_32) (hkw _ kw_static_Math_max) (hkw _ kw_initialized_Math) (hkw _ kw_code_Math_max) (Nat.le_of_ble_eq_true rfl) (Nat.le_of_ble_eq_true rfl) (Nat.zero_le _) (Nat.zero_le _) d_Ro_placesCovered_31 ⟨by omega, by omega⟩ ⟨by omega, by omega⟩ (by omega) ?_
          refine k_isub hx hb d_Ro_placesCovered_34 rfl ?_
          refine k_iadd hx hb d_Ro_placesCovered_35 rfl ?_
          refine lv_istore_n (lv' := [(1, .int (zI (cov + ((↑(F i)) - (max last (↑i - 1)))))), (0, .ref h), (2, .int (zI last)), (3, .int (zI ↑i))]) hx hb d_Ro_placesCovered_36 rfl hl (by decide) rfl ?_
          clear hl; intro ls hl
          refine lv_aload_n hx hb d_Ro_placesCovered_37 rfl (lv_at hl 1 rfl) ?_
          refine va_get (D := D) (ci := 2) (v := .ref e) (C := R_Ro) (T := T_Ro) (N := 1) hx hb hkw kin_Ro hown hK hP 0 rfl rfl 0 (by decide) (hkw _ kw_fieldLink_Ro_9) (fun _ h9 => h9) rfl d_Ro_placesCovered_38 ?_
          refine lv_iload_n hx hb d_Ro_placesCovered_41 rfl (lv_at hl 3 rfl) ?_
          refine k_ald hx hb hK hP 1 0 rfl rfl (i := i) (by omega) (by omega) (by omega) d_Ro_placesCovered_42 ?_
          have hv_2 := hF i
          refine lv_istore_n (lv' := [(2, .int (zI (↑(F i)))), (1, .int (zI (cov + ((↑(F i)) - (max last (↑i - 1)))))), (0, .ref h), (3, .int (zI ↑i))]) hx hb d_Ro_placesCovered_43 rfl hl (by decide) rfl ?_
          clear hl; intro ls hl
          refine k_iinc (v := ↑(i + 1)) (lv' := [(3, .int (zI (↑(i + 1)))), (2, .int (zI (↑(F i)))), (1, .int (zI (cov + ((↑(F i)) - (max last (↑i - 1)))))), (0, .ref h)]) hx hb d_Ro_placesCovered_44 hl (k := 3) rfl (by omega) (by decide) rfl ?_
          clear hl; intro ls hl
          refine lv_goto (tgt := 6) hx hb d_Ro_placesCovered_47 (by decide) ?_
          exact ih_6 (i + 1) (cov + ((↑(F i)) - (max last (↑i - 1)))) (↑(F i)) (by omega) (by omega) (by rw [rCov] at hgo; (repeat' split at hgo); all_goals first | exact hgo | (exfalso; omega) | contradiction) _ _ _ hP hD hS (lv_sub hl [3, 2, 1, 0] rfl)
  exact loop_6 30 0 0 (-1) (by omega) (by omega) rfl _ _ _ hP hD hS (lv_sub hl [3, 2, 1, 0] rfl)

abbrev rm_Row_addPlacesWith : Room := { frames := 2, cells := 0, slots := 0, locals := 42 }
set_option maxHeartbeats 4000000 in
set_option maxRecDepth 100000 in
theorem c_Row_addPlacesWith (l : Launch) (D : va_G) (cI cR cG : ClassId) (h e tx set : Nat) (G0 t : Nat → Nat) (hset : set < 1024) (hG0 : ∀ j, G0 j ≤ 30) (ht : ∀ j, t j ≤ 1023) : k_M l y_Ro_addPlacesWith (.code y_Ro_addPlacesWith b_Ro_addPlacesWith 4 none :: kW) rm_Row_addPlacesWith D k_cl (k_ty cI cR cG) [.ref h, .int (zI ↑set), .ref tx] ([(h, .inr (2, [.ref e])), (e, .inl (cI, 30, .inl (kA G0))), (tx, .inl (cI, 30, .inl (kA t)))]) (k_Qv D k_cl [(h, .inr (2, [.ref e])), (e, .inl (cI, 30, .inl (kA (rWith t set 30 0 G0)))), (tx, .inl (cI, 30, .inl (kA t)))]) := by
  refine k_start (cc := b_Ro_addPlacesWith) (maxL := 4) (ret := none) (by decide) rfl (Nat.le_of_ble_eq_true rfl) ?_
  intro p ev s m ar below meth c A ls Qf hQf hx hb hr hml hts hown hlocks hin hK hG hA hP hD hS hl
  replace hown : s.vm.findClass R_Ro = some m.cls := hown
  replace hl : lv_has ls 4 [(0, .ref h), (1, .int (zI ↑set)), (2, .ref tx)] := hl
  have hkw : ∀ w ∈ kW, w.before ar s = true := fun w h => hts w (List.mem_cons_of_mem _ h)
  replace hP : va_P D k_cl ([(h, .inr (2, [.ref e])), (e, .inl (cI, 30, .inl (kA G0))), (tx, .inl (cI, 30, .inl (kA t)))]) s.heap := hP
  replace hD : va_D A ([(h, .inr (2, [.ref e])), (e, .inl (cI, 30, .inl (kA G0))), (tx, .inl (cI, 30, .inl (kA t)))]) := hD
  refine lv_iconst (v := zI 0) hx hb d_Ro_addPlacesWith_0 (by decide) ?_
  refine lv_istore_n (lv' := [(3, .int (zI 0)), (0, .ref h), (1, .int (zI ↑set)), (2, .ref tx)]) hx hb d_Ro_addPlacesWith_1 rfl hl (by decide) rfl ?_
  clear hl; intro ls hl
  have loop_2 : ∀ (n : Nat) (i : Nat) (F : Nat → Nat), (i + n = 30) → (∀ j, F j ≤ 30) → (rWith t set n i F = rWith t set 30 0 G0) → ∀ (H : Heap) (locs : List Loc) (ls : Array Slot), va_P D k_cl ([(h, .inr (2, [.ref e])), (e, .inl (cI, 30, .inl (kA F))), (tx, .inl (cI, 30, .inl (kA t)))]) H → va_D A ([(h, .inr (2, [.ref e])), (e, .inl (cI, 30, .inl (kA F))), (tx, .inl (cI, 30, .inl (kA t)))]) → va_S A s.heap H locs → lv_has ls 4 [(0, .ref h), (1, .int (zI ↑set)), (2, .ref tx), (3, .int (zI ↑i))] → W p l ev rm_Row_addPlacesWith s m ar below meth c H locs 0 0 Qf (F0 m 2 ls []) := by
    intro n
    induction n with
    | zero =>
      intro i F hin hF hgo H locs ls hP hD hS hl
      refine lv_iload_n hx hb d_Ro_addPlacesWith_2 rfl (lv_at hl 3 rfl) ?_
      refine lv_bipush (v := zI 30) hx hb d_Ro_addPlacesWith_3 (by decide) ?_
      refine k_icmp_ge (tgt := 28) hx hb d_Ro_addPlacesWith_5 (by decide) ⟨by omega, by omega⟩ ⟨by omega, by omega⟩ (fun c_5 => ?_) (fun c_5 => ?_)
      · rw [← hQf]
        have hP : va_P D k_cl [(h, .inr (2, [.ref e])), (e, .inl (cI, 30, .inl (kA (rWith t set 30 0 G0)))), (tx, .inl (cI, 30, .inl (kA t)))] H := by
          rw [show rWith t set 30 0 G0 = F from hgo.symm]
          exact hP
        exact k_vret hx hb hr hlocks hP hS d_Ro_addPlacesWith_28
      · exfalso; omega
    | succ n ih_2 =>
      intro i F hin hF hgo H locs ls hP hD hS hl
      refine lv_iload_n hx hb d_Ro_addPlacesWith_2 rfl (lv_at hl 3 rfl) ?_
      refine lv_bipush (v := zI 30) hx hb d_Ro_addPlacesWith_3 (by decide) ?_
      refine k_icmp_ge (tgt := 28) hx hb d_Ro_addPlacesWith_5 (by decide) ⟨by omega, by omega⟩ ⟨by omega, by omega⟩ (fun c_5 => ?_) (fun c_5 => ?_)
      · exfalso; omega
      · refine lv_aload_n hx hb d_Ro_addPlacesWith_8 rfl (lv_at hl 2 rfl) ?_
        refine lv_iload_n hx hb d_Ro_addPlacesWith_9 rfl (lv_at hl 3 rfl) ?_
        refine k_ald hx hb hK hP 2 0 rfl rfl (i := i) (by omega) (by omega) (by omega) d_Ro_addPlacesWith_10 ?_
        have hv_1 := ht i
        refine lv_iload_n hx hb d_Ro_addPlacesWith_11 rfl (lv_at hl 1 rfl) ?_
        refine k_iand (a := (t i)) (b := set) hx hb d_Ro_addPlacesWith_12 ?_
        have hv_2 := k_and_le (t i) set 1023 (by omega)
        refine k_if_eq (tgt := 22) hx hb d_Ro_addPlacesWith_13 (by decide) ⟨by omega, by omega⟩ (fun c_13 => ?_) (fun c_13 => ?_)
        · refine k_iinc (v := ↑(i + 1)) (lv' := [(3, .int (zI (↑(i + 1)))), (0, .ref h), (1, .int (zI ↑set)), (2, .ref tx)]) hx hb d_Ro_addPlacesWith_22 hl (k := 3) rfl (by omega) (by decide) rfl ?_
          clear hl; intro ls hl
          refine lv_goto (tgt := 2) hx hb d_Ro_addPlacesWith_25 (by decide) ?_
          exact ih_2 (i + 1) F (by omega) hF (by rw [rWith] at hgo; (repeat' split at hgo); all_goals first | exact hgo | (exfalso; omega) | contradiction) _ _ _ hP hD hS (lv_sub hl [1, 2, 3, 0] rfl)
        · refine lv_aload_n hx hb d_Ro_addPlacesWith_16 rfl (lv_at hl 0 rfl) ?_
          refine lv_iload_n hx hb d_Ro_addPlacesWith_17 rfl (lv_at hl 3 rfl) ?_
          refine lv_iload_n hx hb d_Ro_addPlacesWith_18 rfl (lv_at hl 3 rfl) ?_
          refine k_beV (va_runV (As := [.int (zI ↑i), .int (zI ↑i)]) (rest := []) ⟨hx, hb, hml, hown, hkw⟩ (c_Row_add l D cI cR cG h e i i F (by omega) (by omega) hF _) (cwV 2 hkw (k_gV kw_methodLink_Ro_38 kw_instanceMethod_Ro_add kw_selects_Ro_add kw_initialized_Ro kw_code_Ro_add) rfl rfl rfl (by decide +kernel) ⟨(Nat.le_of_ble_eq_true rfl), (Nat.le_of_ble_eq_true rfl)⟩) (k_preV (q0 := 0) hK hG hP hD [0, 1] rfl rfl rfl rfl) rfl rfl hl.1 rfl (lv_room (Nat.le_of_ble_eq_true rfl)) d_Ro_addPlacesWith_19 ⟨Nat.zero_le _, Nat.zero_le _⟩) hP hD hS hA [0, 1] rfl (Eq.trans (b := [h, e]) rfl rfl) ?_
          clear hP hD hS; intro H locs hP hD hS
          replace hP : va_P D k_cl ([(h, .inr (2, [.ref e])), (e, .inl (cI, 30, .inl (kA (rAdd F i i)))), (tx, .inl (cI, 30, .inl (kA t)))]) H := hP
          replace hD : va_D A ([(h, .inr (2, [.ref e])), (e, .inl (cI, 30, .inl (kA (rAdd F i i)))), (tx, .inl (cI, 30, .inl (kA t)))]) := hD
          refine k_iinc (v := ↑(i + 1)) (lv' := [(3, .int (zI (↑(i + 1)))), (0, .ref h), (1, .int (zI ↑set)), (2, .ref tx)]) hx hb d_Ro_addPlacesWith_22 hl (k := 3) rfl (by omega) (by decide) rfl ?_
          clear hl; intro ls hl
          refine lv_goto (tgt := 2) hx hb d_Ro_addPlacesWith_25 (by decide) ?_
          exact ih_2 (i + 1) (rAdd F i i) (by omega) (rAdd_le hF (by omega)) (by rw [rWith] at hgo; (repeat' split at hgo); all_goals first | exact hgo | (exfalso; omega) | contradiction) _ _ _ hP hD hS (lv_sub hl [1, 2, 3, 0] rfl)
  exact loop_2 30 0 G0 (by omega) hG0 rfl _ _ _ hP hD hS (lv_sub hl [1, 2, 3, 0] rfl)

abbrev rm_Row_addGrown : Room := { frames := 2, cells := 0, slots := 0, locals := 42 }
set_option maxHeartbeats 4000000 in
set_option maxRecDepth 100000 in
theorem c_Row_addGrown (l : Launch) (D : va_G) (cI cR cG : ClassId) (h e ha ea k : Nat) (G0 a : Nat → Nat) (hk : k ≤ 30) (hG0 : ∀ j, G0 j ≤ 30) (ha30 : ∀ j, a j ≤ 30) : k_M l y_Ro_addGrown (.code y_Ro_addGrown b_Ro_addGrown 4 none :: kW) rm_Row_addGrown D k_cl (k_ty cI cR cG) [.ref h, .ref ha, .int (zI ↑k)] ([(h, .inr (2, [.ref e])), (e, .inl (cI, 30, .inl (kA G0))), (ha, .inr (2, [.ref ea])), (ea, .inl (cI, 30, .inl (kA a)))]) (k_Qv D k_cl [(h, .inr (2, [.ref e])), (e, .inl (cI, 30, .inl (kA (rGrown a k 30 0 G0)))), (ha, .inr (2, [.ref ea])), (ea, .inl (cI, 30, .inl (kA a)))]) := by
  refine k_start (cc := b_Ro_addGrown) (maxL := 4) (ret := none) (by decide) rfl (Nat.le_of_ble_eq_true rfl) ?_
  intro p ev s m ar below meth c A ls Qf hQf hx hb hr hml hts hown hlocks hin hK hG hA hP hD hS hl
  replace hown : s.vm.findClass R_Ro = some m.cls := hown
  replace hl : lv_has ls 4 [(0, .ref h), (1, .ref ha), (2, .int (zI ↑k))] := hl
  have hkw : ∀ w ∈ kW, w.before ar s = true := fun w h => hts w (List.mem_cons_of_mem _ h)
  replace hP : va_P D k_cl ([(h, .inr (2, [.ref e])), (e, .inl (cI, 30, .inl (kA G0))), (ha, .inr (2, [.ref ea])), (ea, .inl (cI, 30, .inl (kA a)))]) s.heap := hP
  replace hD : va_D A ([(h, .inr (2, [.ref e])), (e, .inl (cI, 30, .inl (kA G0))), (ha, .inr (2, [.ref ea])), (ea, .inl (cI, 30, .inl (kA a)))]) := hD
  refine lv_iconst (v := zI 0) hx hb d_Ro_addGrown_0 (by decide) ?_
  refine lv_istore_n (lv' := [(3, .int (zI 0)), (0, .ref h), (1, .ref ha), (2, .int (zI ↑k))]) hx hb d_Ro_addGrown_1 rfl hl (by decide) rfl ?_
  clear hl; intro ls hl
  have loop_2 : ∀ (n : Nat) (i : Nat) (F : Nat → Nat), (i + n = 30) → (∀ j, F j ≤ 30) → (rGrown a k n i F = rGrown a k 30 0 G0) → ∀ (H : Heap) (locs : List Loc) (ls : Array Slot), va_P D k_cl ([(h, .inr (2, [.ref e])), (e, .inl (cI, 30, .inl (kA F))), (ha, .inr (2, [.ref ea])), (ea, .inl (cI, 30, .inl (kA a)))]) H → va_D A ([(h, .inr (2, [.ref e])), (e, .inl (cI, 30, .inl (kA F))), (ha, .inr (2, [.ref ea])), (ea, .inl (cI, 30, .inl (kA a)))]) → va_S A s.heap H locs → lv_has ls 4 [(0, .ref h), (1, .ref ha), (2, .int (zI ↑k)), (3, .int (zI ↑i))] → W p l ev rm_Row_addGrown s m ar below meth c H locs 0 0 Qf (F0 m 2 ls []) := by
    intro n
    induction n with
    | zero =>
      intro i F hin hF hgo H locs ls hP hD hS hl
      refine lv_iload_n hx hb d_Ro_addGrown_2 rfl (lv_at hl 3 rfl) ?_
      refine lv_bipush (v := zI 30) hx hb d_Ro_addGrown_3 (by decide) ?_
      refine k_icmp_ge (tgt := 39) hx hb d_Ro_addGrown_5 (by decide) ⟨by omega, by omega⟩ ⟨by omega, by omega⟩ (fun c_5 => ?_) (fun c_5 => ?_)
      · rw [← hQf]
        have hP : va_P D k_cl [(h, .inr (2, [.ref e])), (e, .inl (cI, 30, .inl (kA (rGrown a k 30 0 G0)))), (ha, .inr (2, [.ref ea])), (ea, .inl (cI, 30, .inl (kA a)))] H := by
          rw [show rGrown a k 30 0 G0 = F from hgo.symm]
          exact hP
        exact k_vret hx hb hr hlocks hP hS d_Ro_addGrown_39
      · exfalso; omega
    | succ n ih_2 =>
      intro i F hin hF hgo H locs ls hP hD hS hl
      refine lv_iload_n hx hb d_Ro_addGrown_2 rfl (lv_at hl 3 rfl) ?_
      refine lv_bipush (v := zI 30) hx hb d_Ro_addGrown_3 (by decide) ?_
      refine k_icmp_ge (tgt := 39) hx hb d_Ro_addGrown_5 (by decide) ⟨by omega, by omega⟩ ⟨by omega, by omega⟩ (fun c_5 => ?_) (fun c_5 => ?_)
      · exfalso; omega
      · refine lv_aload_n hx hb d_Ro_addGrown_8 rfl (lv_at hl 1 rfl) ?_
        refine lv_iload_n hx hb d_Ro_addGrown_9 rfl (lv_at hl 3 rfl) ?_
        refine k_beI (va_runV (As := [.int (zI ↑i)]) (rest := []) ⟨hx, hb, hml, hown, hkw⟩ (c_Row_beginsAt l D cI cR cG ha ea i a (by omega) ha30 _) (cwV 1 hkw (k_gV kw_methodLink_Ro_25 kw_instanceMethod_Ro_beginsAt kw_selects_Ro_beginsAt kw_initialized_Ro kw_code_Ro_beginsAt) rfl rfl rfl (by decide +kernel) ⟨(Nat.le_of_ble_eq_true rfl), (Nat.le_of_ble_eq_true rfl)⟩) (k_preV (q0 := 0) hK hG hP hD [2, 3] rfl rfl rfl rfl) rfl rfl hl.1 rfl (lv_room (Nat.le_of_ble_eq_true rfl)) d_Ro_addGrown_10 ⟨Nat.zero_le _, Nat.zero_le _⟩) hP hD hS hA [2, 3] rfl (Eq.trans (b := [ha, ea]) rfl rfl) ?_
        clear hP hD hS; intro H locs hP hD hS
        replace hP : va_P D k_cl ([(h, .inr (2, [.ref e])), (e, .inl (cI, 30, .inl (kA F))), (ha, .inr (2, [.ref ea])), (ea, .inl (cI, 30, .inl (kA a)))]) H := hP
        replace hD : va_D A ([(h, .inr (2, [.ref e])), (e, .inl (cI, 30, .inl (kA F))), (ha, .inr (2, [.ref ea])), (ea, .inl (cI, 30, .inl (kA a)))]) := hD
        refine k_bif_eq (tgt := 33) hx hb d_Ro_addGrown_13 (by decide) (fun c_13 => ?_) (fun c_13 => ?_)
        · refine k_iinc (v := ↑(i + 1)) (lv' := [(3, .int (zI (↑(i + 1)))), (0, .ref h), (1, .ref ha), (2, .int (zI ↑k))]) hx hb d_Ro_addGrown_33 hl (k := 3) rfl (by omega) (by decide) rfl ?_
          clear hl; intro ls hl
          refine lv_goto (tgt := 2) hx hb d_Ro_addGrown_36 (by decide) ?_
          exact ih_2 (i + 1) F (by omega) hF (by rw [rGrown] at hgo; (repeat' split at hgo); all_goals first | exact hgo | (exfalso; omega) | contradiction) _ _ _ hP hD hS (lv_sub hl [1, 2, 3, 0] rfl)
        · refine lv_aload_n hx hb d_Ro_addGrown_16 rfl (lv_at hl 0 rfl) ?_
          refine lv_iconst (v := zI 0) hx hb d_Ro_addGrown_17 (by decide) ?_
          refine lv_iload_n hx hb d_Ro_addGrown_18 rfl (lv_at hl 3 rfl) ?_
          refine lv_iload_n hx hb d_Ro_addGrown_19 rfl (lv_at hl 2 rfl) ?_
          refine k_isub hx hb d_Ro_addGrown_20 rfl ?_
          refine k_max (v := ↑(i - k)) hx hb (hml.trans hl.1.symm) hown (hkw _ kw_methodLink_Ro_32) (hkw _ kw_static_Math_max) (hkw _ kw_initialized_Math) (hkw _ kw_code_Math_max) (Nat.le_of_ble_eq_true rfl) (Nat.le_of_ble_eq_true rfl) (Nat.zero_le _) (Nat.zero_le _) d_Ro_addGrown_21 ⟨by omega, by omega⟩ ⟨by omega, by omega⟩ (by omega) ?_
          refine lv_aload_n hx hb d_Ro_addGrown_24 rfl (lv_at hl 1 rfl) ?_
          refine va_get (D := D) (ci := 2) (v := .ref ea) (C := R_Ro) (T := T_Ro) (N := 1) hx hb hkw kin_Ro hown hK hP 2 rfl rfl 0 (by decide) (hkw _ kw_fieldLink_Ro_9) (fun _ h9 => h9) rfl d_Ro_addGrown_25 ?_
          refine lv_iload_n hx hb d_Ro_addGrown_28 rfl (lv_at hl 3 rfl) ?_
          refine k_ald hx hb hK hP 3 0 rfl rfl (i := i) (by omega) (by omega) (by omega) d_Ro_addGrown_29 ?_
          have hv_1 := ha30 i
          refine k_beV (va_runV (As := [.int (zI (↑(i - k))), .int (zI (↑(a i)))]) (rest := []) ⟨hx, hb, hml, hown, hkw⟩ (c_Row_add l D cI cR cG h e (i - k) (a i) F (by omega) (by omega) hF _) (cwV 2 hkw (k_gV kw_methodLink_Ro_38 kw_instanceMethod_Ro_add kw_selects_Ro_add kw_initialized_Ro kw_code_Ro_add) rfl rfl rfl (by decide +kernel) ⟨(Nat.le_of_ble_eq_true rfl), (Nat.le_of_ble_eq_true rfl)⟩) (k_preV (q0 := 0) hK hG hP hD [0, 1] rfl rfl rfl rfl) rfl rfl hl.1 rfl (lv_room (Nat.le_of_ble_eq_true rfl)) d_Ro_addGrown_30 ⟨Nat.zero_le _, Nat.zero_le _⟩) hP hD hS hA [0, 1] rfl (Eq.trans (b := [h, e]) rfl rfl) ?_
          clear hP hD hS; intro H locs hP hD hS
          replace hP : va_P D k_cl ([(h, .inr (2, [.ref e])), (e, .inl (cI, 30, .inl (kA (rAdd F (i - k) (a i))))), (ha, .inr (2, [.ref ea])), (ea, .inl (cI, 30, .inl (kA a)))]) H := hP
          replace hD : va_D A ([(h, .inr (2, [.ref e])), (e, .inl (cI, 30, .inl (kA (rAdd F (i - k) (a i))))), (ha, .inr (2, [.ref ea])), (ea, .inl (cI, 30, .inl (kA a)))]) := hD
          refine k_iinc (v := ↑(i + 1)) (lv' := [(3, .int (zI (↑(i + 1)))), (0, .ref h), (1, .ref ha), (2, .int (zI ↑k))]) hx hb d_Ro_addGrown_33 hl (k := 3) rfl (by omega) (by decide) rfl ?_
          clear hl; intro ls hl
          refine lv_goto (tgt := 2) hx hb d_Ro_addGrown_36 (by decide) ?_
          exact ih_2 (i + 1) (rAdd F (i - k) (a i)) (by omega) (rAdd_le hF (by omega)) (by rw [rGrown] at hgo; (repeat' split at hgo); all_goals first | exact hgo | (exfalso; omega) | contradiction) _ _ _ hP hD hS (lv_sub hl [1, 2, 3, 0] rfl)
  exact loop_2 30 0 G0 (by omega) hG0 rfl _ _ _ hP hD hS (lv_sub hl [1, 2, 3, 0] rfl)

abbrev rm_Row_addAll : Room := { frames := 3, cells := 0, slots := 0, locals := 65 }
set_option maxHeartbeats 4000000 in
set_option maxRecDepth 100000 in
theorem c_Row_addAll (l : Launch) (D : va_G) (cI cR cG : ClassId) (h e ha ea : Nat) (G0 a : Nat → Nat) (hG0 : ∀ j, G0 j ≤ 30) (ha30 : ∀ j, a j ≤ 30) : k_M l y_Ro_addAll (.code y_Ro_addAll b_Ro_addAll 2 none :: kW) rm_Row_addAll D k_cl (k_ty cI cR cG) [.ref h, .ref ha] ([(h, .inr (2, [.ref e])), (e, .inl (cI, 30, .inl (kA G0))), (ha, .inr (2, [.ref ea])), (ea, .inl (cI, 30, .inl (kA a)))]) (k_Qv D k_cl [(h, .inr (2, [.ref e])), (e, .inl (cI, 30, .inl (kA (rGrown a 0 30 0 G0)))), (ha, .inr (2, [.ref ea])), (ea, .inl (cI, 30, .inl (kA a)))]) := by
  refine k_start (cc := b_Ro_addAll) (maxL := 2) (ret := none) (by decide) rfl (Nat.le_of_ble_eq_true rfl) ?_
  intro p ev s m ar below meth c A ls Qf hQf hx hb hr hml hts hown hlocks hin hK hG hA hP hD hS hl
  replace hown : s.vm.findClass R_Ro = some m.cls := hown
  replace hl : lv_has ls 2 [(0, .ref h), (1, .ref ha)] := hl
  have hkw : ∀ w ∈ kW, w.before ar s = true := fun w h => hts w (List.mem_cons_of_mem _ h)
  replace hP : va_P D k_cl ([(h, .inr (2, [.ref e])), (e, .inl (cI, 30, .inl (kA G0))), (ha, .inr (2, [.ref ea])), (ea, .inl (cI, 30, .inl (kA a)))]) s.heap := hP
  replace hD : va_D A ([(h, .inr (2, [.ref e])), (e, .inl (cI, 30, .inl (kA G0))), (ha, .inr (2, [.ref ea])), (ea, .inl (cI, 30, .inl (kA a)))]) := hD
  refine lv_aload_n hx hb d_Ro_addAll_0 rfl (lv_at hl 0 rfl) ?_
  refine lv_aload_n hx hb d_Ro_addAll_1 rfl (lv_at hl 1 rfl) ?_
  refine lv_iconst (v := zI 0) hx hb d_Ro_addAll_2 (by decide) ?_
  refine k_stk (st2 := [.int (zI ↑0), .ref ha, .ref h]) (by rw [show (0 : Int) = ↑0 from by omega]) ?_
  refine k_beV (va_runV (As := [.ref ha, .int (zI ↑0)]) (rest := []) ⟨hx, hb, hml, hown, hkw⟩ (c_Row_addGrown l D cI cR cG h e ha ea 0 G0 a (by omega) hG0 ha30 _) (cwV 2 hkw (k_gV kw_methodLink_Ro_42 kw_instanceMethod_Ro_addGrown kw_selects_Ro_addGrown kw_initialized_Ro kw_code_Ro_addGrown) rfl rfl rfl (by decide +kernel) ⟨(Nat.le_of_ble_eq_true rfl), (Nat.le_of_ble_eq_true rfl)⟩) (k_preV (q0 := 0) hK hG hP hD [0, 1, 2, 3] rfl rfl rfl rfl) rfl rfl hl.1 rfl (lv_room (Nat.le_of_ble_eq_true rfl)) d_Ro_addAll_3 ⟨Nat.zero_le _, Nat.zero_le _⟩) hP hD hS hA [0, 1, 2, 3] rfl (Eq.trans (b := [h, e, ha, ea]) rfl rfl) ?_
  clear hP hD hS; intro H locs hP hD hS
  replace hP : va_P D k_cl ([(h, .inr (2, [.ref e])), (e, .inl (cI, 30, .inl (kA (rGrown a 0 30 0 G0)))), (ha, .inr (2, [.ref ea])), (ea, .inl (cI, 30, .inl (kA a)))]) H := hP
  replace hD : va_D A ([(h, .inr (2, [.ref e])), (e, .inl (cI, 30, .inl (kA (rGrown a 0 30 0 G0)))), (ha, .inr (2, [.ref ea])), (ea, .inl (cI, 30, .inl (kA a)))]) := hD
  rw [← hQf]
  exact k_vret hx hb hr hlocks hP hS d_Ro_addAll_6

abbrev rm_Row_addEndingBefore : Room := { frames := 2, cells := 0, slots := 0, locals := 42 }
set_option maxHeartbeats 4000000 in
set_option maxRecDepth 100000 in
theorem c_Row_addEndingBefore (l : Launch) (D : va_G) (cI cR cG : ClassId) (h e ha ea k : Nat) (G0 a : Nat → Nat) (hk : k ≤ 30) (hG0 : ∀ j, G0 j ≤ 30) (ha30 : ∀ j, a j ≤ 30) : k_M l y_Ro_addEndingBefore (.code y_Ro_addEndingBefore b_Ro_addEndingBefore 4 none :: kW) rm_Row_addEndingBefore D k_cl (k_ty cI cR cG) [.ref h, .ref ha, .int (zI ↑k)] ([(h, .inr (2, [.ref e])), (e, .inl (cI, 30, .inl (kA G0))), (ha, .inr (2, [.ref ea])), (ea, .inl (cI, 30, .inl (kA a)))]) (k_Qv D k_cl [(h, .inr (2, [.ref e])), (e, .inl (cI, 30, .inl (kA (rBefore a k 30 0 G0)))), (ha, .inr (2, [.ref ea])), (ea, .inl (cI, 30, .inl (kA a)))]) := by
  refine k_start (cc := b_Ro_addEndingBefore) (maxL := 4) (ret := none) (by decide) rfl (Nat.le_of_ble_eq_true rfl) ?_
  intro p ev s m ar below meth c A ls Qf hQf hx hb hr hml hts hown hlocks hin hK hG hA hP hD hS hl
  replace hown : s.vm.findClass R_Ro = some m.cls := hown
  replace hl : lv_has ls 4 [(0, .ref h), (1, .ref ha), (2, .int (zI ↑k))] := hl
  have hkw : ∀ w ∈ kW, w.before ar s = true := fun w h => hts w (List.mem_cons_of_mem _ h)
  replace hP : va_P D k_cl ([(h, .inr (2, [.ref e])), (e, .inl (cI, 30, .inl (kA G0))), (ha, .inr (2, [.ref ea])), (ea, .inl (cI, 30, .inl (kA a)))]) s.heap := hP
  replace hD : va_D A ([(h, .inr (2, [.ref e])), (e, .inl (cI, 30, .inl (kA G0))), (ha, .inr (2, [.ref ea])), (ea, .inl (cI, 30, .inl (kA a)))]) := hD
  refine lv_iconst (v := zI 0) hx hb d_Ro_addEndingBefore_0 (by decide) ?_
  refine lv_istore_n (lv' := [(3, .int (zI 0)), (0, .ref h), (1, .ref ha), (2, .int (zI ↑k))]) hx hb d_Ro_addEndingBefore_1 rfl hl (by decide) rfl ?_
  clear hl; intro ls hl
  have loop_2 : ∀ (n : Nat) (i : Nat) (F : Nat → Nat), (i + n = 30) → (∀ j, F j ≤ 30) → (rBefore a k n i F = rBefore a k 30 0 G0) → ∀ (H : Heap) (locs : List Loc) (ls : Array Slot), va_P D k_cl ([(h, .inr (2, [.ref e])), (e, .inl (cI, 30, .inl (kA F))), (ha, .inr (2, [.ref ea])), (ea, .inl (cI, 30, .inl (kA a)))]) H → va_D A ([(h, .inr (2, [.ref e])), (e, .inl (cI, 30, .inl (kA F))), (ha, .inr (2, [.ref ea])), (ea, .inl (cI, 30, .inl (kA a)))]) → va_S A s.heap H locs → lv_has ls 4 [(0, .ref h), (1, .ref ha), (2, .int (zI ↑k)), (3, .int (zI ↑i))] → W p l ev rm_Row_addEndingBefore s m ar below meth c H locs 0 0 Qf (F0 m 2 ls []) := by
    intro n
    induction n with
    | zero =>
      intro i F hin hF hgo H locs ls hP hD hS hl
      refine lv_iload_n hx hb d_Ro_addEndingBefore_2 rfl (lv_at hl 3 rfl) ?_
      refine lv_bipush (v := zI 30) hx hb d_Ro_addEndingBefore_3 (by decide) ?_
      refine k_icmp_ge (tgt := 43) hx hb d_Ro_addEndingBefore_5 (by decide) ⟨by omega, by omega⟩ ⟨by omega, by omega⟩ (fun c_5 => ?_) (fun c_5 => ?_)
      · rw [← hQf]
        have hP : va_P D k_cl [(h, .inr (2, [.ref e])), (e, .inl (cI, 30, .inl (kA (rBefore a k 30 0 G0)))), (ha, .inr (2, [.ref ea])), (ea, .inl (cI, 30, .inl (kA a)))] H := by
          rw [show rBefore a k 30 0 G0 = F from hgo.symm]
          exact hP
        exact k_vret hx hb hr hlocks hP hS d_Ro_addEndingBefore_43
      · exfalso; omega
    | succ n ih_2 =>
      intro i F hin hF hgo H locs ls hP hD hS hl
      refine lv_iload_n hx hb d_Ro_addEndingBefore_2 rfl (lv_at hl 3 rfl) ?_
      refine lv_bipush (v := zI 30) hx hb d_Ro_addEndingBefore_3 (by decide) ?_
      refine k_icmp_ge (tgt := 43) hx hb d_Ro_addEndingBefore_5 (by decide) ⟨by omega, by omega⟩ ⟨by omega, by omega⟩ (fun c_5 => ?_) (fun c_5 => ?_)
      · exfalso; omega
      · refine lv_aload_n hx hb d_Ro_addEndingBefore_8 rfl (lv_at hl 1 rfl) ?_
        refine lv_iload_n hx hb d_Ro_addEndingBefore_9 rfl (lv_at hl 3 rfl) ?_
        refine k_beI (va_runV (As := [.int (zI ↑i)]) (rest := []) ⟨hx, hb, hml, hown, hkw⟩ (c_Row_beginsAt l D cI cR cG ha ea i a (by omega) ha30 _) (cwV 1 hkw (k_gV kw_methodLink_Ro_25 kw_instanceMethod_Ro_beginsAt kw_selects_Ro_beginsAt kw_initialized_Ro kw_code_Ro_beginsAt) rfl rfl rfl (by decide +kernel) ⟨(Nat.le_of_ble_eq_true rfl), (Nat.le_of_ble_eq_true rfl)⟩) (k_preV (q0 := 0) hK hG hP hD [2, 3] rfl rfl rfl rfl) rfl rfl hl.1 rfl (lv_room (Nat.le_of_ble_eq_true rfl)) d_Ro_addEndingBefore_10 ⟨Nat.zero_le _, Nat.zero_le _⟩) hP hD hS hA [2, 3] rfl (Eq.trans (b := [ha, ea]) rfl rfl) ?_
        clear hP hD hS; intro H locs hP hD hS
        replace hP : va_P D k_cl ([(h, .inr (2, [.ref e])), (e, .inl (cI, 30, .inl (kA F))), (ha, .inr (2, [.ref ea])), (ea, .inl (cI, 30, .inl (kA a)))]) H := hP
        replace hD : va_D A ([(h, .inr (2, [.ref e])), (e, .inl (cI, 30, .inl (kA F))), (ha, .inr (2, [.ref ea])), (ea, .inl (cI, 30, .inl (kA a)))]) := hD
        refine k_bif_eq (tgt := 37) hx hb d_Ro_addEndingBefore_13 (by decide) (fun c_13 => ?_) (fun c_13 => ?_)
        · refine k_iinc (v := ↑(i + 1)) (lv' := [(3, .int (zI (↑(i + 1)))), (0, .ref h), (1, .ref ha), (2, .int (zI ↑k))]) hx hb d_Ro_addEndingBefore_37 hl (k := 3) rfl (by omega) (by decide) rfl ?_
          clear hl; intro ls hl
          refine lv_goto (tgt := 2) hx hb d_Ro_addEndingBefore_40 (by decide) ?_
          exact ih_2 (i + 1) F (by omega) hF (by rw [rBefore] at hgo; (repeat' split at hgo); all_goals first | exact hgo | (exfalso; omega) | contradiction) _ _ _ hP hD hS (lv_sub hl [1, 2, 3, 0] rfl)
        · refine lv_aload_n hx hb d_Ro_addEndingBefore_16 rfl (lv_at hl 1 rfl) ?_
          refine va_get (D := D) (ci := 2) (v := .ref ea) (C := R_Ro) (T := T_Ro) (N := 1) hx hb hkw kin_Ro hown hK hP 2 rfl rfl 0 (by decide) (hkw _ kw_fieldLink_Ro_9) (fun _ h9 => h9) rfl d_Ro_addEndingBefore_17 ?_
          refine lv_iload_n hx hb d_Ro_addEndingBefore_20 rfl (lv_at hl 3 rfl) ?_
          refine k_ald hx hb hK hP 3 0 rfl rfl (i := i) (by omega) (by omega) (by omega) d_Ro_addEndingBefore_21 ?_
          have hv_1 := ha30 i
          refine lv_iload_n hx hb d_Ro_addEndingBefore_22 rfl (lv_at hl 2 rfl) ?_
          refine k_icmp_ge (tgt := 37) hx hb d_Ro_addEndingBefore_23 (by decide) ⟨by omega, by omega⟩ ⟨by omega, by omega⟩ (fun c_23 => ?_) (fun c_23 => ?_)
          · refine k_iinc (v := ↑(i + 1)) (lv' := [(3, .int (zI (↑(i + 1)))), (0, .ref h), (1, .ref ha), (2, .int (zI ↑k))]) hx hb d_Ro_addEndingBefore_37 hl (k := 3) rfl (by omega) (by decide) rfl ?_
            clear hl; intro ls hl
            refine lv_goto (tgt := 2) hx hb d_Ro_addEndingBefore_40 (by decide) ?_
            exact ih_2 (i + 1) F (by omega) hF (by rw [rBefore] at hgo; (repeat' split at hgo); all_goals first | exact hgo | (exfalso; omega) | contradiction) _ _ _ hP hD hS (lv_sub hl [1, 2, 3, 0] rfl)
          · refine lv_aload_n hx hb d_Ro_addEndingBefore_26 rfl (lv_at hl 0 rfl) ?_
            refine lv_iload_n hx hb d_Ro_addEndingBefore_27 rfl (lv_at hl 3 rfl) ?_
            refine lv_aload_n hx hb d_Ro_addEndingBefore_28 rfl (lv_at hl 1 rfl) ?_
            refine va_get (D := D) (ci := 2) (v := .ref ea) (C := R_Ro) (T := T_Ro) (N := 1) hx hb hkw kin_Ro hown hK hP 2 rfl rfl 0 (by decide) (hkw _ kw_fieldLink_Ro_9) (fun _ h9 => h9) rfl d_Ro_addEndingBefore_29 ?_
            refine lv_iload_n hx hb d_Ro_addEndingBefore_32 rfl (lv_at hl 3 rfl) ?_
            refine k_ald hx hb hK hP 3 0 rfl rfl (i := i) (by omega) (by omega) (by omega) d_Ro_addEndingBefore_33 ?_
            have hv_2 := ha30 i
            refine k_beV (va_runV (As := [.int (zI ↑i), .int (zI (↑(a i)))]) (rest := []) ⟨hx, hb, hml, hown, hkw⟩ (c_Row_add l D cI cR cG h e i (a i) F (by omega) (by omega) hF _) (cwV 2 hkw (k_gV kw_methodLink_Ro_38 kw_instanceMethod_Ro_add kw_selects_Ro_add kw_initialized_Ro kw_code_Ro_add) rfl rfl rfl (by decide +kernel) ⟨(Nat.le_of_ble_eq_true rfl), (Nat.le_of_ble_eq_true rfl)⟩) (k_preV (q0 := 0) hK hG hP hD [0, 1] rfl rfl rfl rfl) rfl rfl hl.1 rfl (lv_room (Nat.le_of_ble_eq_true rfl)) d_Ro_addEndingBefore_34 ⟨Nat.zero_le _, Nat.zero_le _⟩) hP hD hS hA [0, 1] rfl (Eq.trans (b := [h, e]) rfl rfl) ?_
            clear hP hD hS; intro H locs hP hD hS
            replace hP : va_P D k_cl ([(h, .inr (2, [.ref e])), (e, .inl (cI, 30, .inl (kA (rAdd F i (a i))))), (ha, .inr (2, [.ref ea])), (ea, .inl (cI, 30, .inl (kA a)))]) H := hP
            replace hD : va_D A ([(h, .inr (2, [.ref e])), (e, .inl (cI, 30, .inl (kA (rAdd F i (a i))))), (ha, .inr (2, [.ref ea])), (ea, .inl (cI, 30, .inl (kA a)))]) := hD
            refine k_iinc (v := ↑(i + 1)) (lv' := [(3, .int (zI (↑(i + 1)))), (0, .ref h), (1, .ref ha), (2, .int (zI ↑k))]) hx hb d_Ro_addEndingBefore_37 hl (k := 3) rfl (by omega) (by decide) rfl ?_
            clear hl; intro ls hl
            refine lv_goto (tgt := 2) hx hb d_Ro_addEndingBefore_40 (by decide) ?_
            exact ih_2 (i + 1) (rAdd F i (a i)) (by omega) (rAdd_le hF (by omega)) (by rw [rBefore] at hgo; (repeat' split at hgo); all_goals first | exact hgo | (exfalso; omega) | contradiction) _ _ _ hP hD hS (lv_sub hl [1, 2, 3, 0] rfl)
  exact loop_2 30 0 G0 (by omega) hG0 rfl _ _ _ hP hD hS (lv_sub hl [1, 2, 3, 0] rfl)

abbrev rm_Row_addBehindOne : Room := { frames := 2, cells := 0, slots := 0, locals := 42 }
set_option maxHeartbeats 4000000 in
set_option maxRecDepth 100000 in
theorem c_Row_addBehindOne (l : Launch) (D : va_G) (cI cR cG : ClassId) (h e hb2 eb f t k : Nat) (G0 b : Nat → Nat) (hf : f < 30) (ht : t < 30) (hk : k ≤ 30) (hG0 : ∀ j, G0 j ≤ 30) (hb30 : ∀ j, b j ≤ 30) : k_M l y_Ro_addBehindOne (.code y_Ro_addBehindOne b_Ro_addBehindOne 6 none :: kW) rm_Row_addBehindOne D k_cl (k_ty cI cR cG) [.ref h, .int (zI ↑f), .int (zI ↑t), .ref hb2, .int (zI ↑k)] ([(h, .inr (2, [.ref e])), (e, .inl (cI, 30, .inl (kA G0))), (hb2, .inr (2, [.ref eb])), (eb, .inl (cI, 30, .inl (kA b)))]) (k_Qv D k_cl [(h, .inr (2, [.ref e])), (e, .inl (cI, 30, .inl (kA (rBehind1 b f t k (29 - t) (t + 1) G0)))), (hb2, .inr (2, [.ref eb])), (eb, .inl (cI, 30, .inl (kA b)))]) := by
  refine k_start (cc := b_Ro_addBehindOne) (maxL := 6) (ret := none) (by decide) rfl (Nat.le_of_ble_eq_true rfl) ?_
  intro p ev s m ar below meth c A ls Qf hQf hx hb hr hml hts hown hlocks hin hK hG hA hP hD hS hl
  replace hown : s.vm.findClass R_Ro = some m.cls := hown
  replace hl : lv_has ls 6 [(0, .ref h), (1, .int (zI ↑f)), (2, .int (zI ↑t)), (3, .ref hb2), (4, .int (zI ↑k))] := hl
  have hkw : ∀ w ∈ kW, w.before ar s = true := fun w h => hts w (List.mem_cons_of_mem _ h)
  replace hP : va_P D k_cl ([(h, .inr (2, [.ref e])), (e, .inl (cI, 30, .inl (kA G0))), (hb2, .inr (2, [.ref eb])), (eb, .inl (cI, 30, .inl (kA b)))]) s.heap := hP
  replace hD : va_D A ([(h, .inr (2, [.ref e])), (e, .inl (cI, 30, .inl (kA G0))), (hb2, .inr (2, [.ref eb])), (eb, .inl (cI, 30, .inl (kA b)))]) := hD
  refine lv_iload_n hx hb d_Ro_addBehindOne_0 rfl (lv_at hl 2 rfl) ?_
  refine lv_iconst (v := zI 1) hx hb d_Ro_addBehindOne_1 (by decide) ?_
  refine k_iadd (v := ↑(t + 1)) hx hb d_Ro_addBehindOne_2 (by omega) ?_
  refine lv_istore (lv' := [(5, .int (zI (↑(t + 1)))), (0, .ref h), (1, .int (zI ↑f)), (2, .int (zI ↑t)), (3, .ref hb2), (4, .int (zI ↑k))]) hx hb d_Ro_addBehindOne_3 hl (by decide) rfl ?_
  clear hl; intro ls hl
  have loop_5 : ∀ (n : Nat) (i : Nat) (F : Nat → Nat), (i + n = 30) → (∀ j, F j ≤ 30) → (rBehind1 b f t k n i F = rBehind1 b f t k (29 - t) (t + 1) G0) → ∀ (H : Heap) (locs : List Loc) (ls : Array Slot), va_P D k_cl ([(h, .inr (2, [.ref e])), (e, .inl (cI, 30, .inl (kA F))), (hb2, .inr (2, [.ref eb])), (eb, .inl (cI, 30, .inl (kA b)))]) H → va_D A ([(h, .inr (2, [.ref e])), (e, .inl (cI, 30, .inl (kA F))), (hb2, .inr (2, [.ref eb])), (eb, .inl (cI, 30, .inl (kA b)))]) → va_S A s.heap H locs → lv_has ls 6 [(0, .ref h), (1, .int (zI ↑f)), (2, .int (zI ↑t)), (3, .ref hb2), (4, .int (zI ↑k)), (5, .int (zI ↑i))] → W p l ev rm_Row_addBehindOne s m ar below meth c H locs 0 0 Qf (F0 m 5 ls []) := by
    intro n
    induction n with
    | zero =>
      intro i F hin hF hgo H locs ls hP hD hS hl
      refine lv_iload hx hb d_Ro_addBehindOne_5 (lv_at hl 5 rfl) ?_
      refine lv_bipush (v := zI 30) hx hb d_Ro_addBehindOne_7 (by decide) ?_
      refine k_icmp_ge (tgt := 50) hx hb d_Ro_addBehindOne_9 (by decide) ⟨by omega, by omega⟩ ⟨by omega, by omega⟩ (fun c_9 => ?_) (fun c_9 => ?_)
      · rw [← hQf]
        have hP : va_P D k_cl [(h, .inr (2, [.ref e])), (e, .inl (cI, 30, .inl (kA (rBehind1 b f t k (29 - t) (t + 1) G0)))), (hb2, .inr (2, [.ref eb])), (eb, .inl (cI, 30, .inl (kA b)))] H := by
          rw [show rBehind1 b f t k (29 - t) (t + 1) G0 = F from hgo.symm]
          exact hP
        exact k_vret hx hb hr hlocks hP hS d_Ro_addBehindOne_50
      · exfalso; omega
    | succ n ih_5 =>
      intro i F hin hF hgo H locs ls hP hD hS hl
      refine lv_iload hx hb d_Ro_addBehindOne_5 (lv_at hl 5 rfl) ?_
      refine lv_bipush (v := zI 30) hx hb d_Ro_addBehindOne_7 (by decide) ?_
      refine k_icmp_ge (tgt := 50) hx hb d_Ro_addBehindOne_9 (by decide) ⟨by omega, by omega⟩ ⟨by omega, by omega⟩ (fun c_9 => ?_) (fun c_9 => ?_)
      · exfalso; omega
      · refine lv_iload hx hb d_Ro_addBehindOne_12 (lv_at hl 5 rfl) ?_
        refine lv_iload_n hx hb d_Ro_addBehindOne_14 rfl (lv_at hl 2 rfl) ?_
        refine k_isub hx hb d_Ro_addBehindOne_15 rfl ?_
        refine lv_iconst (v := zI 1) hx hb d_Ro_addBehindOne_16 (by decide) ?_
        refine k_isub hx hb d_Ro_addBehindOne_17 rfl ?_
        refine lv_iload hx hb d_Ro_addBehindOne_18 (lv_at hl 4 rfl) ?_
        refine k_icmp_gt (tgt := 50) hx hb d_Ro_addBehindOne_20 (by decide) ⟨by omega, by omega⟩ ⟨by omega, by omega⟩ (fun c_20 => ?_) (fun c_20 => ?_)
        · rw [← hQf]
          have hP : va_P D k_cl [(h, .inr (2, [.ref e])), (e, .inl (cI, 30, .inl (kA (rBehind1 b f t k (29 - t) (t + 1) G0)))), (hb2, .inr (2, [.ref eb])), (eb, .inl (cI, 30, .inl (kA b)))] H := by
            rw [show rBehind1 b f t k (29 - t) (t + 1) G0 = F from (by rw [rBehind1] at hgo; (repeat' split at hgo); all_goals first | exact hgo.symm | (exfalso; omega))]
            exact hP
          exact k_vret hx hb hr hlocks hP hS d_Ro_addBehindOne_50
        · refine lv_aload_n hx hb d_Ro_addBehindOne_23 rfl (lv_at hl 3 rfl) ?_
          refine lv_iload hx hb d_Ro_addBehindOne_24 (lv_at hl 5 rfl) ?_
          refine k_beI (va_runV (As := [.int (zI ↑i)]) (rest := []) ⟨hx, hb, hml, hown, hkw⟩ (c_Row_beginsAt l D cI cR cG hb2 eb i b (by omega) hb30 _) (cwV 1 hkw (k_gV kw_methodLink_Ro_25 kw_instanceMethod_Ro_beginsAt kw_selects_Ro_beginsAt kw_initialized_Ro kw_code_Ro_beginsAt) rfl rfl rfl (by decide +kernel) ⟨(Nat.le_of_ble_eq_true rfl), (Nat.le_of_ble_eq_true rfl)⟩) (k_preV (q0 := 0) hK hG hP hD [2, 3] rfl rfl rfl rfl) rfl rfl hl.1 rfl (lv_room (Nat.le_of_ble_eq_true rfl)) d_Ro_addBehindOne_26 ⟨Nat.zero_le _, Nat.zero_le _⟩) hP hD hS hA [2, 3] rfl (Eq.trans (b := [hb2, eb]) rfl rfl) ?_
          clear hP hD hS; intro H locs hP hD hS
          replace hP : va_P D k_cl ([(h, .inr (2, [.ref e])), (e, .inl (cI, 30, .inl (kA F))), (hb2, .inr (2, [.ref eb])), (eb, .inl (cI, 30, .inl (kA b)))]) H := hP
          replace hD : va_D A ([(h, .inr (2, [.ref e])), (e, .inl (cI, 30, .inl (kA F))), (hb2, .inr (2, [.ref eb])), (eb, .inl (cI, 30, .inl (kA b)))]) := hD
          refine k_bif_eq (tgt := 44) hx hb d_Ro_addBehindOne_29 (by decide) (fun c_29 => ?_) (fun c_29 => ?_)
          · refine k_iinc (v := ↑(i + 1)) (lv' := [(5, .int (zI (↑(i + 1)))), (0, .ref h), (1, .int (zI ↑f)), (2, .int (zI ↑t)), (3, .ref hb2), (4, .int (zI ↑k))]) hx hb d_Ro_addBehindOne_44 hl (k := 5) rfl (by omega) (by decide) rfl ?_
            clear hl; intro ls hl
            refine lv_goto (tgt := 5) hx hb d_Ro_addBehindOne_47 (by decide) ?_
            exact ih_5 (i + 1) F (by omega) hF (by rw [rBehind1] at hgo; (repeat' split at hgo); all_goals first | exact hgo | (exfalso; omega) | contradiction) _ _ _ hP hD hS (lv_sub hl [1, 2, 3, 4, 5, 0] rfl)
          · refine lv_aload_n hx hb d_Ro_addBehindOne_32 rfl (lv_at hl 0 rfl) ?_
            refine lv_iload_n hx hb d_Ro_addBehindOne_33 rfl (lv_at hl 1 rfl) ?_
            refine lv_aload_n hx hb d_Ro_addBehindOne_34 rfl (lv_at hl 3 rfl) ?_
            refine va_get (D := D) (ci := 2) (v := .ref eb) (C := R_Ro) (T := T_Ro) (N := 1) hx hb hkw kin_Ro hown hK hP 2 rfl rfl 0 (by decide) (hkw _ kw_fieldLink_Ro_9) (fun _ h9 => h9) rfl d_Ro_addBehindOne_35 ?_
            refine lv_iload hx hb d_Ro_addBehindOne_38 (lv_at hl 5 rfl) ?_
            refine k_ald hx hb hK hP 3 0 rfl rfl (i := i) (by omega) (by omega) (by omega) d_Ro_addBehindOne_40 ?_
            have hv_1 := hb30 i
            refine k_beV (va_runV (As := [.int (zI ↑f), .int (zI (↑(b i)))]) (rest := []) ⟨hx, hb, hml, hown, hkw⟩ (c_Row_add l D cI cR cG h e f (b i) F (by omega) (by omega) hF _) (cwV 2 hkw (k_gV kw_methodLink_Ro_38 kw_instanceMethod_Ro_add kw_selects_Ro_add kw_initialized_Ro kw_code_Ro_add) rfl rfl rfl (by decide +kernel) ⟨(Nat.le_of_ble_eq_true rfl), (Nat.le_of_ble_eq_true rfl)⟩) (k_preV (q0 := 0) hK hG hP hD [0, 1] rfl rfl rfl rfl) rfl rfl hl.1 rfl (lv_room (Nat.le_of_ble_eq_true rfl)) d_Ro_addBehindOne_41 ⟨Nat.zero_le _, Nat.zero_le _⟩) hP hD hS hA [0, 1] rfl (Eq.trans (b := [h, e]) rfl rfl) ?_
            clear hP hD hS; intro H locs hP hD hS
            replace hP : va_P D k_cl ([(h, .inr (2, [.ref e])), (e, .inl (cI, 30, .inl (kA (rAdd F f (b i))))), (hb2, .inr (2, [.ref eb])), (eb, .inl (cI, 30, .inl (kA b)))]) H := hP
            replace hD : va_D A ([(h, .inr (2, [.ref e])), (e, .inl (cI, 30, .inl (kA (rAdd F f (b i))))), (hb2, .inr (2, [.ref eb])), (eb, .inl (cI, 30, .inl (kA b)))]) := hD
            refine k_iinc (v := ↑(i + 1)) (lv' := [(5, .int (zI (↑(i + 1)))), (0, .ref h), (1, .int (zI ↑f)), (2, .int (zI ↑t)), (3, .ref hb2), (4, .int (zI ↑k))]) hx hb d_Ro_addBehindOne_44 hl (k := 5) rfl (by omega) (by decide) rfl ?_
            clear hl; intro ls hl
            refine lv_goto (tgt := 5) hx hb d_Ro_addBehindOne_47 (by decide) ?_
            exact ih_5 (i + 1) (rAdd F f (b i)) (by omega) (rAdd_le hF (by omega)) (by rw [rBehind1] at hgo; (repeat' split at hgo); all_goals first | exact hgo | (exfalso; omega) | contradiction) _ _ _ hP hD hS (lv_sub hl [1, 2, 3, 4, 5, 0] rfl)
  exact loop_5 (29 - t) (t + 1) G0 (by omega) hG0 rfl _ _ _ hP hD hS (lv_sub hl [1, 2, 3, 4, 5, 0] rfl)

abbrev rm_Row_addBothOfOne : Room := { frames := 2, cells := 0, slots := 0, locals := 42 }
set_option maxHeartbeats 4000000 in
set_option maxRecDepth 100000 in
theorem c_Row_addBothOfOne (l : Launch) (D : va_G) (cI cR cG : ClassId) (h e hb2 eb f t k : Nat) (G0 b : Nat → Nat) (hf : f < 30) (ht : t < 30) (hk : k ≤ 30) (hG0 : ∀ j, G0 j ≤ 30) (hb30 : ∀ j, b j ≤ 30) : k_M l y_Ro_addBothOfOne (.code y_Ro_addBothOfOne b_Ro_addBothOfOne 8 none :: kW) rm_Row_addBothOfOne D k_cl (k_ty cI cR cG) [.ref h, .int (zI ↑f), .int (zI ↑t), .ref hb2, .int (zI ↑k)] ([(h, .inr (2, [.ref e])), (e, .inl (cI, 30, .inl (kA G0))), (hb2, .inr (2, [.ref eb])), (eb, .inl (cI, 30, .inl (kA b)))]) (k_Qv D k_cl [(h, .inr (2, [.ref e])), (e, .inl (cI, 30, .inl (kA (rBoth1 b f t k 30 0 G0)))), (hb2, .inr (2, [.ref eb])), (eb, .inl (cI, 30, .inl (kA b)))]) := by
  refine k_start (cc := b_Ro_addBothOfOne) (maxL := 8) (ret := none) (by decide) rfl (Nat.le_of_ble_eq_true rfl) ?_
  intro p ev s m ar below meth c A ls Qf hQf hx hb hr hml hts hown hlocks hin hK hG hA hP hD hS hl
  replace hown : s.vm.findClass R_Ro = some m.cls := hown
  replace hl : lv_has ls 8 [(0, .ref h), (1, .int (zI ↑f)), (2, .int (zI ↑t)), (3, .ref hb2), (4, .int (zI ↑k))] := hl
  have hkw : ∀ w ∈ kW, w.before ar s = true := fun w h => hts w (List.mem_cons_of_mem _ h)
  replace hP : va_P D k_cl ([(h, .inr (2, [.ref e])), (e, .inl (cI, 30, .inl (kA G0))), (hb2, .inr (2, [.ref eb])), (eb, .inl (cI, 30, .inl (kA b)))]) s.heap := hP
  replace hD : va_D A ([(h, .inr (2, [.ref e])), (e, .inl (cI, 30, .inl (kA G0))), (hb2, .inr (2, [.ref eb])), (eb, .inl (cI, 30, .inl (kA b)))]) := hD
  refine lv_iconst (v := zI 0) hx hb d_Ro_addBothOfOne_0 (by decide) ?_
  refine lv_istore (lv' := [(5, .int (zI 0)), (0, .ref h), (1, .int (zI ↑f)), (2, .int (zI ↑t)), (3, .ref hb2), (4, .int (zI ↑k))]) hx hb d_Ro_addBothOfOne_1 hl (by decide) rfl ?_
  clear hl; intro ls hl
  have loop_3 : ∀ (n : Nat) (i : Nat) (F : Nat → Nat), (i + n = 30) → (∀ j, F j ≤ 30) → (rBoth1 b f t k n i F = rBoth1 b f t k 30 0 G0) → ∀ (H : Heap) (locs : List Loc) (ls : Array Slot), va_P D k_cl ([(h, .inr (2, [.ref e])), (e, .inl (cI, 30, .inl (kA F))), (hb2, .inr (2, [.ref eb])), (eb, .inl (cI, 30, .inl (kA b)))]) H → va_D A ([(h, .inr (2, [.ref e])), (e, .inl (cI, 30, .inl (kA F))), (hb2, .inr (2, [.ref eb])), (eb, .inl (cI, 30, .inl (kA b)))]) → va_S A s.heap H locs → lv_has ls 8 [(0, .ref h), (1, .int (zI ↑f)), (2, .int (zI ↑t)), (3, .ref hb2), (4, .int (zI ↑k)), (5, .int (zI ↑i))] → W p l ev rm_Row_addBothOfOne s m ar below meth c H locs 0 0 Qf (F0 m 3 ls []) := by
    intro n
    induction n with
    | zero =>
      intro i F hin hF hgo H locs ls hP hD hS hl
      refine lv_iload hx hb d_Ro_addBothOfOne_3 (lv_at hl 5 rfl) ?_
      refine lv_bipush (v := zI 30) hx hb d_Ro_addBothOfOne_5 (by decide) ?_
      refine k_icmp_ge (tgt := 66) hx hb d_Ro_addBothOfOne_7 (by decide) ⟨by omega, by omega⟩ ⟨by omega, by omega⟩ (fun c_7 => ?_) (fun c_7 => ?_)
      · rw [← hQf]
        have hP : va_P D k_cl [(h, .inr (2, [.ref e])), (e, .inl (cI, 30, .inl (kA (rBoth1 b f t k 30 0 G0)))), (hb2, .inr (2, [.ref eb])), (eb, .inl (cI, 30, .inl (kA b)))] H := by
          rw [show rBoth1 b f t k 30 0 G0 = F from hgo.symm]
          exact hP
        exact k_vret hx hb hr hlocks hP hS d_Ro_addBothOfOne_66
      · exfalso; omega
    | succ n ih_3 =>
      intro i F hin hF hgo H locs ls hP hD hS hl
      refine lv_iload hx hb d_Ro_addBothOfOne_3 (lv_at hl 5 rfl) ?_
      refine lv_bipush (v := zI 30) hx hb d_Ro_addBothOfOne_5 (by decide) ?_
      refine k_icmp_ge (tgt := 66) hx hb d_Ro_addBothOfOne_7 (by decide) ⟨by omega, by omega⟩ ⟨by omega, by omega⟩ (fun c_7 => ?_) (fun c_7 => ?_)
      · exfalso; omega
      · refine lv_aload_n hx hb d_Ro_addBothOfOne_10 rfl (lv_at hl 3 rfl) ?_
        refine lv_iload hx hb d_Ro_addBothOfOne_11 (lv_at hl 5 rfl) ?_
        refine k_beI (va_runV (As := [.int (zI ↑i)]) (rest := []) ⟨hx, hb, hml, hown, hkw⟩ (c_Row_beginsAt l D cI cR cG hb2 eb i b (by omega) hb30 _) (cwV 1 hkw (k_gV kw_methodLink_Ro_25 kw_instanceMethod_Ro_beginsAt kw_selects_Ro_beginsAt kw_initialized_Ro kw_code_Ro_beginsAt) rfl rfl rfl (by decide +kernel) ⟨(Nat.le_of_ble_eq_true rfl), (Nat.le_of_ble_eq_true rfl)⟩) (k_preV (q0 := 0) hK hG hP hD [2, 3] rfl rfl rfl rfl) rfl rfl hl.1 rfl (lv_room (Nat.le_of_ble_eq_true rfl)) d_Ro_addBothOfOne_13 ⟨Nat.zero_le _, Nat.zero_le _⟩) hP hD hS hA [2, 3] rfl (Eq.trans (b := [hb2, eb]) rfl rfl) ?_
        clear hP hD hS; intro H locs hP hD hS
        replace hP : va_P D k_cl ([(h, .inr (2, [.ref e])), (e, .inl (cI, 30, .inl (kA F))), (hb2, .inr (2, [.ref eb])), (eb, .inl (cI, 30, .inl (kA b)))]) H := hP
        replace hD : va_D A ([(h, .inr (2, [.ref e])), (e, .inl (cI, 30, .inl (kA F))), (hb2, .inr (2, [.ref eb])), (eb, .inl (cI, 30, .inl (kA b)))]) := hD
        refine k_bif_eq (tgt := 60) hx hb d_Ro_addBothOfOne_16 (by decide) (fun c_16 => ?_) (fun c_16 => ?_)
        · refine k_iinc (v := ↑(i + 1)) (lv' := [(5, .int (zI (↑(i + 1)))), (0, .ref h), (1, .int (zI ↑f)), (2, .int (zI ↑t)), (3, .ref hb2), (4, .int (zI ↑k))]) hx hb d_Ro_addBothOfOne_60 hl (k := 5) rfl (by omega) (by decide) rfl ?_
          clear hl; intro ls hl
          refine lv_goto (tgt := 3) hx hb d_Ro_addBothOfOne_63 (by decide) ?_
          exact ih_3 (i + 1) F (by omega) hF (by rw [rBoth1] at hgo; (repeat' split at hgo); all_goals first | exact hgo | (exfalso; omega) | contradiction) _ _ _ hP hD hS (lv_sub hl [1, 2, 3, 4, 5, 0] rfl)
        · refine lv_iload_n hx hb d_Ro_addBothOfOne_19 rfl (lv_at hl 1 rfl) ?_
          refine lv_iload hx hb d_Ro_addBothOfOne_20 (lv_at hl 5 rfl) ?_
          refine k_min (v := ↑(min f i)) hx hb (hml.trans hl.1.symm) hown (hkw _ kw_methodLink_Ro_53) (hkw _ kw_static_Math_min) (hkw _ kw_initialized_Math) (hkw _ kw_code_Math_min) (Nat.le_of_ble_eq_true rfl) (Nat.le_of_ble_eq_true rfl) (Nat.zero_le _) (Nat.zero_le _) d_Ro_addBothOfOne_22 ⟨by omega, by omega⟩ ⟨by omega, by omega⟩ (by omega) ?_
          refine lv_istore (lv' := [(6, .int (zI (↑(min f i)))), (0, .ref h), (1, .int (zI ↑f)), (2, .int (zI ↑t)), (3, .ref hb2), (4, .int (zI ↑k)), (5, .int (zI ↑i))]) hx hb d_Ro_addBothOfOne_25 hl (by decide) rfl ?_
          clear hl; intro ls hl
          refine lv_iload_n hx hb d_Ro_addBothOfOne_27 rfl (lv_at hl 3 rfl) ?_
          refine lv_aload_n hx hb d_Ro_addBothOfOne_28 rfl (lv_at hl 4 rfl) ?_
          refine va_get (D := D) (ci := 2) (v := .ref eb) (C := R_Ro) (T := T_Ro) (N := 1) hx hb hkw kin_Ro hown hK hP 2 rfl rfl 0 (by decide) (hkw _ kw_fieldLink_Ro_9) (fun _ h9 => h9) rfl d_Ro_addBothOfOne_29 ?_
          refine lv_iload hx hb d_Ro_addBothOfOne_32 (lv_at hl 6 rfl) ?_
          refine k_ald hx hb hK hP 3 0 rfl rfl (i := i) (by omega) (by omega) (by omega) d_Ro_addBothOfOne_34 ?_
          have hv_1 := hb30 i
          refine k_max (v := ↑(max t (b i))) hx hb (hml.trans hl.1.symm) hown (hkw _ kw_methodLink_Ro_32) (hkw _ kw_static_Math_max) (hkw _ kw_initialized_Math) (hkw _ kw_code_Math_max) (Nat.le_of_ble_eq_true rfl) (Nat.le_of_ble_eq_true rfl) (Nat.zero_le _) (Nat.zero_le _) d_Ro_addBothOfOne_35 ⟨by omega, by omega⟩ ⟨by omega, by omega⟩ (by omega) ?_
          refine lv_istore (lv' := [(7, .int (zI (↑(max t (b i))))), (6, .int (zI (↑(min f i)))), (0, .ref h), (1, .int (zI ↑f)), (2, .int (zI ↑t)), (3, .ref hb2), (4, .int (zI ↑k)), (5, .int (zI ↑i))]) hx hb d_Ro_addBothOfOne_38 hl (by decide) rfl ?_
          clear hl; intro ls hl
          refine lv_iload hx hb d_Ro_addBothOfOne_40 (lv_at hl 0 rfl) ?_
          refine lv_iload hx hb d_Ro_addBothOfOne_42 (lv_at hl 1 rfl) ?_
          refine k_isub hx hb d_Ro_addBothOfOne_44 rfl ?_
          refine lv_iconst (v := zI 1) hx hb d_Ro_addBothOfOne_45 (by decide) ?_
          refine k_iadd hx hb d_Ro_addBothOfOne_46 rfl ?_
          refine lv_iload hx hb d_Ro_addBothOfOne_47 (lv_at hl 6 rfl) ?_
          refine k_icmp_gt (tgt := 60) hx hb d_Ro_addBothOfOne_49 (by decide) ⟨by omega, by omega⟩ ⟨by omega, by omega⟩ (fun c_49 => ?_) (fun c_49 => ?_)
          · refine k_iinc (v := ↑(i + 1)) (lv' := [(5, .int (zI (↑(i + 1)))), (7, .int (zI (↑(max t (b i))))), (6, .int (zI (↑(min f i)))), (0, .ref h), (1, .int (zI ↑f)), (2, .int (zI ↑t)), (3, .ref hb2), (4, .int (zI ↑k))]) hx hb d_Ro_addBothOfOne_60 hl (k := 7) rfl (by omega) (by decide) rfl ?_
            clear hl; intro ls hl
            refine lv_goto (tgt := 3) hx hb d_Ro_addBothOfOne_63 (by decide) ?_
            exact ih_3 (i + 1) F (by omega) hF (by rw [rBoth1] at hgo; (repeat' split at hgo); all_goals first | exact hgo | (exfalso; omega) | contradiction) _ _ _ hP hD hS (lv_sub hl [3, 4, 5, 6, 7, 0] rfl)
          · refine lv_aload_n hx hb d_Ro_addBothOfOne_52 rfl (lv_at hl 2 rfl) ?_
            refine lv_iload hx hb d_Ro_addBothOfOne_53 (lv_at hl 1 rfl) ?_
            refine lv_iload hx hb d_Ro_addBothOfOne_55 (lv_at hl 0 rfl) ?_
            refine k_beV (va_runV (As := [.int (zI (↑(min f i))), .int (zI (↑(max t (b i))))]) (rest := []) ⟨hx, hb, hml, hown, hkw⟩ (c_Row_add l D cI cR cG h e (min f i) (max t (b i)) F (by omega) (by omega) hF _) (cwV 2 hkw (k_gV kw_methodLink_Ro_38 kw_instanceMethod_Ro_add kw_selects_Ro_add kw_initialized_Ro kw_code_Ro_add) rfl rfl rfl (by decide +kernel) ⟨(Nat.le_of_ble_eq_true rfl), (Nat.le_of_ble_eq_true rfl)⟩) (k_preV (q0 := 0) hK hG hP hD [0, 1] rfl rfl rfl rfl) rfl rfl hl.1 rfl (lv_room (Nat.le_of_ble_eq_true rfl)) d_Ro_addBothOfOne_57 ⟨Nat.zero_le _, Nat.zero_le _⟩) hP hD hS hA [0, 1] rfl (Eq.trans (b := [h, e]) rfl rfl) ?_
            clear hP hD hS; intro H locs hP hD hS
            replace hP : va_P D k_cl ([(h, .inr (2, [.ref e])), (e, .inl (cI, 30, .inl (kA (rAdd F (min f i) (max t (b i)))))), (hb2, .inr (2, [.ref eb])), (eb, .inl (cI, 30, .inl (kA b)))]) H := hP
            replace hD : va_D A ([(h, .inr (2, [.ref e])), (e, .inl (cI, 30, .inl (kA (rAdd F (min f i) (max t (b i)))))), (hb2, .inr (2, [.ref eb])), (eb, .inl (cI, 30, .inl (kA b)))]) := hD
            refine k_iinc (v := ↑(i + 1)) (lv' := [(5, .int (zI (↑(i + 1)))), (7, .int (zI (↑(max t (b i))))), (6, .int (zI (↑(min f i)))), (0, .ref h), (1, .int (zI ↑f)), (2, .int (zI ↑t)), (3, .ref hb2), (4, .int (zI ↑k))]) hx hb d_Ro_addBothOfOne_60 hl (k := 7) rfl (by omega) (by decide) rfl ?_
            clear hl; intro ls hl
            refine lv_goto (tgt := 3) hx hb d_Ro_addBothOfOne_63 (by decide) ?_
            exact ih_3 (i + 1) (rAdd F (min f i) (max t (b i))) (by omega) (rAdd_le hF (by omega)) (by rw [rBoth1] at hgo; (repeat' split at hgo); all_goals first | exact hgo | (exfalso; omega) | contradiction) _ _ _ hP hD hS (lv_sub hl [3, 4, 5, 6, 7, 0] rfl)
  exact loop_3 30 0 G0 (by omega) hG0 rfl _ _ _ hP hD hS (lv_sub hl [1, 2, 3, 4, 5, 0] rfl)

abbrev rm_Row_hasWithin : Room := { frames := 2, cells := 0, slots := 0, locals := 41 }
set_option maxHeartbeats 4000000 in
set_option maxRecDepth 100000 in
theorem c_Row_hasWithin (l : Launch) (D : va_G) (cI cR cG : ClassId) (h e lo hi : Nat) (b : Nat → Nat) (hlo : lo < 30) (hhi : hi ≤ 30) (hb30 : ∀ j, b j ≤ 30) : k_M l y_Ro_hasWithin (.code y_Ro_hasWithin b_Ro_hasWithin 4 (some .boolean) :: kW) rm_Row_hasWithin D k_cl (k_ty cI cR cG) [.ref h, .int (zI ↑lo), .int (zI ↑hi)] ([(h, .inr (2, [.ref e])), (e, .inl (cI, 30, .inl (kA b)))]) (k_Qi D k_cl (k_b (rHW b hi (30 - lo) lo = true)) [(h, .inr (2, [.ref e])), (e, .inl (cI, 30, .inl (kA b)))]) := by
  refine k_start (cc := b_Ro_hasWithin) (maxL := 4) (ret := (some .boolean)) (by decide) rfl (Nat.le_of_ble_eq_true rfl) ?_
  intro p ev s m ar below meth c A ls Qf hQf hx hb hr hml hts hown hlocks hin hK hG hA hP hD hS hl
  replace hown : s.vm.findClass R_Ro = some m.cls := hown
  replace hl : lv_has ls 4 [(0, .ref h), (1, .int (zI ↑lo)), (2, .int (zI ↑hi))] := hl
  have hkw : ∀ w ∈ kW, w.before ar s = true := fun w h => hts w (List.mem_cons_of_mem _ h)
  replace hP : va_P D k_cl ([(h, .inr (2, [.ref e])), (e, .inl (cI, 30, .inl (kA b)))]) s.heap := hP
  replace hD : va_D A ([(h, .inr (2, [.ref e])), (e, .inl (cI, 30, .inl (kA b)))]) := hD
  refine lv_iconst (v := zI 0) hx hb d_Ro_hasWithin_0 (by decide) ?_
  refine lv_iload_n hx hb d_Ro_hasWithin_1 rfl (lv_at hl 1 rfl) ?_
  refine k_max (v := ↑lo) hx hb (hml.trans hl.1.symm) hown (hkw _ kw_methodLink_Ro_32) (hkw _ kw_static_Math_max) (hkw _ kw_initialized_Math) (hkw _ kw_code_Math_max) (Nat.le_of_ble_eq_true rfl) (Nat.le_of_ble_eq_true rfl) (Nat.zero_le _) (Nat.zero_le _) d_Ro_hasWithin_2 ⟨by omega, by omega⟩ ⟨by omega, by omega⟩ (by omega) ?_
  refine lv_istore_n (lv' := [(3, .int (zI ↑lo)), (0, .ref h), (1, .int (zI ↑lo)), (2, .int (zI ↑hi))]) hx hb d_Ro_hasWithin_5 rfl hl (by decide) rfl ?_
  clear hl; intro ls hl
  have loop_6 : ∀ (n : Nat) (i : Nat), (i + n = 30) → (rHW b hi n i = rHW b hi (30 - lo) lo) → ∀ (H : Heap) (locs : List Loc) (ls : Array Slot), va_P D k_cl ([(h, .inr (2, [.ref e])), (e, .inl (cI, 30, .inl (kA b)))]) H → va_D A ([(h, .inr (2, [.ref e])), (e, .inl (cI, 30, .inl (kA b)))]) → va_S A s.heap H locs → lv_has ls 4 [(0, .ref h), (1, .int (zI ↑lo)), (2, .int (zI ↑hi)), (3, .int (zI ↑i))] → W p l ev rm_Row_hasWithin s m ar below meth c H locs 0 0 Qf (F0 m 6 ls []) := by
    intro n
    induction n with
    | zero =>
      intro i hin hgo H locs ls hP hD hS hl
      refine lv_iload_n hx hb d_Ro_hasWithin_6 rfl (lv_at hl 3 rfl) ?_
      refine lv_bipush (v := zI 30) hx hb d_Ro_hasWithin_7 (by decide) ?_
      refine k_icmp_ge (tgt := 38) hx hb d_Ro_hasWithin_9 (by decide) ⟨by omega, by omega⟩ ⟨by omega, by omega⟩ (fun c_9 => ?_) (fun c_9 => ?_)
      · refine lv_iconst (v := zI 0) hx hb d_Ro_hasWithin_38 (by decide) ?_
        rw [← hQf]
        exact k_zret hx hb hr hlocks hP hS (k_bf (by rw [← hgo]; simp [rHW])).symm d_Ro_hasWithin_39
      · exfalso; omega
    | succ n ih_6 =>
      intro i hin hgo H locs ls hP hD hS hl
      refine lv_iload_n hx hb d_Ro_hasWithin_6 rfl (lv_at hl 3 rfl) ?_
      refine lv_bipush (v := zI 30) hx hb d_Ro_hasWithin_7 (by decide) ?_
      refine k_icmp_ge (tgt := 38) hx hb d_Ro_hasWithin_9 (by decide) ⟨by omega, by omega⟩ ⟨by omega, by omega⟩ (fun c_9 => ?_) (fun c_9 => ?_)
      · exfalso; omega
      · refine lv_aload_n hx hb d_Ro_hasWithin_12 rfl (lv_at hl 0 rfl) ?_
        refine lv_iload_n hx hb d_Ro_hasWithin_13 rfl (lv_at hl 3 rfl) ?_
        refine k_beI (va_runV (As := [.int (zI ↑i)]) (rest := []) ⟨hx, hb, hml, hown, hkw⟩ (c_Row_beginsAt l D cI cR cG h e i b (by omega) hb30 _) (cwV 1 hkw (k_gV kw_methodLink_Ro_25 kw_instanceMethod_Ro_beginsAt kw_selects_Ro_beginsAt kw_initialized_Ro kw_code_Ro_beginsAt) rfl rfl rfl (by decide +kernel) ⟨(Nat.le_of_ble_eq_true rfl), (Nat.le_of_ble_eq_true rfl)⟩) (k_preV (q0 := 0) hK hG hP hD [0, 1] rfl rfl rfl rfl) rfl rfl hl.1 rfl (lv_room (Nat.le_of_ble_eq_true rfl)) d_Ro_hasWithin_14 ⟨Nat.zero_le _, Nat.zero_le _⟩) hP hD hS hA [0, 1] rfl (Eq.trans (b := [h, e]) rfl rfl) ?_
        clear hP hD hS; intro H locs hP hD hS
        replace hP : va_P D k_cl ([(h, .inr (2, [.ref e])), (e, .inl (cI, 30, .inl (kA b)))]) H := hP
        replace hD : va_D A ([(h, .inr (2, [.ref e])), (e, .inl (cI, 30, .inl (kA b)))]) := hD
        refine k_bif_eq (tgt := 32) hx hb d_Ro_hasWithin_17 (by decide) (fun c_17 => ?_) (fun c_17 => ?_)
        · refine k_iinc (v := ↑(i + 1)) (lv' := [(3, .int (zI (↑(i + 1)))), (0, .ref h), (1, .int (zI ↑lo)), (2, .int (zI ↑hi))]) hx hb d_Ro_hasWithin_32 hl (k := 3) rfl (by omega) (by decide) rfl ?_
          clear hl; intro ls hl
          refine lv_goto (tgt := 6) hx hb d_Ro_hasWithin_35 (by decide) ?_
          exact ih_6 (i + 1) (by omega) (by rw [rHW] at hgo; (repeat' split at hgo); all_goals first | exact hgo | (exfalso; omega) | contradiction) _ _ _ hP hD hS (lv_sub hl [1, 2, 3, 0] rfl)
        · refine lv_aload_n hx hb d_Ro_hasWithin_20 rfl (lv_at hl 0 rfl) ?_
          refine va_get (D := D) (ci := 2) (v := .ref e) (C := R_Ro) (T := T_Ro) (N := 1) hx hb hkw kin_Ro hown hK hP 0 rfl rfl 0 (by decide) (hkw _ kw_fieldLink_Ro_9) (fun _ h9 => h9) rfl d_Ro_hasWithin_21 ?_
          refine lv_iload_n hx hb d_Ro_hasWithin_24 rfl (lv_at hl 3 rfl) ?_
          refine k_ald hx hb hK hP 1 0 rfl rfl (i := i) (by omega) (by omega) (by omega) d_Ro_hasWithin_25 ?_
          have hv_1 := hb30 i
          refine lv_iload_n hx hb d_Ro_hasWithin_26 rfl (lv_at hl 2 rfl) ?_
          refine k_icmp_gt (tgt := 32) hx hb d_Ro_hasWithin_27 (by decide) ⟨by omega, by omega⟩ ⟨by omega, by omega⟩ (fun c_27 => ?_) (fun c_27 => ?_)
          · refine k_iinc (v := ↑(i + 1)) (lv' := [(3, .int (zI (↑(i + 1)))), (0, .ref h), (1, .int (zI ↑lo)), (2, .int (zI ↑hi))]) hx hb d_Ro_hasWithin_32 hl (k := 3) rfl (by omega) (by decide) rfl ?_
            clear hl; intro ls hl
            refine lv_goto (tgt := 6) hx hb d_Ro_hasWithin_35 (by decide) ?_
            exact ih_6 (i + 1) (by omega) (by rw [rHW] at hgo; (repeat' split at hgo); all_goals first | exact hgo | (exfalso; omega) | contradiction) _ _ _ hP hD hS (lv_sub hl [1, 2, 3, 0] rfl)
          · refine lv_iconst (v := zI 1) hx hb d_Ro_hasWithin_30 (by decide) ?_
            rw [← hQf]
            exact k_zret hx hb hr hlocks hP hS (k_bt (by rw [rHW] at hgo; (repeat' split at hgo); all_goals first | exact hgo.symm | (exfalso; omega))).symm d_Ro_hasWithin_31
  exact loop_6 (30 - lo) lo (by omega) rfl _ _ _ hP hD hS (lv_sub hl [1, 2, 3, 0] rfl)

abbrev rm_Row_hasAround : Room := { frames := 2, cells := 0, slots := 0, locals := 41 }
set_option maxHeartbeats 4000000 in
set_option maxRecDepth 100000 in
theorem c_Row_hasAround (l : Launch) (D : va_G) (cI cR cG : ClassId) (h e lo hi : Nat) (b : Nat → Nat) (hlo : lo < 30) (hhi : hi ≤ 30) (hb30 : ∀ j, b j ≤ 30) : k_M l y_Ro_hasAround (.code y_Ro_hasAround b_Ro_hasAround 4 (some .boolean) :: kW) rm_Row_hasAround D k_cl (k_ty cI cR cG) [.ref h, .int (zI ↑lo), .int (zI ↑hi)] ([(h, .inr (2, [.ref e])), (e, .inl (cI, 30, .inl (kA b)))]) (k_Qi D k_cl (k_b (rHA b lo hi 30 0 = true)) [(h, .inr (2, [.ref e])), (e, .inl (cI, 30, .inl (kA b)))]) := by
  refine k_start (cc := b_Ro_hasAround) (maxL := 4) (ret := (some .boolean)) (by decide) rfl (Nat.le_of_ble_eq_true rfl) ?_
  intro p ev s m ar below meth c A ls Qf hQf hx hb hr hml hts hown hlocks hin hK hG hA hP hD hS hl
  replace hown : s.vm.findClass R_Ro = some m.cls := hown
  replace hl : lv_has ls 4 [(0, .ref h), (1, .int (zI ↑lo)), (2, .int (zI ↑hi))] := hl
  have hkw : ∀ w ∈ kW, w.before ar s = true := fun w h => hts w (List.mem_cons_of_mem _ h)
  replace hP : va_P D k_cl ([(h, .inr (2, [.ref e])), (e, .inl (cI, 30, .inl (kA b)))]) s.heap := hP
  replace hD : va_D A ([(h, .inr (2, [.ref e])), (e, .inl (cI, 30, .inl (kA b)))]) := hD
  refine lv_iconst (v := zI 0) hx hb d_Ro_hasAround_0 (by decide) ?_
  refine lv_istore_n (lv' := [(3, .int (zI 0)), (0, .ref h), (1, .int (zI ↑lo)), (2, .int (zI ↑hi))]) hx hb d_Ro_hasAround_1 rfl hl (by decide) rfl ?_
  clear hl; intro ls hl
  have loop_2 : ∀ (n : Nat) (i : Nat), (i + n = 30) → (rHA b lo hi n i = rHA b lo hi 30 0) → ∀ (H : Heap) (locs : List Loc) (ls : Array Slot), va_P D k_cl ([(h, .inr (2, [.ref e])), (e, .inl (cI, 30, .inl (kA b)))]) H → va_D A ([(h, .inr (2, [.ref e])), (e, .inl (cI, 30, .inl (kA b)))]) → va_S A s.heap H locs → lv_has ls 4 [(0, .ref h), (1, .int (zI ↑lo)), (2, .int (zI ↑hi)), (3, .int (zI ↑i))] → W p l ev rm_Row_hasAround s m ar below meth c H locs 0 0 Qf (F0 m 2 ls []) := by
    intro n
    induction n with
    | zero =>
      intro i hin hgo H locs ls hP hD hS hl
      refine lv_iload_n hx hb d_Ro_hasAround_2 rfl (lv_at hl 3 rfl) ?_
      refine lv_bipush (v := zI 30) hx hb d_Ro_hasAround_3 (by decide) ?_
      refine k_icmp_ge (tgt := 39) hx hb d_Ro_hasAround_5 (by decide) ⟨by omega, by omega⟩ ⟨by omega, by omega⟩ (fun c_5 => ?_) (fun c_5 => ?_)
      · refine lv_iconst (v := zI 0) hx hb d_Ro_hasAround_39 (by decide) ?_
        rw [← hQf]
        exact k_zret hx hb hr hlocks hP hS (k_bf (by rw [← hgo]; simp [rHA])).symm d_Ro_hasAround_40
      · exfalso; omega
    | succ n ih_2 =>
      intro i hin hgo H locs ls hP hD hS hl
      refine lv_iload_n hx hb d_Ro_hasAround_2 rfl (lv_at hl 3 rfl) ?_
      refine lv_bipush (v := zI 30) hx hb d_Ro_hasAround_3 (by decide) ?_
      refine k_icmp_ge (tgt := 39) hx hb d_Ro_hasAround_5 (by decide) ⟨by omega, by omega⟩ ⟨by omega, by omega⟩ (fun c_5 => ?_) (fun c_5 => ?_)
      · exfalso; omega
      · refine lv_iload_n hx hb d_Ro_hasAround_8 rfl (lv_at hl 3 rfl) ?_
        refine lv_iload_n hx hb d_Ro_hasAround_9 rfl (lv_at hl 1 rfl) ?_
        refine k_icmp_gt (tgt := 39) hx hb d_Ro_hasAround_10 (by decide) ⟨by omega, by omega⟩ ⟨by omega, by omega⟩ (fun c_10 => ?_) (fun c_10 => ?_)
        · refine lv_iconst (v := zI 0) hx hb d_Ro_hasAround_39 (by decide) ?_
          rw [← hQf]
          exact k_zret hx hb hr hlocks hP hS (k_bf (by rw [← hgo, rHA]; (repeat' split); all_goals first | (exfalso; omega) | simp)).symm d_Ro_hasAround_40
        · refine lv_aload_n hx hb d_Ro_hasAround_13 rfl (lv_at hl 0 rfl) ?_
          refine lv_iload_n hx hb d_Ro_hasAround_14 rfl (lv_at hl 3 rfl) ?_
          refine k_beI (va_runV (As := [.int (zI ↑i)]) (rest := []) ⟨hx, hb, hml, hown, hkw⟩ (c_Row_beginsAt l D cI cR cG h e i b (by omega) hb30 _) (cwV 1 hkw (k_gV kw_methodLink_Ro_25 kw_instanceMethod_Ro_beginsAt kw_selects_Ro_beginsAt kw_initialized_Ro kw_code_Ro_beginsAt) rfl rfl rfl (by decide +kernel) ⟨(Nat.le_of_ble_eq_true rfl), (Nat.le_of_ble_eq_true rfl)⟩) (k_preV (q0 := 0) hK hG hP hD [0, 1] rfl rfl rfl rfl) rfl rfl hl.1 rfl (lv_room (Nat.le_of_ble_eq_true rfl)) d_Ro_hasAround_15 ⟨Nat.zero_le _, Nat.zero_le _⟩) hP hD hS hA [0, 1] rfl (Eq.trans (b := [h, e]) rfl rfl) ?_
          clear hP hD hS; intro H locs hP hD hS
          replace hP : va_P D k_cl ([(h, .inr (2, [.ref e])), (e, .inl (cI, 30, .inl (kA b)))]) H := hP
          replace hD : va_D A ([(h, .inr (2, [.ref e])), (e, .inl (cI, 30, .inl (kA b)))]) := hD
          refine k_bif_eq (tgt := 33) hx hb d_Ro_hasAround_18 (by decide) (fun c_18 => ?_) (fun c_18 => ?_)
          · refine k_iinc (v := ↑(i + 1)) (lv' := [(3, .int (zI (↑(i + 1)))), (0, .ref h), (1, .int (zI ↑lo)), (2, .int (zI ↑hi))]) hx hb d_Ro_hasAround_33 hl (k := 3) rfl (by omega) (by decide) rfl ?_
            clear hl; intro ls hl
            refine lv_goto (tgt := 2) hx hb d_Ro_hasAround_36 (by decide) ?_
            exact ih_2 (i + 1) (by omega) (by rw [rHA] at hgo; (repeat' split at hgo); all_goals first | exact hgo | (exfalso; omega) | contradiction) _ _ _ hP hD hS (lv_sub hl [1, 2, 3, 0] rfl)
          · refine lv_aload_n hx hb d_Ro_hasAround_21 rfl (lv_at hl 0 rfl) ?_
            refine va_get (D := D) (ci := 2) (v := .ref e) (C := R_Ro) (T := T_Ro) (N := 1) hx hb hkw kin_Ro hown hK hP 0 rfl rfl 0 (by decide) (hkw _ kw_fieldLink_Ro_9) (fun _ h9 => h9) rfl d_Ro_hasAround_22 ?_
            refine lv_iload_n hx hb d_Ro_hasAround_25 rfl (lv_at hl 3 rfl) ?_
            refine k_ald hx hb hK hP 1 0 rfl rfl (i := i) (by omega) (by omega) (by omega) d_Ro_hasAround_26 ?_
            have hv_1 := hb30 i
            refine lv_iload_n hx hb d_Ro_hasAround_27 rfl (lv_at hl 2 rfl) ?_
            refine k_icmp_lt (tgt := 33) hx hb d_Ro_hasAround_28 (by decide) ⟨by omega, by omega⟩ ⟨by omega, by omega⟩ (fun c_28 => ?_) (fun c_28 => ?_)
            · refine k_iinc (v := ↑(i + 1)) (lv' := [(3, .int (zI (↑(i + 1)))), (0, .ref h), (1, .int (zI ↑lo)), (2, .int (zI ↑hi))]) hx hb d_Ro_hasAround_33 hl (k := 3) rfl (by omega) (by decide) rfl ?_
              clear hl; intro ls hl
              refine lv_goto (tgt := 2) hx hb d_Ro_hasAround_36 (by decide) ?_
              exact ih_2 (i + 1) (by omega) (by rw [rHA] at hgo; (repeat' split at hgo); all_goals first | exact hgo | (exfalso; omega) | contradiction) _ _ _ hP hD hS (lv_sub hl [1, 2, 3, 0] rfl)
            · refine lv_iconst (v := zI 1) hx hb d_Ro_hasAround_31 (by decide) ?_
              rw [← hQf]
              exact k_zret hx hb hr hlocks hP hS (k_bt (by rw [rHA] at hgo; (repeat' split at hgo); all_goals first | exact hgo.symm | (exfalso; omega))).symm d_Ro_hasAround_32
  exact loop_2 30 0 (by omega) rfl _ _ _ hP hD hS (lv_sub hl [1, 2, 3, 0] rfl)

abbrev rm_Row_hasNear : Room := { frames := 2, cells := 0, slots := 0, locals := 41 }
set_option maxHeartbeats 4000000 in
set_option maxRecDepth 100000 in
theorem c_Row_hasNear (l : Launch) (D : va_G) (cI cR cG : ClassId) (h e lo hi : Nat) (k : Int) (b : Nat → Nat) (hlo : lo < 30) (hhi : hi ≤ 30) (hk : -1 ≤ k ∧ k ≤ 30) (hb30 : ∀ j, b j ≤ 30) : k_M l y_Ro_hasNear (.code y_Ro_hasNear b_Ro_hasNear 5 (some .boolean) :: kW) rm_Row_hasNear D k_cl (k_ty cI cR cG) [.ref h, .int (zI ↑lo), .int (zI ↑hi), .int (zI k)] ([(h, .inr (2, [.ref e])), (e, .inl (cI, 30, .inl (kA b)))]) (k_Qi D k_cl (k_b (rHN b lo hi k 30 0 = true)) [(h, .inr (2, [.ref e])), (e, .inl (cI, 30, .inl (kA b)))]) := by
  refine k_start (cc := b_Ro_hasNear) (maxL := 5) (ret := (some .boolean)) (by decide) rfl (Nat.le_of_ble_eq_true rfl) ?_
  intro p ev s m ar below meth c A ls Qf hQf hx hb hr hml hts hown hlocks hin hK hG hA hP hD hS hl
  replace hown : s.vm.findClass R_Ro = some m.cls := hown
  replace hl : lv_has ls 5 [(0, .ref h), (1, .int (zI ↑lo)), (2, .int (zI ↑hi)), (3, .int (zI k))] := hl
  have hkw : ∀ w ∈ kW, w.before ar s = true := fun w h => hts w (List.mem_cons_of_mem _ h)
  replace hP : va_P D k_cl ([(h, .inr (2, [.ref e])), (e, .inl (cI, 30, .inl (kA b)))]) s.heap := hP
  replace hD : va_D A ([(h, .inr (2, [.ref e])), (e, .inl (cI, 30, .inl (kA b)))]) := hD
  refine lv_iconst (v := zI 0) hx hb d_Ro_hasNear_0 (by decide) ?_
  refine lv_istore (lv' := [(4, .int (zI 0)), (0, .ref h), (1, .int (zI ↑lo)), (2, .int (zI ↑hi)), (3, .int (zI k))]) hx hb d_Ro_hasNear_1 hl (by decide) rfl ?_
  clear hl; intro ls hl
  have loop_3 : ∀ (n : Nat) (i : Nat), (i + n = 30) → (rHN b lo hi k n i = rHN b lo hi k 30 0) → ∀ (H : Heap) (locs : List Loc) (ls : Array Slot), va_P D k_cl ([(h, .inr (2, [.ref e])), (e, .inl (cI, 30, .inl (kA b)))]) H → va_D A ([(h, .inr (2, [.ref e])), (e, .inl (cI, 30, .inl (kA b)))]) → va_S A s.heap H locs → lv_has ls 5 [(0, .ref h), (1, .int (zI ↑lo)), (2, .int (zI ↑hi)), (3, .int (zI k)), (4, .int (zI ↑i))] → W p l ev rm_Row_hasNear s m ar below meth c H locs 0 0 Qf (F0 m 3 ls []) := by
    intro n
    induction n with
    | zero =>
      intro i hin hgo H locs ls hP hD hS hl
      refine lv_iload hx hb d_Ro_hasNear_3 (lv_at hl 4 rfl) ?_
      refine lv_bipush (v := zI 30) hx hb d_Ro_hasNear_5 (by decide) ?_
      refine k_icmp_ge (tgt := 52) hx hb d_Ro_hasNear_7 (by decide) ⟨by omega, by omega⟩ ⟨by omega, by omega⟩ (fun c_7 => ?_) (fun c_7 => ?_)
      · refine lv_iconst (v := zI 0) hx hb d_Ro_hasNear_52 (by decide) ?_
        rw [← hQf]
        exact k_zret hx hb hr hlocks hP hS (k_bf (by rw [← hgo]; simp [rHN])).symm d_Ro_hasNear_53
      · exfalso; omega
    | succ n ih_3 =>
      intro i hin hgo H locs ls hP hD hS hl
      refine lv_iload hx hb d_Ro_hasNear_3 (lv_at hl 4 rfl) ?_
      refine lv_bipush (v := zI 30) hx hb d_Ro_hasNear_5 (by decide) ?_
      refine k_icmp_ge (tgt := 52) hx hb d_Ro_hasNear_7 (by decide) ⟨by omega, by omega⟩ ⟨by omega, by omega⟩ (fun c_7 => ?_) (fun c_7 => ?_)
      · exfalso; omega
      · refine lv_aload_n hx hb d_Ro_hasNear_10 rfl (lv_at hl 0 rfl) ?_
        refine lv_iload hx hb d_Ro_hasNear_11 (lv_at hl 4 rfl) ?_
        refine k_beI (va_runV (As := [.int (zI ↑i)]) (rest := []) ⟨hx, hb, hml, hown, hkw⟩ (c_Row_beginsAt l D cI cR cG h e i b (by omega) hb30 _) (cwV 1 hkw (k_gV kw_methodLink_Ro_25 kw_instanceMethod_Ro_beginsAt kw_selects_Ro_beginsAt kw_initialized_Ro kw_code_Ro_beginsAt) rfl rfl rfl (by decide +kernel) ⟨(Nat.le_of_ble_eq_true rfl), (Nat.le_of_ble_eq_true rfl)⟩) (k_preV (q0 := 0) hK hG hP hD [0, 1] rfl rfl rfl rfl) rfl rfl hl.1 rfl (lv_room (Nat.le_of_ble_eq_true rfl)) d_Ro_hasNear_13 ⟨Nat.zero_le _, Nat.zero_le _⟩) hP hD hS hA [0, 1] rfl (Eq.trans (b := [h, e]) rfl rfl) ?_
        clear hP hD hS; intro H locs hP hD hS
        replace hP : va_P D k_cl ([(h, .inr (2, [.ref e])), (e, .inl (cI, 30, .inl (kA b)))]) H := hP
        replace hD : va_D A ([(h, .inr (2, [.ref e])), (e, .inl (cI, 30, .inl (kA b)))]) := hD
        refine k_bif_eq (tgt := 46) hx hb d_Ro_hasNear_16 (by decide) (fun c_16 => ?_) (fun c_16 => ?_)
        · refine k_iinc (v := ↑(i + 1)) (lv' := [(4, .int (zI (↑(i + 1)))), (0, .ref h), (1, .int (zI ↑lo)), (2, .int (zI ↑hi)), (3, .int (zI k))]) hx hb d_Ro_hasNear_46 hl (k := 4) rfl (by omega) (by decide) rfl ?_
          clear hl; intro ls hl
          refine lv_goto (tgt := 3) hx hb d_Ro_hasNear_49 (by decide) ?_
          exact ih_3 (i + 1) (by omega) (by rw [rHN] at hgo; (repeat' split at hgo); all_goals first | exact hgo | (exfalso; omega) | contradiction) _ _ _ hP hD hS (lv_sub hl [1, 2, 3, 4, 0] rfl)
        · refine lv_iload hx hb d_Ro_hasNear_19 (lv_at hl 4 rfl) ?_
          refine lv_iload_n hx hb d_Ro_hasNear_21 rfl (lv_at hl 2 rfl) ?_
          refine k_isub hx hb d_Ro_hasNear_22 rfl ?_
          refine lv_iconst (v := zI 1) hx hb d_Ro_hasNear_23 (by decide) ?_
          refine k_isub hx hb d_Ro_hasNear_24 rfl ?_
          refine lv_iload_n hx hb d_Ro_hasNear_25 rfl (lv_at hl 3 rfl) ?_
          refine k_icmp_gt (tgt := 46) hx hb d_Ro_hasNear_26 (by decide) ⟨by omega, by omega⟩ ⟨by omega, by omega⟩ (fun c_26 => ?_) (fun c_26 => ?_)
          · refine k_iinc (v := ↑(i + 1)) (lv' := [(4, .int (zI (↑(i + 1)))), (0, .ref h), (1, .int (zI ↑lo)), (2, .int (zI ↑hi)), (3, .int (zI k))]) hx hb d_Ro_hasNear_46 hl (k := 4) rfl (by omega) (by decide) rfl ?_
            clear hl; intro ls hl
            refine lv_goto (tgt := 3) hx hb d_Ro_hasNear_49 (by decide) ?_
            exact ih_3 (i + 1) (by omega) (by rw [rHN] at hgo; (repeat' split at hgo); all_goals first | exact hgo | (exfalso; omega) | contradiction) _ _ _ hP hD hS (lv_sub hl [1, 2, 3, 4, 0] rfl)
          · refine lv_iload_n hx hb d_Ro_hasNear_29 rfl (lv_at hl 1 rfl) ?_
            refine lv_aload_n hx hb d_Ro_hasNear_30 rfl (lv_at hl 0 rfl) ?_
            refine va_get (D := D) (ci := 2) (v := .ref e) (C := R_Ro) (T := T_Ro) (N := 1) hx hb hkw kin_Ro hown hK hP 0 rfl rfl 0 (by decide) (hkw _ kw_fieldLink_Ro_9) (fun _ h9 => h9) rfl d_Ro_hasNear_31 ?_
            refine lv_iload hx hb d_Ro_hasNear_34 (lv_at hl 4 rfl) ?_
            refine k_ald hx hb hK hP 1 0 rfl rfl (i := i) (by omega) (by omega) (by omega) d_Ro_hasNear_36 ?_
            have hv_1 := hb30 i
            refine k_isub hx hb d_Ro_hasNear_37 rfl ?_
            refine lv_iconst (v := zI 1) hx hb d_Ro_hasNear_38 (by decide) ?_
            refine k_isub hx hb d_Ro_hasNear_39 rfl ?_
            refine lv_iload_n hx hb d_Ro_hasNear_40 rfl (lv_at hl 3 rfl) ?_
            refine k_icmp_gt (tgt := 46) hx hb d_Ro_hasNear_41 (by decide) ⟨by omega, by omega⟩ ⟨by omega, by omega⟩ (fun c_41 => ?_) (fun c_41 => ?_)
            · refine k_iinc (v := ↑(i + 1)) (lv' := [(4, .int (zI (↑(i + 1)))), (0, .ref h), (1, .int (zI ↑lo)), (2, .int (zI ↑hi)), (3, .int (zI k))]) hx hb d_Ro_hasNear_46 hl (k := 4) rfl (by omega) (by decide) rfl ?_
              clear hl; intro ls hl
              refine lv_goto (tgt := 3) hx hb d_Ro_hasNear_49 (by decide) ?_
              exact ih_3 (i + 1) (by omega) (by rw [rHN] at hgo; (repeat' split at hgo); all_goals first | exact hgo | (exfalso; omega) | contradiction) _ _ _ hP hD hS (lv_sub hl [1, 2, 3, 4, 0] rfl)
            · refine lv_iconst (v := zI 1) hx hb d_Ro_hasNear_44 (by decide) ?_
              rw [← hQf]
              exact k_zret hx hb hr hlocks hP hS (k_bt (by rw [rHN] at hgo; (repeat' split at hgo); all_goals first | exact hgo.symm | (exfalso; omega))).symm d_Ro_hasNear_45
  exact loop_3 30 0 (by omega) rfl _ _ _ hP hD hS (lv_sub hl [1, 2, 3, 4, 0] rfl)

abbrev rm_Row_addBehind : Room := { frames := 3, cells := 0, slots := 0, locals := 67 }
set_option maxHeartbeats 4000000 in
set_option maxRecDepth 100000 in
theorem c_Row_addBehind (l : Launch) (D : va_G) (cI cR cG : ClassId) (h e ha ea hb2 eb k : Nat) (G0 a b : Nat → Nat) (hk : k ≤ 30) (hG0 : ∀ j, G0 j ≤ 30) (ha30 : ∀ j, a j ≤ 30) (hb30 : ∀ j, b j ≤ 30) : k_M l y_Ro_addBehind (.code y_Ro_addBehind b_Ro_addBehind 5 none :: kW) rm_Row_addBehind D k_cl (k_ty cI cR cG) [.ref h, .ref ha, .ref hb2, .int (zI ↑k)] ([(h, .inr (2, [.ref e])), (e, .inl (cI, 30, .inl (kA G0))), (ha, .inr (2, [.ref ea])), (ea, .inl (cI, 30, .inl (kA a))), (hb2, .inr (2, [.ref eb])), (eb, .inl (cI, 30, .inl (kA b)))]) (k_Qv D k_cl [(h, .inr (2, [.ref e])), (e, .inl (cI, 30, .inl (kA (rBehind a b k 30 0 G0)))), (ha, .inr (2, [.ref ea])), (ea, .inl (cI, 30, .inl (kA a))), (hb2, .inr (2, [.ref eb])), (eb, .inl (cI, 30, .inl (kA b)))]) := by
  refine k_start (cc := b_Ro_addBehind) (maxL := 5) (ret := none) (by decide) rfl (Nat.le_of_ble_eq_true rfl) ?_
  intro p ev s m ar below meth c A ls Qf hQf hx hb hr hml hts hown hlocks hin hK hG hA hP hD hS hl
  replace hown : s.vm.findClass R_Ro = some m.cls := hown
  replace hl : lv_has ls 5 [(0, .ref h), (1, .ref ha), (2, .ref hb2), (3, .int (zI ↑k))] := hl
  have hkw : ∀ w ∈ kW, w.before ar s = true := fun w h => hts w (List.mem_cons_of_mem _ h)
  replace hP : va_P D k_cl ([(h, .inr (2, [.ref e])), (e, .inl (cI, 30, .inl (kA G0))), (ha, .inr (2, [.ref ea])), (ea, .inl (cI, 30, .inl (kA a))), (hb2, .inr (2, [.ref eb])), (eb, .inl (cI, 30, .inl (kA b)))]) s.heap := hP
  replace hD : va_D A ([(h, .inr (2, [.ref e])), (e, .inl (cI, 30, .inl (kA G0))), (ha, .inr (2, [.ref ea])), (ea, .inl (cI, 30, .inl (kA a))), (hb2, .inr (2, [.ref eb])), (eb, .inl (cI, 30, .inl (kA b)))]) := hD
  refine lv_iconst (v := zI 0) hx hb d_Ro_addBehind_0 (by decide) ?_
  refine lv_istore (lv' := [(4, .int (zI 0)), (0, .ref h), (1, .ref ha), (2, .ref hb2), (3, .int (zI ↑k))]) hx hb d_Ro_addBehind_1 hl (by decide) rfl ?_
  clear hl; intro ls hl
  have loop_3 : ∀ (n : Nat) (i : Nat) (F : Nat → Nat), (i + n = 30) → (∀ j, F j ≤ 30) → (rBehind a b k n i F = rBehind a b k 30 0 G0) → ∀ (H : Heap) (locs : List Loc) (ls : Array Slot), va_P D k_cl ([(h, .inr (2, [.ref e])), (e, .inl (cI, 30, .inl (kA F))), (ha, .inr (2, [.ref ea])), (ea, .inl (cI, 30, .inl (kA a))), (hb2, .inr (2, [.ref eb])), (eb, .inl (cI, 30, .inl (kA b)))]) H → va_D A ([(h, .inr (2, [.ref e])), (e, .inl (cI, 30, .inl (kA F))), (ha, .inr (2, [.ref ea])), (ea, .inl (cI, 30, .inl (kA a))), (hb2, .inr (2, [.ref eb])), (eb, .inl (cI, 30, .inl (kA b)))]) → va_S A s.heap H locs → lv_has ls 5 [(0, .ref h), (1, .ref ha), (2, .ref hb2), (3, .int (zI ↑k)), (4, .int (zI ↑i))] → W p l ev rm_Row_addBehind s m ar below meth c H locs 0 0 Qf (F0 m 3 ls []) := by
    intro n
    induction n with
    | zero =>
      intro i F hin hF hgo H locs ls hP hD hS hl
      refine lv_iload hx hb d_Ro_addBehind_3 (lv_at hl 4 rfl) ?_
      refine lv_bipush (v := zI 30) hx hb d_Ro_addBehind_5 (by decide) ?_
      refine k_icmp_ge (tgt := 40) hx hb d_Ro_addBehind_7 (by decide) ⟨by omega, by omega⟩ ⟨by omega, by omega⟩ (fun c_7 => ?_) (fun c_7 => ?_)
      · rw [← hQf]
        have hP : va_P D k_cl [(h, .inr (2, [.ref e])), (e, .inl (cI, 30, .inl (kA (rBehind a b k 30 0 G0)))), (ha, .inr (2, [.ref ea])), (ea, .inl (cI, 30, .inl (kA a))), (hb2, .inr (2, [.ref eb])), (eb, .inl (cI, 30, .inl (kA b)))] H := by
          rw [show rBehind a b k 30 0 G0 = F from hgo.symm]
          exact hP
        exact k_vret hx hb hr hlocks hP hS d_Ro_addBehind_40
      · exfalso; omega
    | succ n ih_3 =>
      intro i F hin hF hgo H locs ls hP hD hS hl
      refine lv_iload hx hb d_Ro_addBehind_3 (lv_at hl 4 rfl) ?_
      refine lv_bipush (v := zI 30) hx hb d_Ro_addBehind_5 (by decide) ?_
      refine k_icmp_ge (tgt := 40) hx hb d_Ro_addBehind_7 (by decide) ⟨by omega, by omega⟩ ⟨by omega, by omega⟩ (fun c_7 => ?_) (fun c_7 => ?_)
      · exfalso; omega
      · refine lv_aload_n hx hb d_Ro_addBehind_10 rfl (lv_at hl 1 rfl) ?_
        refine lv_iload hx hb d_Ro_addBehind_11 (lv_at hl 4 rfl) ?_
        refine k_beI (va_runV (As := [.int (zI ↑i)]) (rest := []) ⟨hx, hb, hml, hown, hkw⟩ (c_Row_beginsAt l D cI cR cG ha ea i a (by omega) ha30 _) (cwV 1 hkw (k_gV kw_methodLink_Ro_25 kw_instanceMethod_Ro_beginsAt kw_selects_Ro_beginsAt kw_initialized_Ro kw_code_Ro_beginsAt) rfl rfl rfl (by decide +kernel) ⟨(Nat.le_of_ble_eq_true rfl), (Nat.le_of_ble_eq_true rfl)⟩) (k_preV (q0 := 0) hK hG hP hD [2, 3] rfl rfl rfl rfl) rfl rfl hl.1 rfl (lv_room (Nat.le_of_ble_eq_true rfl)) d_Ro_addBehind_13 ⟨Nat.zero_le _, Nat.zero_le _⟩) hP hD hS hA [2, 3] rfl (Eq.trans (b := [ha, ea]) rfl rfl) ?_
        clear hP hD hS; intro H locs hP hD hS
        replace hP : va_P D k_cl ([(h, .inr (2, [.ref e])), (e, .inl (cI, 30, .inl (kA F))), (ha, .inr (2, [.ref ea])), (ea, .inl (cI, 30, .inl (kA a))), (hb2, .inr (2, [.ref eb])), (eb, .inl (cI, 30, .inl (kA b)))]) H := hP
        replace hD : va_D A ([(h, .inr (2, [.ref e])), (e, .inl (cI, 30, .inl (kA F))), (ha, .inr (2, [.ref ea])), (ea, .inl (cI, 30, .inl (kA a))), (hb2, .inr (2, [.ref eb])), (eb, .inl (cI, 30, .inl (kA b)))]) := hD
        refine k_bif_eq (tgt := 34) hx hb d_Ro_addBehind_16 (by decide) (fun c_16 => ?_) (fun c_16 => ?_)
        · refine k_iinc (v := ↑(i + 1)) (lv' := [(4, .int (zI (↑(i + 1)))), (0, .ref h), (1, .ref ha), (2, .ref hb2), (3, .int (zI ↑k))]) hx hb d_Ro_addBehind_34 hl (k := 4) rfl (by omega) (by decide) rfl ?_
          clear hl; intro ls hl
          refine lv_goto (tgt := 3) hx hb d_Ro_addBehind_37 (by decide) ?_
          exact ih_3 (i + 1) F (by omega) hF (by rw [rBehind] at hgo; (repeat' split at hgo); all_goals first | exact hgo | (exfalso; omega) | contradiction) _ _ _ hP hD hS (lv_sub hl [1, 2, 3, 4, 0] rfl)
        · refine lv_aload_n hx hb d_Ro_addBehind_19 rfl (lv_at hl 0 rfl) ?_
          refine lv_iload hx hb d_Ro_addBehind_20 (lv_at hl 4 rfl) ?_
          refine lv_aload_n hx hb d_Ro_addBehind_22 rfl (lv_at hl 1 rfl) ?_
          refine va_get (D := D) (ci := 2) (v := .ref ea) (C := R_Ro) (T := T_Ro) (N := 1) hx hb hkw kin_Ro hown hK hP 2 rfl rfl 0 (by decide) (hkw _ kw_fieldLink_Ro_9) (fun _ h9 => h9) rfl d_Ro_addBehind_23 ?_
          refine lv_iload hx hb d_Ro_addBehind_26 (lv_at hl 4 rfl) ?_
          refine k_ald hx hb hK hP 3 0 rfl rfl (i := i) (by omega) (by omega) (by omega) d_Ro_addBehind_28 ?_
          have hv_1 := ha30 i
          refine lv_aload_n hx hb d_Ro_addBehind_29 rfl (lv_at hl 2 rfl) ?_
          refine lv_iload_n hx hb d_Ro_addBehind_30 rfl (lv_at hl 3 rfl) ?_
          refine k_beV (va_runV (As := [.int (zI ↑i), .int (zI (↑(a i))), .ref hb2, .int (zI ↑k)]) (rest := []) ⟨hx, hb, hml, hown, hkw⟩ (c_Row_addBehindOne l D cI cR cG h e hb2 eb i (a i) k F b (by omega) (by omega) (by omega) hF hb30 _) (cwV 4 hkw (k_gV kw_methodLink_Ro_46 kw_instanceMethod_Ro_addBehindOne kw_selects_Ro_addBehindOne kw_initialized_Ro kw_code_Ro_addBehindOne) rfl rfl rfl (by decide +kernel) ⟨(Nat.le_of_ble_eq_true rfl), (Nat.le_of_ble_eq_true rfl)⟩) (k_preV (q0 := 0) hK hG hP hD [0, 1, 4, 5] rfl rfl rfl rfl) rfl rfl hl.1 rfl (lv_room (Nat.le_of_ble_eq_true rfl)) d_Ro_addBehind_31 ⟨Nat.zero_le _, Nat.zero_le _⟩) hP hD hS hA [0, 1, 4, 5] rfl (Eq.trans (b := [h, e, hb2, eb]) rfl rfl) ?_
          clear hP hD hS; intro H locs hP hD hS
          replace hP : va_P D k_cl ([(h, .inr (2, [.ref e])), (e, .inl (cI, 30, .inl (kA (rBehind1 b i (a i) k (29 - (a i)) ((a i) + 1) F)))), (ha, .inr (2, [.ref ea])), (ea, .inl (cI, 30, .inl (kA a))), (hb2, .inr (2, [.ref eb])), (eb, .inl (cI, 30, .inl (kA b)))]) H := hP
          replace hD : va_D A ([(h, .inr (2, [.ref e])), (e, .inl (cI, 30, .inl (kA (rBehind1 b i (a i) k (29 - (a i)) ((a i) + 1) F)))), (ha, .inr (2, [.ref ea])), (ea, .inl (cI, 30, .inl (kA a))), (hb2, .inr (2, [.ref eb])), (eb, .inl (cI, 30, .inl (kA b)))]) := hD
          refine k_iinc (v := ↑(i + 1)) (lv' := [(4, .int (zI (↑(i + 1)))), (0, .ref h), (1, .ref ha), (2, .ref hb2), (3, .int (zI ↑k))]) hx hb d_Ro_addBehind_34 hl (k := 4) rfl (by omega) (by decide) rfl ?_
          clear hl; intro ls hl
          refine lv_goto (tgt := 3) hx hb d_Ro_addBehind_37 (by decide) ?_
          exact ih_3 (i + 1) (rBehind1 b i (a i) k (29 - (a i)) ((a i) + 1) F) (by omega) (r_bd_rBehind1 hF hb30) (by rw [rBehind] at hgo; (repeat' split at hgo); all_goals first | exact hgo | (exfalso; omega) | contradiction) _ _ _ hP hD hS (lv_sub hl [1, 2, 3, 4, 0] rfl)
  exact loop_3 30 0 G0 (by omega) hG0 rfl _ _ _ hP hD hS (lv_sub hl [1, 2, 3, 4, 0] rfl)

abbrev rm_Row_addBoth : Room := { frames := 3, cells := 0, slots := 0, locals := 69 }
set_option maxHeartbeats 4000000 in
set_option maxRecDepth 100000 in
theorem c_Row_addBoth (l : Launch) (D : va_G) (cI cR cG : ClassId) (h e ha ea hb2 eb k : Nat) (G0 a b : Nat → Nat) (hk : k ≤ 30) (hG0 : ∀ j, G0 j ≤ 30) (ha30 : ∀ j, a j ≤ 30) (hb30 : ∀ j, b j ≤ 30) : k_M l y_Ro_addBoth (.code y_Ro_addBoth b_Ro_addBoth 5 none :: kW) rm_Row_addBoth D k_cl (k_ty cI cR cG) [.ref h, .ref ha, .ref hb2, .int (zI ↑k)] ([(h, .inr (2, [.ref e])), (e, .inl (cI, 30, .inl (kA G0))), (ha, .inr (2, [.ref ea])), (ea, .inl (cI, 30, .inl (kA a))), (hb2, .inr (2, [.ref eb])), (eb, .inl (cI, 30, .inl (kA b)))]) (k_Qv D k_cl [(h, .inr (2, [.ref e])), (e, .inl (cI, 30, .inl (kA (rBoth a b k 30 0 G0)))), (ha, .inr (2, [.ref ea])), (ea, .inl (cI, 30, .inl (kA a))), (hb2, .inr (2, [.ref eb])), (eb, .inl (cI, 30, .inl (kA b)))]) := by
  refine k_start (cc := b_Ro_addBoth) (maxL := 5) (ret := none) (by decide) rfl (Nat.le_of_ble_eq_true rfl) ?_
  intro p ev s m ar below meth c A ls Qf hQf hx hb hr hml hts hown hlocks hin hK hG hA hP hD hS hl
  replace hown : s.vm.findClass R_Ro = some m.cls := hown
  replace hl : lv_has ls 5 [(0, .ref h), (1, .ref ha), (2, .ref hb2), (3, .int (zI ↑k))] := hl
  have hkw : ∀ w ∈ kW, w.before ar s = true := fun w h => hts w (List.mem_cons_of_mem _ h)
  replace hP : va_P D k_cl ([(h, .inr (2, [.ref e])), (e, .inl (cI, 30, .inl (kA G0))), (ha, .inr (2, [.ref ea])), (ea, .inl (cI, 30, .inl (kA a))), (hb2, .inr (2, [.ref eb])), (eb, .inl (cI, 30, .inl (kA b)))]) s.heap := hP
  replace hD : va_D A ([(h, .inr (2, [.ref e])), (e, .inl (cI, 30, .inl (kA G0))), (ha, .inr (2, [.ref ea])), (ea, .inl (cI, 30, .inl (kA a))), (hb2, .inr (2, [.ref eb])), (eb, .inl (cI, 30, .inl (kA b)))]) := hD
  refine lv_iconst (v := zI 0) hx hb d_Ro_addBoth_0 (by decide) ?_
  refine lv_istore (lv' := [(4, .int (zI 0)), (0, .ref h), (1, .ref ha), (2, .ref hb2), (3, .int (zI ↑k))]) hx hb d_Ro_addBoth_1 hl (by decide) rfl ?_
  clear hl; intro ls hl
  have loop_3 : ∀ (n : Nat) (i : Nat) (F : Nat → Nat), (i + n = 30) → (∀ j, F j ≤ 30) → (rBoth a b k n i F = rBoth a b k 30 0 G0) → ∀ (H : Heap) (locs : List Loc) (ls : Array Slot), va_P D k_cl ([(h, .inr (2, [.ref e])), (e, .inl (cI, 30, .inl (kA F))), (ha, .inr (2, [.ref ea])), (ea, .inl (cI, 30, .inl (kA a))), (hb2, .inr (2, [.ref eb])), (eb, .inl (cI, 30, .inl (kA b)))]) H → va_D A ([(h, .inr (2, [.ref e])), (e, .inl (cI, 30, .inl (kA F))), (ha, .inr (2, [.ref ea])), (ea, .inl (cI, 30, .inl (kA a))), (hb2, .inr (2, [.ref eb])), (eb, .inl (cI, 30, .inl (kA b)))]) → va_S A s.heap H locs → lv_has ls 5 [(0, .ref h), (1, .ref ha), (2, .ref hb2), (3, .int (zI ↑k)), (4, .int (zI ↑i))] → W p l ev rm_Row_addBoth s m ar below meth c H locs 0 0 Qf (F0 m 3 ls []) := by
    intro n
    induction n with
    | zero =>
      intro i F hin hF hgo H locs ls hP hD hS hl
      refine lv_iload hx hb d_Ro_addBoth_3 (lv_at hl 4 rfl) ?_
      refine lv_bipush (v := zI 30) hx hb d_Ro_addBoth_5 (by decide) ?_
      refine k_icmp_ge (tgt := 40) hx hb d_Ro_addBoth_7 (by decide) ⟨by omega, by omega⟩ ⟨by omega, by omega⟩ (fun c_7 => ?_) (fun c_7 => ?_)
      · rw [← hQf]
        have hP : va_P D k_cl [(h, .inr (2, [.ref e])), (e, .inl (cI, 30, .inl (kA (rBoth a b k 30 0 G0)))), (ha, .inr (2, [.ref ea])), (ea, .inl (cI, 30, .inl (kA a))), (hb2, .inr (2, [.ref eb])), (eb, .inl (cI, 30, .inl (kA b)))] H := by
          rw [show rBoth a b k 30 0 G0 = F from hgo.symm]
          exact hP
        exact k_vret hx hb hr hlocks hP hS d_Ro_addBoth_40
      · exfalso; omega
    | succ n ih_3 =>
      intro i F hin hF hgo H locs ls hP hD hS hl
      refine lv_iload hx hb d_Ro_addBoth_3 (lv_at hl 4 rfl) ?_
      refine lv_bipush (v := zI 30) hx hb d_Ro_addBoth_5 (by decide) ?_
      refine k_icmp_ge (tgt := 40) hx hb d_Ro_addBoth_7 (by decide) ⟨by omega, by omega⟩ ⟨by omega, by omega⟩ (fun c_7 => ?_) (fun c_7 => ?_)
      · exfalso; omega
      · refine lv_aload_n hx hb d_Ro_addBoth_10 rfl (lv_at hl 1 rfl) ?_
        refine lv_iload hx hb d_Ro_addBoth_11 (lv_at hl 4 rfl) ?_
        refine k_beI (va_runV (As := [.int (zI ↑i)]) (rest := []) ⟨hx, hb, hml, hown, hkw⟩ (c_Row_beginsAt l D cI cR cG ha ea i a (by omega) ha30 _) (cwV 1 hkw (k_gV kw_methodLink_Ro_25 kw_instanceMethod_Ro_beginsAt kw_selects_Ro_beginsAt kw_initialized_Ro kw_code_Ro_beginsAt) rfl rfl rfl (by decide +kernel) ⟨(Nat.le_of_ble_eq_true rfl), (Nat.le_of_ble_eq_true rfl)⟩) (k_preV (q0 := 0) hK hG hP hD [2, 3] rfl rfl rfl rfl) rfl rfl hl.1 rfl (lv_room (Nat.le_of_ble_eq_true rfl)) d_Ro_addBoth_13 ⟨Nat.zero_le _, Nat.zero_le _⟩) hP hD hS hA [2, 3] rfl (Eq.trans (b := [ha, ea]) rfl rfl) ?_
        clear hP hD hS; intro H locs hP hD hS
        replace hP : va_P D k_cl ([(h, .inr (2, [.ref e])), (e, .inl (cI, 30, .inl (kA F))), (ha, .inr (2, [.ref ea])), (ea, .inl (cI, 30, .inl (kA a))), (hb2, .inr (2, [.ref eb])), (eb, .inl (cI, 30, .inl (kA b)))]) H := hP
        replace hD : va_D A ([(h, .inr (2, [.ref e])), (e, .inl (cI, 30, .inl (kA F))), (ha, .inr (2, [.ref ea])), (ea, .inl (cI, 30, .inl (kA a))), (hb2, .inr (2, [.ref eb])), (eb, .inl (cI, 30, .inl (kA b)))]) := hD
        refine k_bif_eq (tgt := 34) hx hb d_Ro_addBoth_16 (by decide) (fun c_16 => ?_) (fun c_16 => ?_)
        · refine k_iinc (v := ↑(i + 1)) (lv' := [(4, .int (zI (↑(i + 1)))), (0, .ref h), (1, .ref ha), (2, .ref hb2), (3, .int (zI ↑k))]) hx hb d_Ro_addBoth_34 hl (k := 4) rfl (by omega) (by decide) rfl ?_
          clear hl; intro ls hl
          refine lv_goto (tgt := 3) hx hb d_Ro_addBoth_37 (by decide) ?_
          exact ih_3 (i + 1) F (by omega) hF (by rw [rBoth] at hgo; (repeat' split at hgo); all_goals first | exact hgo | (exfalso; omega) | contradiction) _ _ _ hP hD hS (lv_sub hl [1, 2, 3, 4, 0] rfl)
        · refine lv_aload_n hx hb d_Ro_addBoth_19 rfl (lv_at hl 0 rfl) ?_
          refine lv_iload hx hb d_Ro_addBoth_20 (lv_at hl 4 rfl) ?_
          refine lv_aload_n hx hb d_Ro_addBoth_22 rfl (lv_at hl 1 rfl) ?_
          refine va_get (D := D) (ci := 2) (v := .ref ea) (C := R_Ro) (T := T_Ro) (N := 1) hx hb hkw kin_Ro hown hK hP 2 rfl rfl 0 (by decide) (hkw _ kw_fieldLink_Ro_9) (fun _ h9 => h9) rfl d_Ro_addBoth_23 ?_
          refine lv_iload hx hb d_Ro_addBoth_26 (lv_at hl 4 rfl) ?_
          refine k_ald hx hb hK hP 3 0 rfl rfl (i := i) (by omega) (by omega) (by omega) d_Ro_addBoth_28 ?_
          have hv_1 := ha30 i
          refine lv_aload_n hx hb d_Ro_addBoth_29 rfl (lv_at hl 2 rfl) ?_
          refine lv_iload_n hx hb d_Ro_addBoth_30 rfl (lv_at hl 3 rfl) ?_
          refine k_beV (va_runV (As := [.int (zI ↑i), .int (zI (↑(a i))), .ref hb2, .int (zI ↑k)]) (rest := []) ⟨hx, hb, hml, hown, hkw⟩ (c_Row_addBothOfOne l D cI cR cG h e hb2 eb i (a i) k F b (by omega) (by omega) (by omega) hF hb30 _) (cwV 4 hkw (k_gV kw_methodLink_Ro_50 kw_instanceMethod_Ro_addBothOfOne kw_selects_Ro_addBothOfOne kw_initialized_Ro kw_code_Ro_addBothOfOne) rfl rfl rfl (by decide +kernel) ⟨(Nat.le_of_ble_eq_true rfl), (Nat.le_of_ble_eq_true rfl)⟩) (k_preV (q0 := 0) hK hG hP hD [0, 1, 4, 5] rfl rfl rfl rfl) rfl rfl hl.1 rfl (lv_room (Nat.le_of_ble_eq_true rfl)) d_Ro_addBoth_31 ⟨Nat.zero_le _, Nat.zero_le _⟩) hP hD hS hA [0, 1, 4, 5] rfl (Eq.trans (b := [h, e, hb2, eb]) rfl rfl) ?_
          clear hP hD hS; intro H locs hP hD hS
          replace hP : va_P D k_cl ([(h, .inr (2, [.ref e])), (e, .inl (cI, 30, .inl (kA (rBoth1 b i (a i) k 30 0 F)))), (ha, .inr (2, [.ref ea])), (ea, .inl (cI, 30, .inl (kA a))), (hb2, .inr (2, [.ref eb])), (eb, .inl (cI, 30, .inl (kA b)))]) H := hP
          replace hD : va_D A ([(h, .inr (2, [.ref e])), (e, .inl (cI, 30, .inl (kA (rBoth1 b i (a i) k 30 0 F)))), (ha, .inr (2, [.ref ea])), (ea, .inl (cI, 30, .inl (kA a))), (hb2, .inr (2, [.ref eb])), (eb, .inl (cI, 30, .inl (kA b)))]) := hD
          refine k_iinc (v := ↑(i + 1)) (lv' := [(4, .int (zI (↑(i + 1)))), (0, .ref h), (1, .ref ha), (2, .ref hb2), (3, .int (zI ↑k))]) hx hb d_Ro_addBoth_34 hl (k := 4) rfl (by omega) (by decide) rfl ?_
          clear hl; intro ls hl
          refine lv_goto (tgt := 3) hx hb d_Ro_addBoth_37 (by decide) ?_
          exact ih_3 (i + 1) (rBoth1 b i (a i) k 30 0 F) (by omega) (r_bd_rBoth1 hF hb30 (by omega)) (by rw [rBoth] at hgo; (repeat' split at hgo); all_goals first | exact hgo | (exfalso; omega) | contradiction) _ _ _ hP hD hS (lv_sub hl [1, 2, 3, 4, 0] rfl)
  exact loop_3 30 0 G0 (by omega) hG0 rfl _ _ _ hP hD hS (lv_sub hl [1, 2, 3, 4, 0] rfl)

abbrev rm_Row_addHolding : Room := { frames := 3, cells := 0, slots := 0, locals := 64 }
set_option maxHeartbeats 4000000 in
set_option maxRecDepth 100000 in
theorem c_Row_addHolding (l : Launch) (D : va_G) (cI cR cG : ClassId) (h e ha ea hb2 eb : Nat) (G0 a b : Nat → Nat) (hG0 : ∀ j, G0 j ≤ 30) (ha30 : ∀ j, a j ≤ 30) (hb30 : ∀ j, b j ≤ 30) : k_M l y_Ro_addHolding (.code y_Ro_addHolding b_Ro_addHolding 4 none :: kW) rm_Row_addHolding D k_cl (k_ty cI cR cG) [.ref h, .ref ha, .ref hb2] ([(h, .inr (2, [.ref e])), (e, .inl (cI, 30, .inl (kA G0))), (ha, .inr (2, [.ref ea])), (ea, .inl (cI, 30, .inl (kA a))), (hb2, .inr (2, [.ref eb])), (eb, .inl (cI, 30, .inl (kA b)))]) (k_Qv D k_cl [(h, .inr (2, [.ref e])), (e, .inl (cI, 30, .inl (kA (rHolding a b 30 0 G0)))), (ha, .inr (2, [.ref ea])), (ea, .inl (cI, 30, .inl (kA a))), (hb2, .inr (2, [.ref eb])), (eb, .inl (cI, 30, .inl (kA b)))]) := by
  refine k_start (cc := b_Ro_addHolding) (maxL := 4) (ret := none) (by decide) rfl (Nat.le_of_ble_eq_true rfl) ?_
  intro p ev s m ar below meth c A ls Qf hQf hx hb hr hml hts hown hlocks hin hK hG hA hP hD hS hl
  replace hown : s.vm.findClass R_Ro = some m.cls := hown
  replace hl : lv_has ls 4 [(0, .ref h), (1, .ref ha), (2, .ref hb2)] := hl
  have hkw : ∀ w ∈ kW, w.before ar s = true := fun w h => hts w (List.mem_cons_of_mem _ h)
  replace hP : va_P D k_cl ([(h, .inr (2, [.ref e])), (e, .inl (cI, 30, .inl (kA G0))), (ha, .inr (2, [.ref ea])), (ea, .inl (cI, 30, .inl (kA a))), (hb2, .inr (2, [.ref eb])), (eb, .inl (cI, 30, .inl (kA b)))]) s.heap := hP
  replace hD : va_D A ([(h, .inr (2, [.ref e])), (e, .inl (cI, 30, .inl (kA G0))), (ha, .inr (2, [.ref ea])), (ea, .inl (cI, 30, .inl (kA a))), (hb2, .inr (2, [.ref eb])), (eb, .inl (cI, 30, .inl (kA b)))]) := hD
  refine lv_iconst (v := zI 0) hx hb d_Ro_addHolding_0 (by decide) ?_
  refine lv_istore_n (lv' := [(3, .int (zI 0)), (0, .ref h), (1, .ref ha), (2, .ref hb2)]) hx hb d_Ro_addHolding_1 rfl hl (by decide) rfl ?_
  clear hl; intro ls hl
  have loop_2 : ∀ (n : Nat) (i : Nat) (F : Nat → Nat), (i + n = 30) → (∀ j, F j ≤ 30) → (rHolding a b n i F = rHolding a b 30 0 G0) → ∀ (H : Heap) (locs : List Loc) (ls : Array Slot), va_P D k_cl ([(h, .inr (2, [.ref e])), (e, .inl (cI, 30, .inl (kA F))), (ha, .inr (2, [.ref ea])), (ea, .inl (cI, 30, .inl (kA a))), (hb2, .inr (2, [.ref eb])), (eb, .inl (cI, 30, .inl (kA b)))]) H → va_D A ([(h, .inr (2, [.ref e])), (e, .inl (cI, 30, .inl (kA F))), (ha, .inr (2, [.ref ea])), (ea, .inl (cI, 30, .inl (kA a))), (hb2, .inr (2, [.ref eb])), (eb, .inl (cI, 30, .inl (kA b)))]) → va_S A s.heap H locs → lv_has ls 4 [(0, .ref h), (1, .ref ha), (2, .ref hb2), (3, .int (zI ↑i))] → W p l ev rm_Row_addHolding s m ar below meth c H locs 0 0 Qf (F0 m 2 ls []) := by
    intro n
    induction n with
    | zero =>
      intro i F hin hF hgo H locs ls hP hD hS hl
      refine lv_iload_n hx hb d_Ro_addHolding_2 rfl (lv_at hl 3 rfl) ?_
      refine lv_bipush (v := zI 30) hx hb d_Ro_addHolding_3 (by decide) ?_
      refine k_icmp_ge (tgt := 47) hx hb d_Ro_addHolding_5 (by decide) ⟨by omega, by omega⟩ ⟨by omega, by omega⟩ (fun c_5 => ?_) (fun c_5 => ?_)
      · rw [← hQf]
        have hP : va_P D k_cl [(h, .inr (2, [.ref e])), (e, .inl (cI, 30, .inl (kA (rHolding a b 30 0 G0)))), (ha, .inr (2, [.ref ea])), (ea, .inl (cI, 30, .inl (kA a))), (hb2, .inr (2, [.ref eb])), (eb, .inl (cI, 30, .inl (kA b)))] H := by
          rw [show rHolding a b 30 0 G0 = F from hgo.symm]
          exact hP
        exact k_vret hx hb hr hlocks hP hS d_Ro_addHolding_47
      · exfalso; omega
    | succ n ih_2 =>
      intro i F hin hF hgo H locs ls hP hD hS hl
      refine lv_iload_n hx hb d_Ro_addHolding_2 rfl (lv_at hl 3 rfl) ?_
      refine lv_bipush (v := zI 30) hx hb d_Ro_addHolding_3 (by decide) ?_
      refine k_icmp_ge (tgt := 47) hx hb d_Ro_addHolding_5 (by decide) ⟨by omega, by omega⟩ ⟨by omega, by omega⟩ (fun c_5 => ?_) (fun c_5 => ?_)
      · exfalso; omega
      · refine lv_aload_n hx hb d_Ro_addHolding_8 rfl (lv_at hl 1 rfl) ?_
        refine lv_iload_n hx hb d_Ro_addHolding_9 rfl (lv_at hl 3 rfl) ?_
        refine k_beI (va_runV (As := [.int (zI ↑i)]) (rest := []) ⟨hx, hb, hml, hown, hkw⟩ (c_Row_beginsAt l D cI cR cG ha ea i a (by omega) ha30 _) (cwV 1 hkw (k_gV kw_methodLink_Ro_25 kw_instanceMethod_Ro_beginsAt kw_selects_Ro_beginsAt kw_initialized_Ro kw_code_Ro_beginsAt) rfl rfl rfl (by decide +kernel) ⟨(Nat.le_of_ble_eq_true rfl), (Nat.le_of_ble_eq_true rfl)⟩) (k_preV (q0 := 0) hK hG hP hD [2, 3] rfl rfl rfl rfl) rfl rfl hl.1 rfl (lv_room (Nat.le_of_ble_eq_true rfl)) d_Ro_addHolding_10 ⟨Nat.zero_le _, Nat.zero_le _⟩) hP hD hS hA [2, 3] rfl (Eq.trans (b := [ha, ea]) rfl rfl) ?_
        clear hP hD hS; intro H locs hP hD hS
        replace hP : va_P D k_cl ([(h, .inr (2, [.ref e])), (e, .inl (cI, 30, .inl (kA F))), (ha, .inr (2, [.ref ea])), (ea, .inl (cI, 30, .inl (kA a))), (hb2, .inr (2, [.ref eb])), (eb, .inl (cI, 30, .inl (kA b)))]) H := hP
        replace hD : va_D A ([(h, .inr (2, [.ref e])), (e, .inl (cI, 30, .inl (kA F))), (ha, .inr (2, [.ref ea])), (ea, .inl (cI, 30, .inl (kA a))), (hb2, .inr (2, [.ref eb])), (eb, .inl (cI, 30, .inl (kA b)))]) := hD
        refine k_bif_eq (tgt := 41) hx hb d_Ro_addHolding_13 (by decide) (fun c_13 => ?_) (fun c_13 => ?_)
        · refine k_iinc (v := ↑(i + 1)) (lv' := [(3, .int (zI (↑(i + 1)))), (0, .ref h), (1, .ref ha), (2, .ref hb2)]) hx hb d_Ro_addHolding_41 hl (k := 3) rfl (by omega) (by decide) rfl ?_
          clear hl; intro ls hl
          refine lv_goto (tgt := 2) hx hb d_Ro_addHolding_44 (by decide) ?_
          exact ih_2 (i + 1) F (by omega) hF (by rw [rHolding] at hgo; (repeat' split at hgo); all_goals first | exact hgo | (exfalso; omega) | contradiction) _ _ _ hP hD hS (lv_sub hl [1, 2, 3, 0] rfl)
        · refine lv_aload_n hx hb d_Ro_addHolding_16 rfl (lv_at hl 2 rfl) ?_
          refine lv_iload_n hx hb d_Ro_addHolding_17 rfl (lv_at hl 3 rfl) ?_
          refine lv_aload_n hx hb d_Ro_addHolding_18 rfl (lv_at hl 1 rfl) ?_
          refine va_get (D := D) (ci := 2) (v := .ref ea) (C := R_Ro) (T := T_Ro) (N := 1) hx hb hkw kin_Ro hown hK hP 2 rfl rfl 0 (by decide) (hkw _ kw_fieldLink_Ro_9) (fun _ h9 => h9) rfl d_Ro_addHolding_19 ?_
          refine lv_iload_n hx hb d_Ro_addHolding_22 rfl (lv_at hl 3 rfl) ?_
          refine k_ald hx hb hK hP 3 0 rfl rfl (i := i) (by omega) (by omega) (by omega) d_Ro_addHolding_23 ?_
          have hv_1 := ha30 i
          refine k_beI (va_runV (As := [.int (zI ↑i), .int (zI (↑(a i)))]) (rest := []) ⟨hx, hb, hml, hown, hkw⟩ (c_Row_hasWithin l D cI cR cG hb2 eb i (a i) b (by omega) (by omega) hb30 _) (cwV 2 hkw (k_gV kw_methodLink_Ro_56 kw_instanceMethod_Ro_hasWithin kw_selects_Ro_hasWithin kw_initialized_Ro kw_code_Ro_hasWithin) rfl rfl rfl (by decide +kernel) ⟨(Nat.le_of_ble_eq_true rfl), (Nat.le_of_ble_eq_true rfl)⟩) (k_preV (q0 := 0) hK hG hP hD [4, 5] rfl rfl rfl rfl) rfl rfl hl.1 rfl (lv_room (Nat.le_of_ble_eq_true rfl)) d_Ro_addHolding_24 ⟨Nat.zero_le _, Nat.zero_le _⟩) hP hD hS hA [4, 5] rfl (Eq.trans (b := [hb2, eb]) rfl rfl) ?_
          clear hP hD hS; intro H locs hP hD hS
          replace hP : va_P D k_cl ([(h, .inr (2, [.ref e])), (e, .inl (cI, 30, .inl (kA F))), (ha, .inr (2, [.ref ea])), (ea, .inl (cI, 30, .inl (kA a))), (hb2, .inr (2, [.ref eb])), (eb, .inl (cI, 30, .inl (kA b)))]) H := hP
          replace hD : va_D A ([(h, .inr (2, [.ref e])), (e, .inl (cI, 30, .inl (kA F))), (ha, .inr (2, [.ref ea])), (ea, .inl (cI, 30, .inl (kA a))), (hb2, .inr (2, [.ref eb])), (eb, .inl (cI, 30, .inl (kA b)))]) := hD
          refine k_bif_eq (tgt := 41) hx hb d_Ro_addHolding_27 (by decide) (fun c_27 => ?_) (fun c_27 => ?_)
          · refine k_iinc (v := ↑(i + 1)) (lv' := [(3, .int (zI (↑(i + 1)))), (0, .ref h), (1, .ref ha), (2, .ref hb2)]) hx hb d_Ro_addHolding_41 hl (k := 3) rfl (by omega) (by decide) rfl ?_
            clear hl; intro ls hl
            refine lv_goto (tgt := 2) hx hb d_Ro_addHolding_44 (by decide) ?_
            exact ih_2 (i + 1) F (by omega) hF (by rw [rHolding] at hgo; (repeat' split at hgo); all_goals first | exact hgo | (exfalso; omega) | contradiction) _ _ _ hP hD hS (lv_sub hl [1, 2, 3, 0] rfl)
          · refine lv_aload_n hx hb d_Ro_addHolding_30 rfl (lv_at hl 0 rfl) ?_
            refine lv_iload_n hx hb d_Ro_addHolding_31 rfl (lv_at hl 3 rfl) ?_
            refine lv_aload_n hx hb d_Ro_addHolding_32 rfl (lv_at hl 1 rfl) ?_
            refine va_get (D := D) (ci := 2) (v := .ref ea) (C := R_Ro) (T := T_Ro) (N := 1) hx hb hkw kin_Ro hown hK hP 2 rfl rfl 0 (by decide) (hkw _ kw_fieldLink_Ro_9) (fun _ h9 => h9) rfl d_Ro_addHolding_33 ?_
            refine lv_iload_n hx hb d_Ro_addHolding_36 rfl (lv_at hl 3 rfl) ?_
            refine k_ald hx hb hK hP 3 0 rfl rfl (i := i) (by omega) (by omega) (by omega) d_Ro_addHolding_37 ?_
            have hv_2 := ha30 i
            refine k_beV (va_runV (As := [.int (zI ↑i), .int (zI (↑(a i)))]) (rest := []) ⟨hx, hb, hml, hown, hkw⟩ (c_Row_add l D cI cR cG h e i (a i) F (by omega) (by omega) hF _) (cwV 2 hkw (k_gV kw_methodLink_Ro_38 kw_instanceMethod_Ro_add kw_selects_Ro_add kw_initialized_Ro kw_code_Ro_add) rfl rfl rfl (by decide +kernel) ⟨(Nat.le_of_ble_eq_true rfl), (Nat.le_of_ble_eq_true rfl)⟩) (k_preV (q0 := 0) hK hG hP hD [0, 1] rfl rfl rfl rfl) rfl rfl hl.1 rfl (lv_room (Nat.le_of_ble_eq_true rfl)) d_Ro_addHolding_38 ⟨Nat.zero_le _, Nat.zero_le _⟩) hP hD hS hA [0, 1] rfl (Eq.trans (b := [h, e]) rfl rfl) ?_
            clear hP hD hS; intro H locs hP hD hS
            replace hP : va_P D k_cl ([(h, .inr (2, [.ref e])), (e, .inl (cI, 30, .inl (kA (rAdd F i (a i))))), (ha, .inr (2, [.ref ea])), (ea, .inl (cI, 30, .inl (kA a))), (hb2, .inr (2, [.ref eb])), (eb, .inl (cI, 30, .inl (kA b)))]) H := hP
            replace hD : va_D A ([(h, .inr (2, [.ref e])), (e, .inl (cI, 30, .inl (kA (rAdd F i (a i))))), (ha, .inr (2, [.ref ea])), (ea, .inl (cI, 30, .inl (kA a))), (hb2, .inr (2, [.ref eb])), (eb, .inl (cI, 30, .inl (kA b)))]) := hD
            refine k_iinc (v := ↑(i + 1)) (lv' := [(3, .int (zI (↑(i + 1)))), (0, .ref h), (1, .ref ha), (2, .ref hb2)]) hx hb d_Ro_addHolding_41 hl (k := 3) rfl (by omega) (by decide) rfl ?_
            clear hl; intro ls hl
            refine lv_goto (tgt := 2) hx hb d_Ro_addHolding_44 (by decide) ?_
            exact ih_2 (i + 1) (rAdd F i (a i)) (by omega) (rAdd_le hF (by omega)) (by rw [rHolding] at hgo; (repeat' split at hgo); all_goals first | exact hgo | (exfalso; omega) | contradiction) _ _ _ hP hD hS (lv_sub hl [1, 2, 3, 0] rfl)
  exact loop_2 30 0 G0 (by omega) hG0 rfl _ _ _ hP hD hS (lv_sub hl [1, 2, 3, 0] rfl)

abbrev rm_Row_addIn : Room := { frames := 3, cells := 0, slots := 0, locals := 64 }
set_option maxHeartbeats 4000000 in
set_option maxRecDepth 100000 in
theorem c_Row_addIn (l : Launch) (D : va_G) (cI cR cG : ClassId) (h e ha ea hb2 eb : Nat) (G0 a b : Nat → Nat) (hG0 : ∀ j, G0 j ≤ 30) (ha30 : ∀ j, a j ≤ 30) (hb30 : ∀ j, b j ≤ 30) : k_M l y_Ro_addIn (.code y_Ro_addIn b_Ro_addIn 4 none :: kW) rm_Row_addIn D k_cl (k_ty cI cR cG) [.ref h, .ref ha, .ref hb2] ([(h, .inr (2, [.ref e])), (e, .inl (cI, 30, .inl (kA G0))), (ha, .inr (2, [.ref ea])), (ea, .inl (cI, 30, .inl (kA a))), (hb2, .inr (2, [.ref eb])), (eb, .inl (cI, 30, .inl (kA b)))]) (k_Qv D k_cl [(h, .inr (2, [.ref e])), (e, .inl (cI, 30, .inl (kA (rIn a b 30 0 G0)))), (ha, .inr (2, [.ref ea])), (ea, .inl (cI, 30, .inl (kA a))), (hb2, .inr (2, [.ref eb])), (eb, .inl (cI, 30, .inl (kA b)))]) := by
  refine k_start (cc := b_Ro_addIn) (maxL := 4) (ret := none) (by decide) rfl (Nat.le_of_ble_eq_true rfl) ?_
  intro p ev s m ar below meth c A ls Qf hQf hx hb hr hml hts hown hlocks hin hK hG hA hP hD hS hl
  replace hown : s.vm.findClass R_Ro = some m.cls := hown
  replace hl : lv_has ls 4 [(0, .ref h), (1, .ref ha), (2, .ref hb2)] := hl
  have hkw : ∀ w ∈ kW, w.before ar s = true := fun w h => hts w (List.mem_cons_of_mem _ h)
  replace hP : va_P D k_cl ([(h, .inr (2, [.ref e])), (e, .inl (cI, 30, .inl (kA G0))), (ha, .inr (2, [.ref ea])), (ea, .inl (cI, 30, .inl (kA a))), (hb2, .inr (2, [.ref eb])), (eb, .inl (cI, 30, .inl (kA b)))]) s.heap := hP
  replace hD : va_D A ([(h, .inr (2, [.ref e])), (e, .inl (cI, 30, .inl (kA G0))), (ha, .inr (2, [.ref ea])), (ea, .inl (cI, 30, .inl (kA a))), (hb2, .inr (2, [.ref eb])), (eb, .inl (cI, 30, .inl (kA b)))]) := hD
  refine lv_iconst (v := zI 0) hx hb d_Ro_addIn_0 (by decide) ?_
  refine lv_istore_n (lv' := [(3, .int (zI 0)), (0, .ref h), (1, .ref ha), (2, .ref hb2)]) hx hb d_Ro_addIn_1 rfl hl (by decide) rfl ?_
  clear hl; intro ls hl
  have loop_2 : ∀ (n : Nat) (i : Nat) (F : Nat → Nat), (i + n = 30) → (∀ j, F j ≤ 30) → (rIn a b n i F = rIn a b 30 0 G0) → ∀ (H : Heap) (locs : List Loc) (ls : Array Slot), va_P D k_cl ([(h, .inr (2, [.ref e])), (e, .inl (cI, 30, .inl (kA F))), (ha, .inr (2, [.ref ea])), (ea, .inl (cI, 30, .inl (kA a))), (hb2, .inr (2, [.ref eb])), (eb, .inl (cI, 30, .inl (kA b)))]) H → va_D A ([(h, .inr (2, [.ref e])), (e, .inl (cI, 30, .inl (kA F))), (ha, .inr (2, [.ref ea])), (ea, .inl (cI, 30, .inl (kA a))), (hb2, .inr (2, [.ref eb])), (eb, .inl (cI, 30, .inl (kA b)))]) → va_S A s.heap H locs → lv_has ls 4 [(0, .ref h), (1, .ref ha), (2, .ref hb2), (3, .int (zI ↑i))] → W p l ev rm_Row_addIn s m ar below meth c H locs 0 0 Qf (F0 m 2 ls []) := by
    intro n
    induction n with
    | zero =>
      intro i F hin hF hgo H locs ls hP hD hS hl
      refine lv_iload_n hx hb d_Ro_addIn_2 rfl (lv_at hl 3 rfl) ?_
      refine lv_bipush (v := zI 30) hx hb d_Ro_addIn_3 (by decide) ?_
      refine k_icmp_ge (tgt := 47) hx hb d_Ro_addIn_5 (by decide) ⟨by omega, by omega⟩ ⟨by omega, by omega⟩ (fun c_5 => ?_) (fun c_5 => ?_)
      · rw [← hQf]
        have hP : va_P D k_cl [(h, .inr (2, [.ref e])), (e, .inl (cI, 30, .inl (kA (rIn a b 30 0 G0)))), (ha, .inr (2, [.ref ea])), (ea, .inl (cI, 30, .inl (kA a))), (hb2, .inr (2, [.ref eb])), (eb, .inl (cI, 30, .inl (kA b)))] H := by
          rw [show rIn a b 30 0 G0 = F from hgo.symm]
          exact hP
        exact k_vret hx hb hr hlocks hP hS d_Ro_addIn_47
      · exfalso; omega
    | succ n ih_2 =>
      intro i F hin hF hgo H locs ls hP hD hS hl
      refine lv_iload_n hx hb d_Ro_addIn_2 rfl (lv_at hl 3 rfl) ?_
      refine lv_bipush (v := zI 30) hx hb d_Ro_addIn_3 (by decide) ?_
      refine k_icmp_ge (tgt := 47) hx hb d_Ro_addIn_5 (by decide) ⟨by omega, by omega⟩ ⟨by omega, by omega⟩ (fun c_5 => ?_) (fun c_5 => ?_)
      · exfalso; omega
      · refine lv_aload_n hx hb d_Ro_addIn_8 rfl (lv_at hl 1 rfl) ?_
        refine lv_iload_n hx hb d_Ro_addIn_9 rfl (lv_at hl 3 rfl) ?_
        refine k_beI (va_runV (As := [.int (zI ↑i)]) (rest := []) ⟨hx, hb, hml, hown, hkw⟩ (c_Row_beginsAt l D cI cR cG ha ea i a (by omega) ha30 _) (cwV 1 hkw (k_gV kw_methodLink_Ro_25 kw_instanceMethod_Ro_beginsAt kw_selects_Ro_beginsAt kw_initialized_Ro kw_code_Ro_beginsAt) rfl rfl rfl (by decide +kernel) ⟨(Nat.le_of_ble_eq_true rfl), (Nat.le_of_ble_eq_true rfl)⟩) (k_preV (q0 := 0) hK hG hP hD [2, 3] rfl rfl rfl rfl) rfl rfl hl.1 rfl (lv_room (Nat.le_of_ble_eq_true rfl)) d_Ro_addIn_10 ⟨Nat.zero_le _, Nat.zero_le _⟩) hP hD hS hA [2, 3] rfl (Eq.trans (b := [ha, ea]) rfl rfl) ?_
        clear hP hD hS; intro H locs hP hD hS
        replace hP : va_P D k_cl ([(h, .inr (2, [.ref e])), (e, .inl (cI, 30, .inl (kA F))), (ha, .inr (2, [.ref ea])), (ea, .inl (cI, 30, .inl (kA a))), (hb2, .inr (2, [.ref eb])), (eb, .inl (cI, 30, .inl (kA b)))]) H := hP
        replace hD : va_D A ([(h, .inr (2, [.ref e])), (e, .inl (cI, 30, .inl (kA F))), (ha, .inr (2, [.ref ea])), (ea, .inl (cI, 30, .inl (kA a))), (hb2, .inr (2, [.ref eb])), (eb, .inl (cI, 30, .inl (kA b)))]) := hD
        refine k_bif_eq (tgt := 41) hx hb d_Ro_addIn_13 (by decide) (fun c_13 => ?_) (fun c_13 => ?_)
        · refine k_iinc (v := ↑(i + 1)) (lv' := [(3, .int (zI (↑(i + 1)))), (0, .ref h), (1, .ref ha), (2, .ref hb2)]) hx hb d_Ro_addIn_41 hl (k := 3) rfl (by omega) (by decide) rfl ?_
          clear hl; intro ls hl
          refine lv_goto (tgt := 2) hx hb d_Ro_addIn_44 (by decide) ?_
          exact ih_2 (i + 1) F (by omega) hF (by rw [rIn] at hgo; (repeat' split at hgo); all_goals first | exact hgo | (exfalso; omega) | contradiction) _ _ _ hP hD hS (lv_sub hl [1, 2, 3, 0] rfl)
        · refine lv_aload_n hx hb d_Ro_addIn_16 rfl (lv_at hl 2 rfl) ?_
          refine lv_iload_n hx hb d_Ro_addIn_17 rfl (lv_at hl 3 rfl) ?_
          refine lv_aload_n hx hb d_Ro_addIn_18 rfl (lv_at hl 1 rfl) ?_
          refine va_get (D := D) (ci := 2) (v := .ref ea) (C := R_Ro) (T := T_Ro) (N := 1) hx hb hkw kin_Ro hown hK hP 2 rfl rfl 0 (by decide) (hkw _ kw_fieldLink_Ro_9) (fun _ h9 => h9) rfl d_Ro_addIn_19 ?_
          refine lv_iload_n hx hb d_Ro_addIn_22 rfl (lv_at hl 3 rfl) ?_
          refine k_ald hx hb hK hP 3 0 rfl rfl (i := i) (by omega) (by omega) (by omega) d_Ro_addIn_23 ?_
          have hv_1 := ha30 i
          refine k_beI (va_runV (As := [.int (zI ↑i), .int (zI (↑(a i)))]) (rest := []) ⟨hx, hb, hml, hown, hkw⟩ (c_Row_hasAround l D cI cR cG hb2 eb i (a i) b (by omega) (by omega) hb30 _) (cwV 2 hkw (k_gV kw_methodLink_Ro_60 kw_instanceMethod_Ro_hasAround kw_selects_Ro_hasAround kw_initialized_Ro kw_code_Ro_hasAround) rfl rfl rfl (by decide +kernel) ⟨(Nat.le_of_ble_eq_true rfl), (Nat.le_of_ble_eq_true rfl)⟩) (k_preV (q0 := 0) hK hG hP hD [4, 5] rfl rfl rfl rfl) rfl rfl hl.1 rfl (lv_room (Nat.le_of_ble_eq_true rfl)) d_Ro_addIn_24 ⟨Nat.zero_le _, Nat.zero_le _⟩) hP hD hS hA [4, 5] rfl (Eq.trans (b := [hb2, eb]) rfl rfl) ?_
          clear hP hD hS; intro H locs hP hD hS
          replace hP : va_P D k_cl ([(h, .inr (2, [.ref e])), (e, .inl (cI, 30, .inl (kA F))), (ha, .inr (2, [.ref ea])), (ea, .inl (cI, 30, .inl (kA a))), (hb2, .inr (2, [.ref eb])), (eb, .inl (cI, 30, .inl (kA b)))]) H := hP
          replace hD : va_D A ([(h, .inr (2, [.ref e])), (e, .inl (cI, 30, .inl (kA F))), (ha, .inr (2, [.ref ea])), (ea, .inl (cI, 30, .inl (kA a))), (hb2, .inr (2, [.ref eb])), (eb, .inl (cI, 30, .inl (kA b)))]) := hD
          refine k_bif_eq (tgt := 41) hx hb d_Ro_addIn_27 (by decide) (fun c_27 => ?_) (fun c_27 => ?_)
          · refine k_iinc (v := ↑(i + 1)) (lv' := [(3, .int (zI (↑(i + 1)))), (0, .ref h), (1, .ref ha), (2, .ref hb2)]) hx hb d_Ro_addIn_41 hl (k := 3) rfl (by omega) (by decide) rfl ?_
            clear hl; intro ls hl
            refine lv_goto (tgt := 2) hx hb d_Ro_addIn_44 (by decide) ?_
            exact ih_2 (i + 1) F (by omega) hF (by rw [rIn] at hgo; (repeat' split at hgo); all_goals first | exact hgo | (exfalso; omega) | contradiction) _ _ _ hP hD hS (lv_sub hl [1, 2, 3, 0] rfl)
          · refine lv_aload_n hx hb d_Ro_addIn_30 rfl (lv_at hl 0 rfl) ?_
            refine lv_iload_n hx hb d_Ro_addIn_31 rfl (lv_at hl 3 rfl) ?_
            refine lv_aload_n hx hb d_Ro_addIn_32 rfl (lv_at hl 1 rfl) ?_
            refine va_get (D := D) (ci := 2) (v := .ref ea) (C := R_Ro) (T := T_Ro) (N := 1) hx hb hkw kin_Ro hown hK hP 2 rfl rfl 0 (by decide) (hkw _ kw_fieldLink_Ro_9) (fun _ h9 => h9) rfl d_Ro_addIn_33 ?_
            refine lv_iload_n hx hb d_Ro_addIn_36 rfl (lv_at hl 3 rfl) ?_
            refine k_ald hx hb hK hP 3 0 rfl rfl (i := i) (by omega) (by omega) (by omega) d_Ro_addIn_37 ?_
            have hv_2 := ha30 i
            refine k_beV (va_runV (As := [.int (zI ↑i), .int (zI (↑(a i)))]) (rest := []) ⟨hx, hb, hml, hown, hkw⟩ (c_Row_add l D cI cR cG h e i (a i) F (by omega) (by omega) hF _) (cwV 2 hkw (k_gV kw_methodLink_Ro_38 kw_instanceMethod_Ro_add kw_selects_Ro_add kw_initialized_Ro kw_code_Ro_add) rfl rfl rfl (by decide +kernel) ⟨(Nat.le_of_ble_eq_true rfl), (Nat.le_of_ble_eq_true rfl)⟩) (k_preV (q0 := 0) hK hG hP hD [0, 1] rfl rfl rfl rfl) rfl rfl hl.1 rfl (lv_room (Nat.le_of_ble_eq_true rfl)) d_Ro_addIn_38 ⟨Nat.zero_le _, Nat.zero_le _⟩) hP hD hS hA [0, 1] rfl (Eq.trans (b := [h, e]) rfl rfl) ?_
            clear hP hD hS; intro H locs hP hD hS
            replace hP : va_P D k_cl ([(h, .inr (2, [.ref e])), (e, .inl (cI, 30, .inl (kA (rAdd F i (a i))))), (ha, .inr (2, [.ref ea])), (ea, .inl (cI, 30, .inl (kA a))), (hb2, .inr (2, [.ref eb])), (eb, .inl (cI, 30, .inl (kA b)))]) H := hP
            replace hD : va_D A ([(h, .inr (2, [.ref e])), (e, .inl (cI, 30, .inl (kA (rAdd F i (a i))))), (ha, .inr (2, [.ref ea])), (ea, .inl (cI, 30, .inl (kA a))), (hb2, .inr (2, [.ref eb])), (eb, .inl (cI, 30, .inl (kA b)))]) := hD
            refine k_iinc (v := ↑(i + 1)) (lv' := [(3, .int (zI (↑(i + 1)))), (0, .ref h), (1, .ref ha), (2, .ref hb2)]) hx hb d_Ro_addIn_41 hl (k := 3) rfl (by omega) (by decide) rfl ?_
            clear hl; intro ls hl
            refine lv_goto (tgt := 2) hx hb d_Ro_addIn_44 (by decide) ?_
            exact ih_2 (i + 1) (rAdd F i (a i)) (by omega) (rAdd_le hF (by omega)) (by rw [rIn] at hgo; (repeat' split at hgo); all_goals first | exact hgo | (exfalso; omega) | contradiction) _ _ _ hP hD hS (lv_sub hl [1, 2, 3, 0] rfl)
  exact loop_2 30 0 G0 (by omega) hG0 rfl _ _ _ hP hD hS (lv_sub hl [1, 2, 3, 0] rfl)

abbrev rm_Row_addByNearness : Room := { frames := 3, cells := 0, slots := 0, locals := 65 }
set_option maxHeartbeats 4000000 in
set_option maxRecDepth 100000 in
theorem c_Row_addByNearness (l : Launch) (D : va_G) (cI cR cG : ClassId) (h e ha ea hb2 eb : Nat) (k : Int) (w : Bool) (G0 a b : Nat → Nat) (hk : -1 ≤ k ∧ k ≤ 30) (hG0 : ∀ j, G0 j ≤ 30) (ha30 : ∀ j, a j ≤ 30) (hb30 : ∀ j, b j ≤ 30) : k_M l y_Ro_addByNearness (.code y_Ro_addByNearness b_Ro_addByNearness 6 none :: kW) rm_Row_addByNearness D k_cl (k_ty cI cR cG) [.ref h, .ref ha, .ref hb2, .int (zI k), .int (k_b (w = true))] ([(h, .inr (2, [.ref e])), (e, .inl (cI, 30, .inl (kA G0))), (ha, .inr (2, [.ref ea])), (ea, .inl (cI, 30, .inl (kA a))), (hb2, .inr (2, [.ref eb])), (eb, .inl (cI, 30, .inl (kA b)))]) (k_Qv D k_cl [(h, .inr (2, [.ref e])), (e, .inl (cI, 30, .inl (kA (rNear a b k w 30 0 G0)))), (ha, .inr (2, [.ref ea])), (ea, .inl (cI, 30, .inl (kA a))), (hb2, .inr (2, [.ref eb])), (eb, .inl (cI, 30, .inl (kA b)))]) := by
  refine k_start (cc := b_Ro_addByNearness) (maxL := 6) (ret := none) (by decide) rfl (Nat.le_of_ble_eq_true rfl) ?_
  intro p ev s m ar below meth c A ls Qf hQf hx hb hr hml hts hown hlocks hin hK hG hA hP hD hS hl
  replace hown : s.vm.findClass R_Ro = some m.cls := hown
  replace hl : lv_has ls 6 [(0, .ref h), (1, .ref ha), (2, .ref hb2), (3, .int (zI k)), (4, .int (k_b (w = true)))] := hl
  have hkw : ∀ w ∈ kW, w.before ar s = true := fun w h => hts w (List.mem_cons_of_mem _ h)
  replace hP : va_P D k_cl ([(h, .inr (2, [.ref e])), (e, .inl (cI, 30, .inl (kA G0))), (ha, .inr (2, [.ref ea])), (ea, .inl (cI, 30, .inl (kA a))), (hb2, .inr (2, [.ref eb])), (eb, .inl (cI, 30, .inl (kA b)))]) s.heap := hP
  replace hD : va_D A ([(h, .inr (2, [.ref e])), (e, .inl (cI, 30, .inl (kA G0))), (ha, .inr (2, [.ref ea])), (ea, .inl (cI, 30, .inl (kA a))), (hb2, .inr (2, [.ref eb])), (eb, .inl (cI, 30, .inl (kA b)))]) := hD
  refine lv_iconst (v := zI 0) hx hb d_Ro_addByNearness_0 (by decide) ?_
  refine lv_istore (lv' := [(5, .int (zI 0)), (0, .ref h), (1, .ref ha), (2, .ref hb2), (3, .int (zI k)), (4, .int (k_b (w = true)))]) hx hb d_Ro_addByNearness_1 hl (by decide) rfl ?_
  clear hl; intro ls hl
  have loop_3 : ∀ (n : Nat) (i : Nat) (F : Nat → Nat), (i + n = 30) → (∀ j, F j ≤ 30) → (rNear a b k w n i F = rNear a b k w 30 0 G0) → ∀ (H : Heap) (locs : List Loc) (ls : Array Slot), va_P D k_cl ([(h, .inr (2, [.ref e])), (e, .inl (cI, 30, .inl (kA F))), (ha, .inr (2, [.ref ea])), (ea, .inl (cI, 30, .inl (kA a))), (hb2, .inr (2, [.ref eb])), (eb, .inl (cI, 30, .inl (kA b)))]) H → va_D A ([(h, .inr (2, [.ref e])), (e, .inl (cI, 30, .inl (kA F))), (ha, .inr (2, [.ref ea])), (ea, .inl (cI, 30, .inl (kA a))), (hb2, .inr (2, [.ref eb])), (eb, .inl (cI, 30, .inl (kA b)))]) → va_S A s.heap H locs → lv_has ls 6 [(0, .ref h), (1, .ref ha), (2, .ref hb2), (3, .int (zI k)), (4, .int (k_b (w = true))), (5, .int (zI ↑i))] → W p l ev rm_Row_addByNearness s m ar below meth c H locs 0 0 Qf (F0 m 3 ls []) := by
    intro n
    induction n with
    | zero =>
      intro i F hin hF hgo H locs ls hP hD hS hl
      refine lv_iload hx hb d_Ro_addByNearness_3 (lv_at hl 5 rfl) ?_
      refine lv_bipush (v := zI 30) hx hb d_Ro_addByNearness_5 (by decide) ?_
      refine k_icmp_ge (tgt := 57) hx hb d_Ro_addByNearness_7 (by decide) ⟨by omega, by omega⟩ ⟨by omega, by omega⟩ (fun c_7 => ?_) (fun c_7 => ?_)
      · rw [← hQf]
        have hP : va_P D k_cl [(h, .inr (2, [.ref e])), (e, .inl (cI, 30, .inl (kA (rNear a b k w 30 0 G0)))), (ha, .inr (2, [.ref ea])), (ea, .inl (cI, 30, .inl (kA a))), (hb2, .inr (2, [.ref eb])), (eb, .inl (cI, 30, .inl (kA b)))] H := by
          rw [show rNear a b k w 30 0 G0 = F from hgo.symm]
          exact hP
        exact k_vret hx hb hr hlocks hP hS d_Ro_addByNearness_57
      · exfalso; omega
    | succ n ih_3 =>
      intro i F hin hF hgo H locs ls hP hD hS hl
      refine lv_iload hx hb d_Ro_addByNearness_3 (lv_at hl 5 rfl) ?_
      refine lv_bipush (v := zI 30) hx hb d_Ro_addByNearness_5 (by decide) ?_
      refine k_icmp_ge (tgt := 57) hx hb d_Ro_addByNearness_7 (by decide) ⟨by omega, by omega⟩ ⟨by omega, by omega⟩ (fun c_7 => ?_) (fun c_7 => ?_)
      · exfalso; omega
      · refine lv_aload_n hx hb d_Ro_addByNearness_10 rfl (lv_at hl 1 rfl) ?_
        refine lv_iload hx hb d_Ro_addByNearness_11 (lv_at hl 5 rfl) ?_
        refine k_beI (va_runV (As := [.int (zI ↑i)]) (rest := []) ⟨hx, hb, hml, hown, hkw⟩ (c_Row_beginsAt l D cI cR cG ha ea i a (by omega) ha30 _) (cwV 1 hkw (k_gV kw_methodLink_Ro_25 kw_instanceMethod_Ro_beginsAt kw_selects_Ro_beginsAt kw_initialized_Ro kw_code_Ro_beginsAt) rfl rfl rfl (by decide +kernel) ⟨(Nat.le_of_ble_eq_true rfl), (Nat.le_of_ble_eq_true rfl)⟩) (k_preV (q0 := 0) hK hG hP hD [2, 3] rfl rfl rfl rfl) rfl rfl hl.1 rfl (lv_room (Nat.le_of_ble_eq_true rfl)) d_Ro_addByNearness_13 ⟨Nat.zero_le _, Nat.zero_le _⟩) hP hD hS hA [2, 3] rfl (Eq.trans (b := [ha, ea]) rfl rfl) ?_
        clear hP hD hS; intro H locs hP hD hS
        replace hP : va_P D k_cl ([(h, .inr (2, [.ref e])), (e, .inl (cI, 30, .inl (kA F))), (ha, .inr (2, [.ref ea])), (ea, .inl (cI, 30, .inl (kA a))), (hb2, .inr (2, [.ref eb])), (eb, .inl (cI, 30, .inl (kA b)))]) H := hP
        replace hD : va_D A ([(h, .inr (2, [.ref e])), (e, .inl (cI, 30, .inl (kA F))), (ha, .inr (2, [.ref ea])), (ea, .inl (cI, 30, .inl (kA a))), (hb2, .inr (2, [.ref eb])), (eb, .inl (cI, 30, .inl (kA b)))]) := hD
        refine k_bif_eq (tgt := 51) hx hb d_Ro_addByNearness_16 (by decide) (fun c_16 => ?_) (fun c_16 => ?_)
        · refine k_iinc (v := ↑(i + 1)) (lv' := [(5, .int (zI (↑(i + 1)))), (0, .ref h), (1, .ref ha), (2, .ref hb2), (3, .int (zI k)), (4, .int (k_b (w = true)))]) hx hb d_Ro_addByNearness_51 hl (k := 5) rfl (by omega) (by decide) rfl ?_
          clear hl; intro ls hl
          refine lv_goto (tgt := 3) hx hb d_Ro_addByNearness_54 (by decide) ?_
          exact ih_3 (i + 1) F (by omega) hF (by rw [rNear] at hgo; (repeat' split at hgo); all_goals first | exact hgo | (exfalso; omega) | contradiction) _ _ _ hP hD hS (lv_sub hl [1, 2, 3, 4, 5, 0] rfl)
        · refine lv_aload_n hx hb d_Ro_addByNearness_19 rfl (lv_at hl 2 rfl) ?_
          refine lv_iload hx hb d_Ro_addByNearness_20 (lv_at hl 5 rfl) ?_
          refine lv_aload_n hx hb d_Ro_addByNearness_22 rfl (lv_at hl 1 rfl) ?_
          refine va_get (D := D) (ci := 2) (v := .ref ea) (C := R_Ro) (T := T_Ro) (N := 1) hx hb hkw kin_Ro hown hK hP 2 rfl rfl 0 (by decide) (hkw _ kw_fieldLink_Ro_9) (fun _ h9 => h9) rfl d_Ro_addByNearness_23 ?_
          refine lv_iload hx hb d_Ro_addByNearness_26 (lv_at hl 5 rfl) ?_
          refine k_ald hx hb hK hP 3 0 rfl rfl (i := i) (by omega) (by omega) (by omega) d_Ro_addByNearness_28 ?_
          have hv_1 := ha30 i
          refine lv_iload_n hx hb d_Ro_addByNearness_29 rfl (lv_at hl 3 rfl) ?_
          refine k_beI (va_runV (As := [.int (zI ↑i), .int (zI (↑(a i))), .int (zI k)]) (rest := []) ⟨hx, hb, hml, hown, hkw⟩ (c_Row_hasNear l D cI cR cG hb2 eb i (a i) k b (by omega) (by omega) (by omega) hb30 _) (cwV 3 hkw (k_gV kw_methodLink_Ro_63 kw_instanceMethod_Ro_hasNear kw_selects_Ro_hasNear kw_initialized_Ro kw_code_Ro_hasNear) rfl rfl rfl (by decide +kernel) ⟨(Nat.le_of_ble_eq_true rfl), (Nat.le_of_ble_eq_true rfl)⟩) (k_preV (q0 := 0) hK hG hP hD [4, 5] rfl rfl rfl rfl) rfl rfl hl.1 rfl (lv_room (Nat.le_of_ble_eq_true rfl)) d_Ro_addByNearness_30 ⟨Nat.zero_le _, Nat.zero_le _⟩) hP hD hS hA [4, 5] rfl (Eq.trans (b := [hb2, eb]) rfl rfl) ?_
          clear hP hD hS; intro H locs hP hD hS
          replace hP : va_P D k_cl ([(h, .inr (2, [.ref e])), (e, .inl (cI, 30, .inl (kA F))), (ha, .inr (2, [.ref ea])), (ea, .inl (cI, 30, .inl (kA a))), (hb2, .inr (2, [.ref eb])), (eb, .inl (cI, 30, .inl (kA b)))]) H := hP
          replace hD : va_D A ([(h, .inr (2, [.ref e])), (e, .inl (cI, 30, .inl (kA F))), (ha, .inr (2, [.ref ea])), (ea, .inl (cI, 30, .inl (kA a))), (hb2, .inr (2, [.ref eb])), (eb, .inl (cI, 30, .inl (kA b)))]) := hD
          refine lv_iload hx hb d_Ro_addByNearness_33 (lv_at hl 4 rfl) ?_
          refine k_bcmp_ne (tgt := 51) hx hb d_Ro_addByNearness_35 (by decide) (fun c_35 => ?_) (fun c_35 => ?_)
          · refine k_iinc (v := ↑(i + 1)) (lv' := [(5, .int (zI (↑(i + 1)))), (0, .ref h), (1, .ref ha), (2, .ref hb2), (3, .int (zI k)), (4, .int (k_b (w = true)))]) hx hb d_Ro_addByNearness_51 hl (k := 5) rfl (by omega) (by decide) rfl ?_
            clear hl; intro ls hl
            refine lv_goto (tgt := 3) hx hb d_Ro_addByNearness_54 (by decide) ?_
            exact ih_3 (i + 1) F (by omega) hF (by rw [rNear] at hgo; (repeat' split at hgo); all_goals first | exact hgo | (exfalso; omega) | contradiction) _ _ _ hP hD hS (lv_sub hl [1, 2, 3, 4, 5, 0] rfl)
          · refine lv_aload_n hx hb d_Ro_addByNearness_38 rfl (lv_at hl 0 rfl) ?_
            refine lv_iload hx hb d_Ro_addByNearness_39 (lv_at hl 5 rfl) ?_
            refine lv_aload_n hx hb d_Ro_addByNearness_41 rfl (lv_at hl 1 rfl) ?_
            refine va_get (D := D) (ci := 2) (v := .ref ea) (C := R_Ro) (T := T_Ro) (N := 1) hx hb hkw kin_Ro hown hK hP 2 rfl rfl 0 (by decide) (hkw _ kw_fieldLink_Ro_9) (fun _ h9 => h9) rfl d_Ro_addByNearness_42 ?_
            refine lv_iload hx hb d_Ro_addByNearness_45 (lv_at hl 5 rfl) ?_
            refine k_ald hx hb hK hP 3 0 rfl rfl (i := i) (by omega) (by omega) (by omega) d_Ro_addByNearness_47 ?_
            have hv_2 := ha30 i
            refine k_beV (va_runV (As := [.int (zI ↑i), .int (zI (↑(a i)))]) (rest := []) ⟨hx, hb, hml, hown, hkw⟩ (c_Row_add l D cI cR cG h e i (a i) F (by omega) (by omega) hF _) (cwV 2 hkw (k_gV kw_methodLink_Ro_38 kw_instanceMethod_Ro_add kw_selects_Ro_add kw_initialized_Ro kw_code_Ro_add) rfl rfl rfl (by decide +kernel) ⟨(Nat.le_of_ble_eq_true rfl), (Nat.le_of_ble_eq_true rfl)⟩) (k_preV (q0 := 0) hK hG hP hD [0, 1] rfl rfl rfl rfl) rfl rfl hl.1 rfl (lv_room (Nat.le_of_ble_eq_true rfl)) d_Ro_addByNearness_48 ⟨Nat.zero_le _, Nat.zero_le _⟩) hP hD hS hA [0, 1] rfl (Eq.trans (b := [h, e]) rfl rfl) ?_
            clear hP hD hS; intro H locs hP hD hS
            replace hP : va_P D k_cl ([(h, .inr (2, [.ref e])), (e, .inl (cI, 30, .inl (kA (rAdd F i (a i))))), (ha, .inr (2, [.ref ea])), (ea, .inl (cI, 30, .inl (kA a))), (hb2, .inr (2, [.ref eb])), (eb, .inl (cI, 30, .inl (kA b)))]) H := hP
            replace hD : va_D A ([(h, .inr (2, [.ref e])), (e, .inl (cI, 30, .inl (kA (rAdd F i (a i))))), (ha, .inr (2, [.ref ea])), (ea, .inl (cI, 30, .inl (kA a))), (hb2, .inr (2, [.ref eb])), (eb, .inl (cI, 30, .inl (kA b)))]) := hD
            refine k_iinc (v := ↑(i + 1)) (lv' := [(5, .int (zI (↑(i + 1)))), (0, .ref h), (1, .ref ha), (2, .ref hb2), (3, .int (zI k)), (4, .int (k_b (w = true)))]) hx hb d_Ro_addByNearness_51 hl (k := 5) rfl (by omega) (by decide) rfl ?_
            clear hl; intro ls hl
            refine lv_goto (tgt := 3) hx hb d_Ro_addByNearness_54 (by decide) ?_
            exact ih_3 (i + 1) (rAdd F i (a i)) (by omega) (rAdd_le hF (by omega)) (by rw [rNear] at hgo; (repeat' split at hgo); all_goals first | exact hgo | (exfalso; omega) | contradiction) _ _ _ hP hD hS (lv_sub hl [1, 2, 3, 4, 5, 0] rfl)
  exact loop_3 30 0 G0 (by omega) hG0 rfl _ _ _ hP hD hS (lv_sub hl [1, 2, 3, 4, 5, 0] rfl)

abbrev rm_Row_addBehind_same : Room := { frames := 3, cells := 0, slots := 0, locals := 67 }
set_option maxHeartbeats 4000000 in
set_option maxRecDepth 100000 in
theorem c_Row_addBehind_same (l : Launch) (D : va_G) (cI cR cG : ClassId) (h e ha ea k : Nat) (G0 a : Nat → Nat) (hk : k ≤ 30) (hG0 : ∀ j, G0 j ≤ 30) (ha30 : ∀ j, a j ≤ 30) : k_M l y_Ro_addBehind (.code y_Ro_addBehind b_Ro_addBehind 5 none :: kW) rm_Row_addBehind_same D k_cl (k_ty cI cR cG) [.ref h, .ref ha, .ref ha, .int (zI ↑k)] ([(h, .inr (2, [.ref e])), (e, .inl (cI, 30, .inl (kA G0))), (ha, .inr (2, [.ref ea])), (ea, .inl (cI, 30, .inl (kA a)))]) (k_Qv D k_cl [(h, .inr (2, [.ref e])), (e, .inl (cI, 30, .inl (kA (rBehind a a k 30 0 G0)))), (ha, .inr (2, [.ref ea])), (ea, .inl (cI, 30, .inl (kA a)))]) := by
  refine k_start (cc := b_Ro_addBehind) (maxL := 5) (ret := none) (by decide) rfl (Nat.le_of_ble_eq_true rfl) ?_
  intro p ev s m ar below meth c A ls Qf hQf hx hb hr hml hts hown hlocks hin hK hG hA hP hD hS hl
  replace hown : s.vm.findClass R_Ro = some m.cls := hown
  replace hl : lv_has ls 5 [(0, .ref h), (1, .ref ha), (2, .ref ha), (3, .int (zI ↑k))] := hl
  have hkw : ∀ w ∈ kW, w.before ar s = true := fun w h => hts w (List.mem_cons_of_mem _ h)
  replace hP : va_P D k_cl ([(h, .inr (2, [.ref e])), (e, .inl (cI, 30, .inl (kA G0))), (ha, .inr (2, [.ref ea])), (ea, .inl (cI, 30, .inl (kA a)))]) s.heap := hP
  replace hD : va_D A ([(h, .inr (2, [.ref e])), (e, .inl (cI, 30, .inl (kA G0))), (ha, .inr (2, [.ref ea])), (ea, .inl (cI, 30, .inl (kA a)))]) := hD
  refine lv_iconst (v := zI 0) hx hb d_Ro_addBehind_0 (by decide) ?_
  refine lv_istore (lv' := [(4, .int (zI 0)), (0, .ref h), (1, .ref ha), (2, .ref ha), (3, .int (zI ↑k))]) hx hb d_Ro_addBehind_1 hl (by decide) rfl ?_
  clear hl; intro ls hl
  have loop_3 : ∀ (n : Nat) (i : Nat) (F : Nat → Nat), (i + n = 30) → (∀ j, F j ≤ 30) → (rBehind a a k n i F = rBehind a a k 30 0 G0) → ∀ (H : Heap) (locs : List Loc) (ls : Array Slot), va_P D k_cl ([(h, .inr (2, [.ref e])), (e, .inl (cI, 30, .inl (kA F))), (ha, .inr (2, [.ref ea])), (ea, .inl (cI, 30, .inl (kA a)))]) H → va_D A ([(h, .inr (2, [.ref e])), (e, .inl (cI, 30, .inl (kA F))), (ha, .inr (2, [.ref ea])), (ea, .inl (cI, 30, .inl (kA a)))]) → va_S A s.heap H locs → lv_has ls 5 [(0, .ref h), (1, .ref ha), (2, .ref ha), (3, .int (zI ↑k)), (4, .int (zI ↑i))] → W p l ev rm_Row_addBehind_same s m ar below meth c H locs 0 0 Qf (F0 m 3 ls []) := by
    intro n
    induction n with
    | zero =>
      intro i F hin hF hgo H locs ls hP hD hS hl
      refine lv_iload hx hb d_Ro_addBehind_3 (lv_at hl 4 rfl) ?_
      refine lv_bipush (v := zI 30) hx hb d_Ro_addBehind_5 (by decide) ?_
      refine k_icmp_ge (tgt := 40) hx hb d_Ro_addBehind_7 (by decide) ⟨by omega, by omega⟩ ⟨by omega, by omega⟩ (fun c_7 => ?_) (fun c_7 => ?_)
      · rw [← hQf]
        have hP : va_P D k_cl [(h, .inr (2, [.ref e])), (e, .inl (cI, 30, .inl (kA (rBehind a a k 30 0 G0)))), (ha, .inr (2, [.ref ea])), (ea, .inl (cI, 30, .inl (kA a)))] H := by
          rw [show rBehind a a k 30 0 G0 = F from hgo.symm]
          exact hP
        exact k_vret hx hb hr hlocks hP hS d_Ro_addBehind_40
      · exfalso; omega
    | succ n ih_3 =>
      intro i F hin hF hgo H locs ls hP hD hS hl
      refine lv_iload hx hb d_Ro_addBehind_3 (lv_at hl 4 rfl) ?_
      refine lv_bipush (v := zI 30) hx hb d_Ro_addBehind_5 (by decide) ?_
      refine k_icmp_ge (tgt := 40) hx hb d_Ro_addBehind_7 (by decide) ⟨by omega, by omega⟩ ⟨by omega, by omega⟩ (fun c_7 => ?_) (fun c_7 => ?_)
      · exfalso; omega
      · refine lv_aload_n hx hb d_Ro_addBehind_10 rfl (lv_at hl 1 rfl) ?_
        refine lv_iload hx hb d_Ro_addBehind_11 (lv_at hl 4 rfl) ?_
        refine k_beI (va_runV (As := [.int (zI ↑i)]) (rest := []) ⟨hx, hb, hml, hown, hkw⟩ (c_Row_beginsAt l D cI cR cG ha ea i a (by omega) ha30 _) (cwV 1 hkw (k_gV kw_methodLink_Ro_25 kw_instanceMethod_Ro_beginsAt kw_selects_Ro_beginsAt kw_initialized_Ro kw_code_Ro_beginsAt) rfl rfl rfl (by decide +kernel) ⟨(Nat.le_of_ble_eq_true rfl), (Nat.le_of_ble_eq_true rfl)⟩) (k_preV (q0 := 0) hK hG hP hD [2, 3] rfl rfl rfl rfl) rfl rfl hl.1 rfl (lv_room (Nat.le_of_ble_eq_true rfl)) d_Ro_addBehind_13 ⟨Nat.zero_le _, Nat.zero_le _⟩) hP hD hS hA [2, 3] rfl (Eq.trans (b := [ha, ea]) rfl rfl) ?_
        clear hP hD hS; intro H locs hP hD hS
        replace hP : va_P D k_cl ([(h, .inr (2, [.ref e])), (e, .inl (cI, 30, .inl (kA F))), (ha, .inr (2, [.ref ea])), (ea, .inl (cI, 30, .inl (kA a)))]) H := hP
        replace hD : va_D A ([(h, .inr (2, [.ref e])), (e, .inl (cI, 30, .inl (kA F))), (ha, .inr (2, [.ref ea])), (ea, .inl (cI, 30, .inl (kA a)))]) := hD
        refine k_bif_eq (tgt := 34) hx hb d_Ro_addBehind_16 (by decide) (fun c_16 => ?_) (fun c_16 => ?_)
        · refine k_iinc (v := ↑(i + 1)) (lv' := [(4, .int (zI (↑(i + 1)))), (0, .ref h), (1, .ref ha), (2, .ref ha), (3, .int (zI ↑k))]) hx hb d_Ro_addBehind_34 hl (k := 4) rfl (by omega) (by decide) rfl ?_
          clear hl; intro ls hl
          refine lv_goto (tgt := 3) hx hb d_Ro_addBehind_37 (by decide) ?_
          exact ih_3 (i + 1) F (by omega) hF (by rw [rBehind] at hgo; (repeat' split at hgo); all_goals first | exact hgo | (exfalso; omega) | contradiction) _ _ _ hP hD hS (lv_sub hl [1, 2, 3, 4, 0] rfl)
        · refine lv_aload_n hx hb d_Ro_addBehind_19 rfl (lv_at hl 0 rfl) ?_
          refine lv_iload hx hb d_Ro_addBehind_20 (lv_at hl 4 rfl) ?_
          refine lv_aload_n hx hb d_Ro_addBehind_22 rfl (lv_at hl 1 rfl) ?_
          refine va_get (D := D) (ci := 2) (v := .ref ea) (C := R_Ro) (T := T_Ro) (N := 1) hx hb hkw kin_Ro hown hK hP 2 rfl rfl 0 (by decide) (hkw _ kw_fieldLink_Ro_9) (fun _ h9 => h9) rfl d_Ro_addBehind_23 ?_
          refine lv_iload hx hb d_Ro_addBehind_26 (lv_at hl 4 rfl) ?_
          refine k_ald hx hb hK hP 3 0 rfl rfl (i := i) (by omega) (by omega) (by omega) d_Ro_addBehind_28 ?_
          have hv_1 := ha30 i
          refine lv_aload_n hx hb d_Ro_addBehind_29 rfl (lv_at hl 2 rfl) ?_
          refine lv_iload_n hx hb d_Ro_addBehind_30 rfl (lv_at hl 3 rfl) ?_
          refine k_beV (va_runV (As := [.int (zI ↑i), .int (zI (↑(a i))), .ref ha, .int (zI ↑k)]) (rest := []) ⟨hx, hb, hml, hown, hkw⟩ (c_Row_addBehindOne l D cI cR cG h e ha ea i (a i) k F a (by omega) (by omega) (by omega) hF ha30 _) (cwV 4 hkw (k_gV kw_methodLink_Ro_46 kw_instanceMethod_Ro_addBehindOne kw_selects_Ro_addBehindOne kw_initialized_Ro kw_code_Ro_addBehindOne) rfl rfl rfl (by decide +kernel) ⟨(Nat.le_of_ble_eq_true rfl), (Nat.le_of_ble_eq_true rfl)⟩) (k_preV (q0 := 0) hK hG hP hD [0, 1, 2, 3] rfl rfl rfl rfl) rfl rfl hl.1 rfl (lv_room (Nat.le_of_ble_eq_true rfl)) d_Ro_addBehind_31 ⟨Nat.zero_le _, Nat.zero_le _⟩) hP hD hS hA [0, 1, 2, 3] rfl (Eq.trans (b := [h, e, ha, ea]) rfl rfl) ?_
          clear hP hD hS; intro H locs hP hD hS
          replace hP : va_P D k_cl ([(h, .inr (2, [.ref e])), (e, .inl (cI, 30, .inl (kA (rBehind1 a i (a i) k (29 - (a i)) ((a i) + 1) F)))), (ha, .inr (2, [.ref ea])), (ea, .inl (cI, 30, .inl (kA a)))]) H := hP
          replace hD : va_D A ([(h, .inr (2, [.ref e])), (e, .inl (cI, 30, .inl (kA (rBehind1 a i (a i) k (29 - (a i)) ((a i) + 1) F)))), (ha, .inr (2, [.ref ea])), (ea, .inl (cI, 30, .inl (kA a)))]) := hD
          refine k_iinc (v := ↑(i + 1)) (lv' := [(4, .int (zI (↑(i + 1)))), (0, .ref h), (1, .ref ha), (2, .ref ha), (3, .int (zI ↑k))]) hx hb d_Ro_addBehind_34 hl (k := 4) rfl (by omega) (by decide) rfl ?_
          clear hl; intro ls hl
          refine lv_goto (tgt := 3) hx hb d_Ro_addBehind_37 (by decide) ?_
          exact ih_3 (i + 1) (rBehind1 a i (a i) k (29 - (a i)) ((a i) + 1) F) (by omega) (r_bd_rBehind1 hF ha30) (by rw [rBehind] at hgo; (repeat' split at hgo); all_goals first | exact hgo | (exfalso; omega) | contradiction) _ _ _ hP hD hS (lv_sub hl [1, 2, 3, 4, 0] rfl)
  exact loop_3 30 0 G0 (by omega) hG0 rfl _ _ _ hP hD hS (lv_sub hl [1, 2, 3, 4, 0] rfl)

abbrev rm_Row_addBoth_same : Room := { frames := 3, cells := 0, slots := 0, locals := 69 }
set_option maxHeartbeats 4000000 in
set_option maxRecDepth 100000 in
theorem c_Row_addBoth_same (l : Launch) (D : va_G) (cI cR cG : ClassId) (h e ha ea k : Nat) (G0 a : Nat → Nat) (hk : k ≤ 30) (hG0 : ∀ j, G0 j ≤ 30) (ha30 : ∀ j, a j ≤ 30) : k_M l y_Ro_addBoth (.code y_Ro_addBoth b_Ro_addBoth 5 none :: kW) rm_Row_addBoth_same D k_cl (k_ty cI cR cG) [.ref h, .ref ha, .ref ha, .int (zI ↑k)] ([(h, .inr (2, [.ref e])), (e, .inl (cI, 30, .inl (kA G0))), (ha, .inr (2, [.ref ea])), (ea, .inl (cI, 30, .inl (kA a)))]) (k_Qv D k_cl [(h, .inr (2, [.ref e])), (e, .inl (cI, 30, .inl (kA (rBoth a a k 30 0 G0)))), (ha, .inr (2, [.ref ea])), (ea, .inl (cI, 30, .inl (kA a)))]) := by
  refine k_start (cc := b_Ro_addBoth) (maxL := 5) (ret := none) (by decide) rfl (Nat.le_of_ble_eq_true rfl) ?_
  intro p ev s m ar below meth c A ls Qf hQf hx hb hr hml hts hown hlocks hin hK hG hA hP hD hS hl
  replace hown : s.vm.findClass R_Ro = some m.cls := hown
  replace hl : lv_has ls 5 [(0, .ref h), (1, .ref ha), (2, .ref ha), (3, .int (zI ↑k))] := hl
  have hkw : ∀ w ∈ kW, w.before ar s = true := fun w h => hts w (List.mem_cons_of_mem _ h)
  replace hP : va_P D k_cl ([(h, .inr (2, [.ref e])), (e, .inl (cI, 30, .inl (kA G0))), (ha, .inr (2, [.ref ea])), (ea, .inl (cI, 30, .inl (kA a)))]) s.heap := hP
  replace hD : va_D A ([(h, .inr (2, [.ref e])), (e, .inl (cI, 30, .inl (kA G0))), (ha, .inr (2, [.ref ea])), (ea, .inl (cI, 30, .inl (kA a)))]) := hD
  refine lv_iconst (v := zI 0) hx hb d_Ro_addBoth_0 (by decide) ?_
  refine lv_istore (lv' := [(4, .int (zI 0)), (0, .ref h), (1, .ref ha), (2, .ref ha), (3, .int (zI ↑k))]) hx hb d_Ro_addBoth_1 hl (by decide) rfl ?_
  clear hl; intro ls hl
  have loop_3 : ∀ (n : Nat) (i : Nat) (F : Nat → Nat), (i + n = 30) → (∀ j, F j ≤ 30) → (rBoth a a k n i F = rBoth a a k 30 0 G0) → ∀ (H : Heap) (locs : List Loc) (ls : Array Slot), va_P D k_cl ([(h, .inr (2, [.ref e])), (e, .inl (cI, 30, .inl (kA F))), (ha, .inr (2, [.ref ea])), (ea, .inl (cI, 30, .inl (kA a)))]) H → va_D A ([(h, .inr (2, [.ref e])), (e, .inl (cI, 30, .inl (kA F))), (ha, .inr (2, [.ref ea])), (ea, .inl (cI, 30, .inl (kA a)))]) → va_S A s.heap H locs → lv_has ls 5 [(0, .ref h), (1, .ref ha), (2, .ref ha), (3, .int (zI ↑k)), (4, .int (zI ↑i))] → W p l ev rm_Row_addBoth_same s m ar below meth c H locs 0 0 Qf (F0 m 3 ls []) := by
    intro n
    induction n with
    | zero =>
      intro i F hin hF hgo H locs ls hP hD hS hl
      refine lv_iload hx hb d_Ro_addBoth_3 (lv_at hl 4 rfl) ?_
      refine lv_bipush (v := zI 30) hx hb d_Ro_addBoth_5 (by decide) ?_
      refine k_icmp_ge (tgt := 40) hx hb d_Ro_addBoth_7 (by decide) ⟨by omega, by omega⟩ ⟨by omega, by omega⟩ (fun c_7 => ?_) (fun c_7 => ?_)
      · rw [← hQf]
        have hP : va_P D k_cl [(h, .inr (2, [.ref e])), (e, .inl (cI, 30, .inl (kA (rBoth a a k 30 0 G0)))), (ha, .inr (2, [.ref ea])), (ea, .inl (cI, 30, .inl (kA a)))] H := by
          rw [show rBoth a a k 30 0 G0 = F from hgo.symm]
          exact hP
        exact k_vret hx hb hr hlocks hP hS d_Ro_addBoth_40
      · exfalso; omega
    | succ n ih_3 =>
      intro i F hin hF hgo H locs ls hP hD hS hl
      refine lv_iload hx hb d_Ro_addBoth_3 (lv_at hl 4 rfl) ?_
      refine lv_bipush (v := zI 30) hx hb d_Ro_addBoth_5 (by decide) ?_
      refine k_icmp_ge (tgt := 40) hx hb d_Ro_addBoth_7 (by decide) ⟨by omega, by omega⟩ ⟨by omega, by omega⟩ (fun c_7 => ?_) (fun c_7 => ?_)
      · exfalso; omega
      · refine lv_aload_n hx hb d_Ro_addBoth_10 rfl (lv_at hl 1 rfl) ?_
        refine lv_iload hx hb d_Ro_addBoth_11 (lv_at hl 4 rfl) ?_
        refine k_beI (va_runV (As := [.int (zI ↑i)]) (rest := []) ⟨hx, hb, hml, hown, hkw⟩ (c_Row_beginsAt l D cI cR cG ha ea i a (by omega) ha30 _) (cwV 1 hkw (k_gV kw_methodLink_Ro_25 kw_instanceMethod_Ro_beginsAt kw_selects_Ro_beginsAt kw_initialized_Ro kw_code_Ro_beginsAt) rfl rfl rfl (by decide +kernel) ⟨(Nat.le_of_ble_eq_true rfl), (Nat.le_of_ble_eq_true rfl)⟩) (k_preV (q0 := 0) hK hG hP hD [2, 3] rfl rfl rfl rfl) rfl rfl hl.1 rfl (lv_room (Nat.le_of_ble_eq_true rfl)) d_Ro_addBoth_13 ⟨Nat.zero_le _, Nat.zero_le _⟩) hP hD hS hA [2, 3] rfl (Eq.trans (b := [ha, ea]) rfl rfl) ?_
        clear hP hD hS; intro H locs hP hD hS
        replace hP : va_P D k_cl ([(h, .inr (2, [.ref e])), (e, .inl (cI, 30, .inl (kA F))), (ha, .inr (2, [.ref ea])), (ea, .inl (cI, 30, .inl (kA a)))]) H := hP
        replace hD : va_D A ([(h, .inr (2, [.ref e])), (e, .inl (cI, 30, .inl (kA F))), (ha, .inr (2, [.ref ea])), (ea, .inl (cI, 30, .inl (kA a)))]) := hD
        refine k_bif_eq (tgt := 34) hx hb d_Ro_addBoth_16 (by decide) (fun c_16 => ?_) (fun c_16 => ?_)
        · refine k_iinc (v := ↑(i + 1)) (lv' := [(4, .int (zI (↑(i + 1)))), (0, .ref h), (1, .ref ha), (2, .ref ha), (3, .int (zI ↑k))]) hx hb d_Ro_addBoth_34 hl (k := 4) rfl (by omega) (by decide) rfl ?_
          clear hl; intro ls hl
          refine lv_goto (tgt := 3) hx hb d_Ro_addBoth_37 (by decide) ?_
          exact ih_3 (i + 1) F (by omega) hF (by rw [rBoth] at hgo; (repeat' split at hgo); all_goals first | exact hgo | (exfalso; omega) | contradiction) _ _ _ hP hD hS (lv_sub hl [1, 2, 3, 4, 0] rfl)
        · refine lv_aload_n hx hb d_Ro_addBoth_19 rfl (lv_at hl 0 rfl) ?_
          refine lv_iload hx hb d_Ro_addBoth_20 (lv_at hl 4 rfl) ?_
          refine lv_aload_n hx hb d_Ro_addBoth_22 rfl (lv_at hl 1 rfl) ?_
          refine va_get (D := D) (ci := 2) (v := .ref ea) (C := R_Ro) (T := T_Ro) (N := 1) hx hb hkw kin_Ro hown hK hP 2 rfl rfl 0 (by decide) (hkw _ kw_fieldLink_Ro_9) (fun _ h9 => h9) rfl d_Ro_addBoth_23 ?_
          refine lv_iload hx hb d_Ro_addBoth_26 (lv_at hl 4 rfl) ?_
          refine k_ald hx hb hK hP 3 0 rfl rfl (i := i) (by omega) (by omega) (by omega) d_Ro_addBoth_28 ?_
          have hv_1 := ha30 i
          refine lv_aload_n hx hb d_Ro_addBoth_29 rfl (lv_at hl 2 rfl) ?_
          refine lv_iload_n hx hb d_Ro_addBoth_30 rfl (lv_at hl 3 rfl) ?_
          refine k_beV (va_runV (As := [.int (zI ↑i), .int (zI (↑(a i))), .ref ha, .int (zI ↑k)]) (rest := []) ⟨hx, hb, hml, hown, hkw⟩ (c_Row_addBothOfOne l D cI cR cG h e ha ea i (a i) k F a (by omega) (by omega) (by omega) hF ha30 _) (cwV 4 hkw (k_gV kw_methodLink_Ro_50 kw_instanceMethod_Ro_addBothOfOne kw_selects_Ro_addBothOfOne kw_initialized_Ro kw_code_Ro_addBothOfOne) rfl rfl rfl (by decide +kernel) ⟨(Nat.le_of_ble_eq_true rfl), (Nat.le_of_ble_eq_true rfl)⟩) (k_preV (q0 := 0) hK hG hP hD [0, 1, 2, 3] rfl rfl rfl rfl) rfl rfl hl.1 rfl (lv_room (Nat.le_of_ble_eq_true rfl)) d_Ro_addBoth_31 ⟨Nat.zero_le _, Nat.zero_le _⟩) hP hD hS hA [0, 1, 2, 3] rfl (Eq.trans (b := [h, e, ha, ea]) rfl rfl) ?_
          clear hP hD hS; intro H locs hP hD hS
          replace hP : va_P D k_cl ([(h, .inr (2, [.ref e])), (e, .inl (cI, 30, .inl (kA (rBoth1 a i (a i) k 30 0 F)))), (ha, .inr (2, [.ref ea])), (ea, .inl (cI, 30, .inl (kA a)))]) H := hP
          replace hD : va_D A ([(h, .inr (2, [.ref e])), (e, .inl (cI, 30, .inl (kA (rBoth1 a i (a i) k 30 0 F)))), (ha, .inr (2, [.ref ea])), (ea, .inl (cI, 30, .inl (kA a)))]) := hD
          refine k_iinc (v := ↑(i + 1)) (lv' := [(4, .int (zI (↑(i + 1)))), (0, .ref h), (1, .ref ha), (2, .ref ha), (3, .int (zI ↑k))]) hx hb d_Ro_addBoth_34 hl (k := 4) rfl (by omega) (by decide) rfl ?_
          clear hl; intro ls hl
          refine lv_goto (tgt := 3) hx hb d_Ro_addBoth_37 (by decide) ?_
          exact ih_3 (i + 1) (rBoth1 a i (a i) k 30 0 F) (by omega) (r_bd_rBoth1 hF ha30 (by omega)) (by rw [rBoth] at hgo; (repeat' split at hgo); all_goals first | exact hgo | (exfalso; omega) | contradiction) _ _ _ hP hD hS (lv_sub hl [1, 2, 3, 4, 0] rfl)
  exact loop_3 30 0 G0 (by omega) hG0 rfl _ _ _ hP hD hS (lv_sub hl [1, 2, 3, 4, 0] rfl)

abbrev rm_Row_addHolding_same : Room := { frames := 3, cells := 0, slots := 0, locals := 64 }
set_option maxHeartbeats 4000000 in
set_option maxRecDepth 100000 in
theorem c_Row_addHolding_same (l : Launch) (D : va_G) (cI cR cG : ClassId) (h e ha ea : Nat) (G0 a : Nat → Nat) (hG0 : ∀ j, G0 j ≤ 30) (ha30 : ∀ j, a j ≤ 30) : k_M l y_Ro_addHolding (.code y_Ro_addHolding b_Ro_addHolding 4 none :: kW) rm_Row_addHolding_same D k_cl (k_ty cI cR cG) [.ref h, .ref ha, .ref ha] ([(h, .inr (2, [.ref e])), (e, .inl (cI, 30, .inl (kA G0))), (ha, .inr (2, [.ref ea])), (ea, .inl (cI, 30, .inl (kA a)))]) (k_Qv D k_cl [(h, .inr (2, [.ref e])), (e, .inl (cI, 30, .inl (kA (rHolding a a 30 0 G0)))), (ha, .inr (2, [.ref ea])), (ea, .inl (cI, 30, .inl (kA a)))]) := by
  refine k_start (cc := b_Ro_addHolding) (maxL := 4) (ret := none) (by decide) rfl (Nat.le_of_ble_eq_true rfl) ?_
  intro p ev s m ar below meth c A ls Qf hQf hx hb hr hml hts hown hlocks hin hK hG hA hP hD hS hl
  replace hown : s.vm.findClass R_Ro = some m.cls := hown
  replace hl : lv_has ls 4 [(0, .ref h), (1, .ref ha), (2, .ref ha)] := hl
  have hkw : ∀ w ∈ kW, w.before ar s = true := fun w h => hts w (List.mem_cons_of_mem _ h)
  replace hP : va_P D k_cl ([(h, .inr (2, [.ref e])), (e, .inl (cI, 30, .inl (kA G0))), (ha, .inr (2, [.ref ea])), (ea, .inl (cI, 30, .inl (kA a)))]) s.heap := hP
  replace hD : va_D A ([(h, .inr (2, [.ref e])), (e, .inl (cI, 30, .inl (kA G0))), (ha, .inr (2, [.ref ea])), (ea, .inl (cI, 30, .inl (kA a)))]) := hD
  refine lv_iconst (v := zI 0) hx hb d_Ro_addHolding_0 (by decide) ?_
  refine lv_istore_n (lv' := [(3, .int (zI 0)), (0, .ref h), (1, .ref ha), (2, .ref ha)]) hx hb d_Ro_addHolding_1 rfl hl (by decide) rfl ?_
  clear hl; intro ls hl
  have loop_2 : ∀ (n : Nat) (i : Nat) (F : Nat → Nat), (i + n = 30) → (∀ j, F j ≤ 30) → (rHolding a a n i F = rHolding a a 30 0 G0) → ∀ (H : Heap) (locs : List Loc) (ls : Array Slot), va_P D k_cl ([(h, .inr (2, [.ref e])), (e, .inl (cI, 30, .inl (kA F))), (ha, .inr (2, [.ref ea])), (ea, .inl (cI, 30, .inl (kA a)))]) H → va_D A ([(h, .inr (2, [.ref e])), (e, .inl (cI, 30, .inl (kA F))), (ha, .inr (2, [.ref ea])), (ea, .inl (cI, 30, .inl (kA a)))]) → va_S A s.heap H locs → lv_has ls 4 [(0, .ref h), (1, .ref ha), (2, .ref ha), (3, .int (zI ↑i))] → W p l ev rm_Row_addHolding_same s m ar below meth c H locs 0 0 Qf (F0 m 2 ls []) := by
    intro n
    induction n with
    | zero =>
      intro i F hin hF hgo H locs ls hP hD hS hl
      refine lv_iload_n hx hb d_Ro_addHolding_2 rfl (lv_at hl 3 rfl) ?_
      refine lv_bipush (v := zI 30) hx hb d_Ro_addHolding_3 (by decide) ?_
      refine k_icmp_ge (tgt := 47) hx hb d_Ro_addHolding_5 (by decide) ⟨by omega, by omega⟩ ⟨by omega, by omega⟩ (fun c_5 => ?_) (fun c_5 => ?_)
      · rw [← hQf]
        have hP : va_P D k_cl [(h, .inr (2, [.ref e])), (e, .inl (cI, 30, .inl (kA (rHolding a a 30 0 G0)))), (ha, .inr (2, [.ref ea])), (ea, .inl (cI, 30, .inl (kA a)))] H := by
          rw [show rHolding a a 30 0 G0 = F from hgo.symm]
          exact hP
        exact k_vret hx hb hr hlocks hP hS d_Ro_addHolding_47
      · exfalso; omega
    | succ n ih_2 =>
      intro i F hin hF hgo H locs ls hP hD hS hl
      refine lv_iload_n hx hb d_Ro_addHolding_2 rfl (lv_at hl 3 rfl) ?_
      refine lv_bipush (v := zI 30) hx hb d_Ro_addHolding_3 (by decide) ?_
      refine k_icmp_ge (tgt := 47) hx hb d_Ro_addHolding_5 (by decide) ⟨by omega, by omega⟩ ⟨by omega, by omega⟩ (fun c_5 => ?_) (fun c_5 => ?_)
      · exfalso; omega
      · refine lv_aload_n hx hb d_Ro_addHolding_8 rfl (lv_at hl 1 rfl) ?_
        refine lv_iload_n hx hb d_Ro_addHolding_9 rfl (lv_at hl 3 rfl) ?_
        refine k_beI (va_runV (As := [.int (zI ↑i)]) (rest := []) ⟨hx, hb, hml, hown, hkw⟩ (c_Row_beginsAt l D cI cR cG ha ea i a (by omega) ha30 _) (cwV 1 hkw (k_gV kw_methodLink_Ro_25 kw_instanceMethod_Ro_beginsAt kw_selects_Ro_beginsAt kw_initialized_Ro kw_code_Ro_beginsAt) rfl rfl rfl (by decide +kernel) ⟨(Nat.le_of_ble_eq_true rfl), (Nat.le_of_ble_eq_true rfl)⟩) (k_preV (q0 := 0) hK hG hP hD [2, 3] rfl rfl rfl rfl) rfl rfl hl.1 rfl (lv_room (Nat.le_of_ble_eq_true rfl)) d_Ro_addHolding_10 ⟨Nat.zero_le _, Nat.zero_le _⟩) hP hD hS hA [2, 3] rfl (Eq.trans (b := [ha, ea]) rfl rfl) ?_
        clear hP hD hS; intro H locs hP hD hS
        replace hP : va_P D k_cl ([(h, .inr (2, [.ref e])), (e, .inl (cI, 30, .inl (kA F))), (ha, .inr (2, [.ref ea])), (ea, .inl (cI, 30, .inl (kA a)))]) H := hP
        replace hD : va_D A ([(h, .inr (2, [.ref e])), (e, .inl (cI, 30, .inl (kA F))), (ha, .inr (2, [.ref ea])), (ea, .inl (cI, 30, .inl (kA a)))]) := hD
        refine k_bif_eq (tgt := 41) hx hb d_Ro_addHolding_13 (by decide) (fun c_13 => ?_) (fun c_13 => ?_)
        · refine k_iinc (v := ↑(i + 1)) (lv' := [(3, .int (zI (↑(i + 1)))), (0, .ref h), (1, .ref ha), (2, .ref ha)]) hx hb d_Ro_addHolding_41 hl (k := 3) rfl (by omega) (by decide) rfl ?_
          clear hl; intro ls hl
          refine lv_goto (tgt := 2) hx hb d_Ro_addHolding_44 (by decide) ?_
          exact ih_2 (i + 1) F (by omega) hF (by rw [rHolding] at hgo; (repeat' split at hgo); all_goals first | exact hgo | (exfalso; omega) | contradiction) _ _ _ hP hD hS (lv_sub hl [1, 2, 3, 0] rfl)
        · refine lv_aload_n hx hb d_Ro_addHolding_16 rfl (lv_at hl 2 rfl) ?_
          refine lv_iload_n hx hb d_Ro_addHolding_17 rfl (lv_at hl 3 rfl) ?_
          refine lv_aload_n hx hb d_Ro_addHolding_18 rfl (lv_at hl 1 rfl) ?_
          refine va_get (D := D) (ci := 2) (v := .ref ea) (C := R_Ro) (T := T_Ro) (N := 1) hx hb hkw kin_Ro hown hK hP 2 rfl rfl 0 (by decide) (hkw _ kw_fieldLink_Ro_9) (fun _ h9 => h9) rfl d_Ro_addHolding_19 ?_
          refine lv_iload_n hx hb d_Ro_addHolding_22 rfl (lv_at hl 3 rfl) ?_
          refine k_ald hx hb hK hP 3 0 rfl rfl (i := i) (by omega) (by omega) (by omega) d_Ro_addHolding_23 ?_
          have hv_1 := ha30 i
          refine k_beI (va_runV (As := [.int (zI ↑i), .int (zI (↑(a i)))]) (rest := []) ⟨hx, hb, hml, hown, hkw⟩ (c_Row_hasWithin l D cI cR cG ha ea i (a i) a (by omega) (by omega) ha30 _) (cwV 2 hkw (k_gV kw_methodLink_Ro_56 kw_instanceMethod_Ro_hasWithin kw_selects_Ro_hasWithin kw_initialized_Ro kw_code_Ro_hasWithin) rfl rfl rfl (by decide +kernel) ⟨(Nat.le_of_ble_eq_true rfl), (Nat.le_of_ble_eq_true rfl)⟩) (k_preV (q0 := 0) hK hG hP hD [2, 3] rfl rfl rfl rfl) rfl rfl hl.1 rfl (lv_room (Nat.le_of_ble_eq_true rfl)) d_Ro_addHolding_24 ⟨Nat.zero_le _, Nat.zero_le _⟩) hP hD hS hA [2, 3] rfl (Eq.trans (b := [ha, ea]) rfl rfl) ?_
          clear hP hD hS; intro H locs hP hD hS
          replace hP : va_P D k_cl ([(h, .inr (2, [.ref e])), (e, .inl (cI, 30, .inl (kA F))), (ha, .inr (2, [.ref ea])), (ea, .inl (cI, 30, .inl (kA a)))]) H := hP
          replace hD : va_D A ([(h, .inr (2, [.ref e])), (e, .inl (cI, 30, .inl (kA F))), (ha, .inr (2, [.ref ea])), (ea, .inl (cI, 30, .inl (kA a)))]) := hD
          refine k_bif_eq (tgt := 41) hx hb d_Ro_addHolding_27 (by decide) (fun c_27 => ?_) (fun c_27 => ?_)
          · refine k_iinc (v := ↑(i + 1)) (lv' := [(3, .int (zI (↑(i + 1)))), (0, .ref h), (1, .ref ha), (2, .ref ha)]) hx hb d_Ro_addHolding_41 hl (k := 3) rfl (by omega) (by decide) rfl ?_
            clear hl; intro ls hl
            refine lv_goto (tgt := 2) hx hb d_Ro_addHolding_44 (by decide) ?_
            exact ih_2 (i + 1) F (by omega) hF (by rw [rHolding] at hgo; (repeat' split at hgo); all_goals first | exact hgo | (exfalso; omega) | contradiction) _ _ _ hP hD hS (lv_sub hl [1, 2, 3, 0] rfl)
          · refine lv_aload_n hx hb d_Ro_addHolding_30 rfl (lv_at hl 0 rfl) ?_
            refine lv_iload_n hx hb d_Ro_addHolding_31 rfl (lv_at hl 3 rfl) ?_
            refine lv_aload_n hx hb d_Ro_addHolding_32 rfl (lv_at hl 1 rfl) ?_
            refine va_get (D := D) (ci := 2) (v := .ref ea) (C := R_Ro) (T := T_Ro) (N := 1) hx hb hkw kin_Ro hown hK hP 2 rfl rfl 0 (by decide) (hkw _ kw_fieldLink_Ro_9) (fun _ h9 => h9) rfl d_Ro_addHolding_33 ?_
            refine lv_iload_n hx hb d_Ro_addHolding_36 rfl (lv_at hl 3 rfl) ?_
            refine k_ald hx hb hK hP 3 0 rfl rfl (i := i) (by omega) (by omega) (by omega) d_Ro_addHolding_37 ?_
            have hv_2 := ha30 i
            refine k_beV (va_runV (As := [.int (zI ↑i), .int (zI (↑(a i)))]) (rest := []) ⟨hx, hb, hml, hown, hkw⟩ (c_Row_add l D cI cR cG h e i (a i) F (by omega) (by omega) hF _) (cwV 2 hkw (k_gV kw_methodLink_Ro_38 kw_instanceMethod_Ro_add kw_selects_Ro_add kw_initialized_Ro kw_code_Ro_add) rfl rfl rfl (by decide +kernel) ⟨(Nat.le_of_ble_eq_true rfl), (Nat.le_of_ble_eq_true rfl)⟩) (k_preV (q0 := 0) hK hG hP hD [0, 1] rfl rfl rfl rfl) rfl rfl hl.1 rfl (lv_room (Nat.le_of_ble_eq_true rfl)) d_Ro_addHolding_38 ⟨Nat.zero_le _, Nat.zero_le _⟩) hP hD hS hA [0, 1] rfl (Eq.trans (b := [h, e]) rfl rfl) ?_
            clear hP hD hS; intro H locs hP hD hS
            replace hP : va_P D k_cl ([(h, .inr (2, [.ref e])), (e, .inl (cI, 30, .inl (kA (rAdd F i (a i))))), (ha, .inr (2, [.ref ea])), (ea, .inl (cI, 30, .inl (kA a)))]) H := hP
            replace hD : va_D A ([(h, .inr (2, [.ref e])), (e, .inl (cI, 30, .inl (kA (rAdd F i (a i))))), (ha, .inr (2, [.ref ea])), (ea, .inl (cI, 30, .inl (kA a)))]) := hD
            refine k_iinc (v := ↑(i + 1)) (lv' := [(3, .int (zI (↑(i + 1)))), (0, .ref h), (1, .ref ha), (2, .ref ha)]) hx hb d_Ro_addHolding_41 hl (k := 3) rfl (by omega) (by decide) rfl ?_
            clear hl; intro ls hl
            refine lv_goto (tgt := 2) hx hb d_Ro_addHolding_44 (by decide) ?_
            exact ih_2 (i + 1) (rAdd F i (a i)) (by omega) (rAdd_le hF (by omega)) (by rw [rHolding] at hgo; (repeat' split at hgo); all_goals first | exact hgo | (exfalso; omega) | contradiction) _ _ _ hP hD hS (lv_sub hl [1, 2, 3, 0] rfl)
  exact loop_2 30 0 G0 (by omega) hG0 rfl _ _ _ hP hD hS (lv_sub hl [1, 2, 3, 0] rfl)

abbrev rm_Row_addIn_same : Room := { frames := 3, cells := 0, slots := 0, locals := 64 }
set_option maxHeartbeats 4000000 in
set_option maxRecDepth 100000 in
theorem c_Row_addIn_same (l : Launch) (D : va_G) (cI cR cG : ClassId) (h e ha ea : Nat) (G0 a : Nat → Nat) (hG0 : ∀ j, G0 j ≤ 30) (ha30 : ∀ j, a j ≤ 30) : k_M l y_Ro_addIn (.code y_Ro_addIn b_Ro_addIn 4 none :: kW) rm_Row_addIn_same D k_cl (k_ty cI cR cG) [.ref h, .ref ha, .ref ha] ([(h, .inr (2, [.ref e])), (e, .inl (cI, 30, .inl (kA G0))), (ha, .inr (2, [.ref ea])), (ea, .inl (cI, 30, .inl (kA a)))]) (k_Qv D k_cl [(h, .inr (2, [.ref e])), (e, .inl (cI, 30, .inl (kA (rIn a a 30 0 G0)))), (ha, .inr (2, [.ref ea])), (ea, .inl (cI, 30, .inl (kA a)))]) := by
  refine k_start (cc := b_Ro_addIn) (maxL := 4) (ret := none) (by decide) rfl (Nat.le_of_ble_eq_true rfl) ?_
  intro p ev s m ar below meth c A ls Qf hQf hx hb hr hml hts hown hlocks hin hK hG hA hP hD hS hl
  replace hown : s.vm.findClass R_Ro = some m.cls := hown
  replace hl : lv_has ls 4 [(0, .ref h), (1, .ref ha), (2, .ref ha)] := hl
  have hkw : ∀ w ∈ kW, w.before ar s = true := fun w h => hts w (List.mem_cons_of_mem _ h)
  replace hP : va_P D k_cl ([(h, .inr (2, [.ref e])), (e, .inl (cI, 30, .inl (kA G0))), (ha, .inr (2, [.ref ea])), (ea, .inl (cI, 30, .inl (kA a)))]) s.heap := hP
  replace hD : va_D A ([(h, .inr (2, [.ref e])), (e, .inl (cI, 30, .inl (kA G0))), (ha, .inr (2, [.ref ea])), (ea, .inl (cI, 30, .inl (kA a)))]) := hD
  refine lv_iconst (v := zI 0) hx hb d_Ro_addIn_0 (by decide) ?_
  refine lv_istore_n (lv' := [(3, .int (zI 0)), (0, .ref h), (1, .ref ha), (2, .ref ha)]) hx hb d_Ro_addIn_1 rfl hl (by decide) rfl ?_
  clear hl; intro ls hl
  have loop_2 : ∀ (n : Nat) (i : Nat) (F : Nat → Nat), (i + n = 30) → (∀ j, F j ≤ 30) → (rIn a a n i F = rIn a a 30 0 G0) → ∀ (H : Heap) (locs : List Loc) (ls : Array Slot), va_P D k_cl ([(h, .inr (2, [.ref e])), (e, .inl (cI, 30, .inl (kA F))), (ha, .inr (2, [.ref ea])), (ea, .inl (cI, 30, .inl (kA a)))]) H → va_D A ([(h, .inr (2, [.ref e])), (e, .inl (cI, 30, .inl (kA F))), (ha, .inr (2, [.ref ea])), (ea, .inl (cI, 30, .inl (kA a)))]) → va_S A s.heap H locs → lv_has ls 4 [(0, .ref h), (1, .ref ha), (2, .ref ha), (3, .int (zI ↑i))] → W p l ev rm_Row_addIn_same s m ar below meth c H locs 0 0 Qf (F0 m 2 ls []) := by
    intro n
    induction n with
    | zero =>
      intro i F hin hF hgo H locs ls hP hD hS hl
      refine lv_iload_n hx hb d_Ro_addIn_2 rfl (lv_at hl 3 rfl) ?_
      refine lv_bipush (v := zI 30) hx hb d_Ro_addIn_3 (by decide) ?_
      refine k_icmp_ge (tgt := 47) hx hb d_Ro_addIn_5 (by decide) ⟨by omega, by omega⟩ ⟨by omega, by omega⟩ (fun c_5 => ?_) (fun c_5 => ?_)
      · rw [← hQf]
        have hP : va_P D k_cl [(h, .inr (2, [.ref e])), (e, .inl (cI, 30, .inl (kA (rIn a a 30 0 G0)))), (ha, .inr (2, [.ref ea])), (ea, .inl (cI, 30, .inl (kA a)))] H := by
          rw [show rIn a a 30 0 G0 = F from hgo.symm]
          exact hP
        exact k_vret hx hb hr hlocks hP hS d_Ro_addIn_47
      · exfalso; omega
    | succ n ih_2 =>
      intro i F hin hF hgo H locs ls hP hD hS hl
      refine lv_iload_n hx hb d_Ro_addIn_2 rfl (lv_at hl 3 rfl) ?_
      refine lv_bipush (v := zI 30) hx hb d_Ro_addIn_3 (by decide) ?_
      refine k_icmp_ge (tgt := 47) hx hb d_Ro_addIn_5 (by decide) ⟨by omega, by omega⟩ ⟨by omega, by omega⟩ (fun c_5 => ?_) (fun c_5 => ?_)
      · exfalso; omega
      · refine lv_aload_n hx hb d_Ro_addIn_8 rfl (lv_at hl 1 rfl) ?_
        refine lv_iload_n hx hb d_Ro_addIn_9 rfl (lv_at hl 3 rfl) ?_
        refine k_beI (va_runV (As := [.int (zI ↑i)]) (rest := []) ⟨hx, hb, hml, hown, hkw⟩ (c_Row_beginsAt l D cI cR cG ha ea i a (by omega) ha30 _) (cwV 1 hkw (k_gV kw_methodLink_Ro_25 kw_instanceMethod_Ro_beginsAt kw_selects_Ro_beginsAt kw_initialized_Ro kw_code_Ro_beginsAt) rfl rfl rfl (by decide +kernel) ⟨(Nat.le_of_ble_eq_true rfl), (Nat.le_of_ble_eq_true rfl)⟩) (k_preV (q0 := 0) hK hG hP hD [2, 3] rfl rfl rfl rfl) rfl rfl hl.1 rfl (lv_room (Nat.le_of_ble_eq_true rfl)) d_Ro_addIn_10 ⟨Nat.zero_le _, Nat.zero_le _⟩) hP hD hS hA [2, 3] rfl (Eq.trans (b := [ha, ea]) rfl rfl) ?_
        clear hP hD hS; intro H locs hP hD hS
        replace hP : va_P D k_cl ([(h, .inr (2, [.ref e])), (e, .inl (cI, 30, .inl (kA F))), (ha, .inr (2, [.ref ea])), (ea, .inl (cI, 30, .inl (kA a)))]) H := hP
        replace hD : va_D A ([(h, .inr (2, [.ref e])), (e, .inl (cI, 30, .inl (kA F))), (ha, .inr (2, [.ref ea])), (ea, .inl (cI, 30, .inl (kA a)))]) := hD
        refine k_bif_eq (tgt := 41) hx hb d_Ro_addIn_13 (by decide) (fun c_13 => ?_) (fun c_13 => ?_)
        · refine k_iinc (v := ↑(i + 1)) (lv' := [(3, .int (zI (↑(i + 1)))), (0, .ref h), (1, .ref ha), (2, .ref ha)]) hx hb d_Ro_addIn_41 hl (k := 3) rfl (by omega) (by decide) rfl ?_
          clear hl; intro ls hl
          refine lv_goto (tgt := 2) hx hb d_Ro_addIn_44 (by decide) ?_
          exact ih_2 (i + 1) F (by omega) hF (by rw [rIn] at hgo; (repeat' split at hgo); all_goals first | exact hgo | (exfalso; omega) | contradiction) _ _ _ hP hD hS (lv_sub hl [1, 2, 3, 0] rfl)
        · refine lv_aload_n hx hb d_Ro_addIn_16 rfl (lv_at hl 2 rfl) ?_
          refine lv_iload_n hx hb d_Ro_addIn_17 rfl (lv_at hl 3 rfl) ?_
          refine lv_aload_n hx hb d_Ro_addIn_18 rfl (lv_at hl 1 rfl) ?_
          refine va_get (D := D) (ci := 2) (v := .ref ea) (C := R_Ro) (T := T_Ro) (N := 1) hx hb hkw kin_Ro hown hK hP 2 rfl rfl 0 (by decide) (hkw _ kw_fieldLink_Ro_9) (fun _ h9 => h9) rfl d_Ro_addIn_19 ?_
          refine lv_iload_n hx hb d_Ro_addIn_22 rfl (lv_at hl 3 rfl) ?_
          refine k_ald hx hb hK hP 3 0 rfl rfl (i := i) (by omega) (by omega) (by omega) d_Ro_addIn_23 ?_
          have hv_1 := ha30 i
          refine k_beI (va_runV (As := [.int (zI ↑i), .int (zI (↑(a i)))]) (rest := []) ⟨hx, hb, hml, hown, hkw⟩ (c_Row_hasAround l D cI cR cG ha ea i (a i) a (by omega) (by omega) ha30 _) (cwV 2 hkw (k_gV kw_methodLink_Ro_60 kw_instanceMethod_Ro_hasAround kw_selects_Ro_hasAround kw_initialized_Ro kw_code_Ro_hasAround) rfl rfl rfl (by decide +kernel) ⟨(Nat.le_of_ble_eq_true rfl), (Nat.le_of_ble_eq_true rfl)⟩) (k_preV (q0 := 0) hK hG hP hD [2, 3] rfl rfl rfl rfl) rfl rfl hl.1 rfl (lv_room (Nat.le_of_ble_eq_true rfl)) d_Ro_addIn_24 ⟨Nat.zero_le _, Nat.zero_le _⟩) hP hD hS hA [2, 3] rfl (Eq.trans (b := [ha, ea]) rfl rfl) ?_
          clear hP hD hS; intro H locs hP hD hS
          replace hP : va_P D k_cl ([(h, .inr (2, [.ref e])), (e, .inl (cI, 30, .inl (kA F))), (ha, .inr (2, [.ref ea])), (ea, .inl (cI, 30, .inl (kA a)))]) H := hP
          replace hD : va_D A ([(h, .inr (2, [.ref e])), (e, .inl (cI, 30, .inl (kA F))), (ha, .inr (2, [.ref ea])), (ea, .inl (cI, 30, .inl (kA a)))]) := hD
          refine k_bif_eq (tgt := 41) hx hb d_Ro_addIn_27 (by decide) (fun c_27 => ?_) (fun c_27 => ?_)
          · refine k_iinc (v := ↑(i + 1)) (lv' := [(3, .int (zI (↑(i + 1)))), (0, .ref h), (1, .ref ha), (2, .ref ha)]) hx hb d_Ro_addIn_41 hl (k := 3) rfl (by omega) (by decide) rfl ?_
            clear hl; intro ls hl
            refine lv_goto (tgt := 2) hx hb d_Ro_addIn_44 (by decide) ?_
            exact ih_2 (i + 1) F (by omega) hF (by rw [rIn] at hgo; (repeat' split at hgo); all_goals first | exact hgo | (exfalso; omega) | contradiction) _ _ _ hP hD hS (lv_sub hl [1, 2, 3, 0] rfl)
          · refine lv_aload_n hx hb d_Ro_addIn_30 rfl (lv_at hl 0 rfl) ?_
            refine lv_iload_n hx hb d_Ro_addIn_31 rfl (lv_at hl 3 rfl) ?_
            refine lv_aload_n hx hb d_Ro_addIn_32 rfl (lv_at hl 1 rfl) ?_
            refine va_get (D := D) (ci := 2) (v := .ref ea) (C := R_Ro) (T := T_Ro) (N := 1) hx hb hkw kin_Ro hown hK hP 2 rfl rfl 0 (by decide) (hkw _ kw_fieldLink_Ro_9) (fun _ h9 => h9) rfl d_Ro_addIn_33 ?_
            refine lv_iload_n hx hb d_Ro_addIn_36 rfl (lv_at hl 3 rfl) ?_
            refine k_ald hx hb hK hP 3 0 rfl rfl (i := i) (by omega) (by omega) (by omega) d_Ro_addIn_37 ?_
            have hv_2 := ha30 i
            refine k_beV (va_runV (As := [.int (zI ↑i), .int (zI (↑(a i)))]) (rest := []) ⟨hx, hb, hml, hown, hkw⟩ (c_Row_add l D cI cR cG h e i (a i) F (by omega) (by omega) hF _) (cwV 2 hkw (k_gV kw_methodLink_Ro_38 kw_instanceMethod_Ro_add kw_selects_Ro_add kw_initialized_Ro kw_code_Ro_add) rfl rfl rfl (by decide +kernel) ⟨(Nat.le_of_ble_eq_true rfl), (Nat.le_of_ble_eq_true rfl)⟩) (k_preV (q0 := 0) hK hG hP hD [0, 1] rfl rfl rfl rfl) rfl rfl hl.1 rfl (lv_room (Nat.le_of_ble_eq_true rfl)) d_Ro_addIn_38 ⟨Nat.zero_le _, Nat.zero_le _⟩) hP hD hS hA [0, 1] rfl (Eq.trans (b := [h, e]) rfl rfl) ?_
            clear hP hD hS; intro H locs hP hD hS
            replace hP : va_P D k_cl ([(h, .inr (2, [.ref e])), (e, .inl (cI, 30, .inl (kA (rAdd F i (a i))))), (ha, .inr (2, [.ref ea])), (ea, .inl (cI, 30, .inl (kA a)))]) H := hP
            replace hD : va_D A ([(h, .inr (2, [.ref e])), (e, .inl (cI, 30, .inl (kA (rAdd F i (a i))))), (ha, .inr (2, [.ref ea])), (ea, .inl (cI, 30, .inl (kA a)))]) := hD
            refine k_iinc (v := ↑(i + 1)) (lv' := [(3, .int (zI (↑(i + 1)))), (0, .ref h), (1, .ref ha), (2, .ref ha)]) hx hb d_Ro_addIn_41 hl (k := 3) rfl (by omega) (by decide) rfl ?_
            clear hl; intro ls hl
            refine lv_goto (tgt := 2) hx hb d_Ro_addIn_44 (by decide) ?_
            exact ih_2 (i + 1) (rAdd F i (a i)) (by omega) (rAdd_le hF (by omega)) (by rw [rIn] at hgo; (repeat' split at hgo); all_goals first | exact hgo | (exfalso; omega) | contradiction) _ _ _ hP hD hS (lv_sub hl [1, 2, 3, 0] rfl)
  exact loop_2 30 0 G0 (by omega) hG0 rfl _ _ _ hP hD hS (lv_sub hl [1, 2, 3, 0] rfl)

abbrev rm_Row_addByNearness_same : Room := { frames := 3, cells := 0, slots := 0, locals := 65 }
set_option maxHeartbeats 4000000 in
set_option maxRecDepth 100000 in
theorem c_Row_addByNearness_same (l : Launch) (D : va_G) (cI cR cG : ClassId) (h e ha ea : Nat) (k : Int) (w : Bool) (G0 a : Nat → Nat) (hk : -1 ≤ k ∧ k ≤ 30) (hG0 : ∀ j, G0 j ≤ 30) (ha30 : ∀ j, a j ≤ 30) : k_M l y_Ro_addByNearness (.code y_Ro_addByNearness b_Ro_addByNearness 6 none :: kW) rm_Row_addByNearness_same D k_cl (k_ty cI cR cG) [.ref h, .ref ha, .ref ha, .int (zI k), .int (k_b (w = true))] ([(h, .inr (2, [.ref e])), (e, .inl (cI, 30, .inl (kA G0))), (ha, .inr (2, [.ref ea])), (ea, .inl (cI, 30, .inl (kA a)))]) (k_Qv D k_cl [(h, .inr (2, [.ref e])), (e, .inl (cI, 30, .inl (kA (rNear a a k w 30 0 G0)))), (ha, .inr (2, [.ref ea])), (ea, .inl (cI, 30, .inl (kA a)))]) := by
  refine k_start (cc := b_Ro_addByNearness) (maxL := 6) (ret := none) (by decide) rfl (Nat.le_of_ble_eq_true rfl) ?_
  intro p ev s m ar below meth c A ls Qf hQf hx hb hr hml hts hown hlocks hin hK hG hA hP hD hS hl
  replace hown : s.vm.findClass R_Ro = some m.cls := hown
  replace hl : lv_has ls 6 [(0, .ref h), (1, .ref ha), (2, .ref ha), (3, .int (zI k)), (4, .int (k_b (w = true)))] := hl
  have hkw : ∀ w ∈ kW, w.before ar s = true := fun w h => hts w (List.mem_cons_of_mem _ h)
  replace hP : va_P D k_cl ([(h, .inr (2, [.ref e])), (e, .inl (cI, 30, .inl (kA G0))), (ha, .inr (2, [.ref ea])), (ea, .inl (cI, 30, .inl (kA a)))]) s.heap := hP
  replace hD : va_D A ([(h, .inr (2, [.ref e])), (e, .inl (cI, 30, .inl (kA G0))), (ha, .inr (2, [.ref ea])), (ea, .inl (cI, 30, .inl (kA a)))]) := hD
  refine lv_iconst (v := zI 0) hx hb d_Ro_addByNearness_0 (by decide) ?_
  refine lv_istore (lv' := [(5, .int (zI 0)), (0, .ref h), (1, .ref ha), (2, .ref ha), (3, .int (zI k)), (4, .int (k_b (w = true)))]) hx hb d_Ro_addByNearness_1 hl (by decide) rfl ?_
  clear hl; intro ls hl
  have loop_3 : ∀ (n : Nat) (i : Nat) (F : Nat → Nat), (i + n = 30) → (∀ j, F j ≤ 30) → (rNear a a k w n i F = rNear a a k w 30 0 G0) → ∀ (H : Heap) (locs : List Loc) (ls : Array Slot), va_P D k_cl ([(h, .inr (2, [.ref e])), (e, .inl (cI, 30, .inl (kA F))), (ha, .inr (2, [.ref ea])), (ea, .inl (cI, 30, .inl (kA a)))]) H → va_D A ([(h, .inr (2, [.ref e])), (e, .inl (cI, 30, .inl (kA F))), (ha, .inr (2, [.ref ea])), (ea, .inl (cI, 30, .inl (kA a)))]) → va_S A s.heap H locs → lv_has ls 6 [(0, .ref h), (1, .ref ha), (2, .ref ha), (3, .int (zI k)), (4, .int (k_b (w = true))), (5, .int (zI ↑i))] → W p l ev rm_Row_addByNearness_same s m ar below meth c H locs 0 0 Qf (F0 m 3 ls []) := by
    intro n
    induction n with
    | zero =>
      intro i F hin hF hgo H locs ls hP hD hS hl
      refine lv_iload hx hb d_Ro_addByNearness_3 (lv_at hl 5 rfl) ?_
      refine lv_bipush (v := zI 30) hx hb d_Ro_addByNearness_5 (by decide) ?_
      refine k_icmp_ge (tgt := 57) hx hb d_Ro_addByNearness_7 (by decide) ⟨by omega, by omega⟩ ⟨by omega, by omega⟩ (fun c_7 => ?_) (fun c_7 => ?_)
      · rw [← hQf]
        have hP : va_P D k_cl [(h, .inr (2, [.ref e])), (e, .inl (cI, 30, .inl (kA (rNear a a k w 30 0 G0)))), (ha, .inr (2, [.ref ea])), (ea, .inl (cI, 30, .inl (kA a)))] H := by
          rw [show rNear a a k w 30 0 G0 = F from hgo.symm]
          exact hP
        exact k_vret hx hb hr hlocks hP hS d_Ro_addByNearness_57
      · exfalso; omega
    | succ n ih_3 =>
      intro i F hin hF hgo H locs ls hP hD hS hl
      refine lv_iload hx hb d_Ro_addByNearness_3 (lv_at hl 5 rfl) ?_
      refine lv_bipush (v := zI 30) hx hb d_Ro_addByNearness_5 (by decide) ?_
      refine k_icmp_ge (tgt := 57) hx hb d_Ro_addByNearness_7 (by decide) ⟨by omega, by omega⟩ ⟨by omega, by omega⟩ (fun c_7 => ?_) (fun c_7 => ?_)
      · exfalso; omega
      · refine lv_aload_n hx hb d_Ro_addByNearness_10 rfl (lv_at hl 1 rfl) ?_
        refine lv_iload hx hb d_Ro_addByNearness_11 (lv_at hl 5 rfl) ?_
        refine k_beI (va_runV (As := [.int (zI ↑i)]) (rest := []) ⟨hx, hb, hml, hown, hkw⟩ (c_Row_beginsAt l D cI cR cG ha ea i a (by omega) ha30 _) (cwV 1 hkw (k_gV kw_methodLink_Ro_25 kw_instanceMethod_Ro_beginsAt kw_selects_Ro_beginsAt kw_initialized_Ro kw_code_Ro_beginsAt) rfl rfl rfl (by decide +kernel) ⟨(Nat.le_of_ble_eq_true rfl), (Nat.le_of_ble_eq_true rfl)⟩) (k_preV (q0 := 0) hK hG hP hD [2, 3] rfl rfl rfl rfl) rfl rfl hl.1 rfl (lv_room (Nat.le_of_ble_eq_true rfl)) d_Ro_addByNearness_13 ⟨Nat.zero_le _, Nat.zero_le _⟩) hP hD hS hA [2, 3] rfl (Eq.trans (b := [ha, ea]) rfl rfl) ?_
        clear hP hD hS; intro H locs hP hD hS
        replace hP : va_P D k_cl ([(h, .inr (2, [.ref e])), (e, .inl (cI, 30, .inl (kA F))), (ha, .inr (2, [.ref ea])), (ea, .inl (cI, 30, .inl (kA a)))]) H := hP
        replace hD : va_D A ([(h, .inr (2, [.ref e])), (e, .inl (cI, 30, .inl (kA F))), (ha, .inr (2, [.ref ea])), (ea, .inl (cI, 30, .inl (kA a)))]) := hD
        refine k_bif_eq (tgt := 51) hx hb d_Ro_addByNearness_16 (by decide) (fun c_16 => ?_) (fun c_16 => ?_)
        · refine k_iinc (v := ↑(i + 1)) (lv' := [(5, .int (zI (↑(i + 1)))), (0, .ref h), (1, .ref ha), (2, .ref ha), (3, .int (zI k)), (4, .int (k_b (w = true)))]) hx hb d_Ro_addByNearness_51 hl (k := 5) rfl (by omega) (by decide) rfl ?_
          clear hl; intro ls hl
          refine lv_goto (tgt := 3) hx hb d_Ro_addByNearness_54 (by decide) ?_
          exact ih_3 (i + 1) F (by omega) hF (by rw [rNear] at hgo; (repeat' split at hgo); all_goals first | exact hgo | (exfalso; omega) | contradiction) _ _ _ hP hD hS (lv_sub hl [1, 2, 3, 4, 5, 0] rfl)
        · refine lv_aload_n hx hb d_Ro_addByNearness_19 rfl (lv_at hl 2 rfl) ?_
          refine lv_iload hx hb d_Ro_addByNearness_20 (lv_at hl 5 rfl) ?_
          refine lv_aload_n hx hb d_Ro_addByNearness_22 rfl (lv_at hl 1 rfl) ?_
          refine va_get (D := D) (ci := 2) (v := .ref ea) (C := R_Ro) (T := T_Ro) (N := 1) hx hb hkw kin_Ro hown hK hP 2 rfl rfl 0 (by decide) (hkw _ kw_fieldLink_Ro_9) (fun _ h9 => h9) rfl d_Ro_addByNearness_23 ?_
          refine lv_iload hx hb d_Ro_addByNearness_26 (lv_at hl 5 rfl) ?_
          refine k_ald hx hb hK hP 3 0 rfl rfl (i := i) (by omega) (by omega) (by omega) d_Ro_addByNearness_28 ?_
          have hv_1 := ha30 i
          refine lv_iload_n hx hb d_Ro_addByNearness_29 rfl (lv_at hl 3 rfl) ?_
          refine k_beI (va_runV (As := [.int (zI ↑i), .int (zI (↑(a i))), .int (zI k)]) (rest := []) ⟨hx, hb, hml, hown, hkw⟩ (c_Row_hasNear l D cI cR cG ha ea i (a i) k a (by omega) (by omega) (by omega) ha30 _) (cwV 3 hkw (k_gV kw_methodLink_Ro_63 kw_instanceMethod_Ro_hasNear kw_selects_Ro_hasNear kw_initialized_Ro kw_code_Ro_hasNear) rfl rfl rfl (by decide +kernel) ⟨(Nat.le_of_ble_eq_true rfl), (Nat.le_of_ble_eq_true rfl)⟩) (k_preV (q0 := 0) hK hG hP hD [2, 3] rfl rfl rfl rfl) rfl rfl hl.1 rfl (lv_room (Nat.le_of_ble_eq_true rfl)) d_Ro_addByNearness_30 ⟨Nat.zero_le _, Nat.zero_le _⟩) hP hD hS hA [2, 3] rfl (Eq.trans (b := [ha, ea]) rfl rfl) ?_
          clear hP hD hS; intro H locs hP hD hS
          replace hP : va_P D k_cl ([(h, .inr (2, [.ref e])), (e, .inl (cI, 30, .inl (kA F))), (ha, .inr (2, [.ref ea])), (ea, .inl (cI, 30, .inl (kA a)))]) H := hP
          replace hD : va_D A ([(h, .inr (2, [.ref e])), (e, .inl (cI, 30, .inl (kA F))), (ha, .inr (2, [.ref ea])), (ea, .inl (cI, 30, .inl (kA a)))]) := hD
          refine lv_iload hx hb d_Ro_addByNearness_33 (lv_at hl 4 rfl) ?_
          refine k_bcmp_ne (tgt := 51) hx hb d_Ro_addByNearness_35 (by decide) (fun c_35 => ?_) (fun c_35 => ?_)
          · refine k_iinc (v := ↑(i + 1)) (lv' := [(5, .int (zI (↑(i + 1)))), (0, .ref h), (1, .ref ha), (2, .ref ha), (3, .int (zI k)), (4, .int (k_b (w = true)))]) hx hb d_Ro_addByNearness_51 hl (k := 5) rfl (by omega) (by decide) rfl ?_
            clear hl; intro ls hl
            refine lv_goto (tgt := 3) hx hb d_Ro_addByNearness_54 (by decide) ?_
            exact ih_3 (i + 1) F (by omega) hF (by rw [rNear] at hgo; (repeat' split at hgo); all_goals first | exact hgo | (exfalso; omega) | contradiction) _ _ _ hP hD hS (lv_sub hl [1, 2, 3, 4, 5, 0] rfl)
          · refine lv_aload_n hx hb d_Ro_addByNearness_38 rfl (lv_at hl 0 rfl) ?_
            refine lv_iload hx hb d_Ro_addByNearness_39 (lv_at hl 5 rfl) ?_
            refine lv_aload_n hx hb d_Ro_addByNearness_41 rfl (lv_at hl 1 rfl) ?_
            refine va_get (D := D) (ci := 2) (v := .ref ea) (C := R_Ro) (T := T_Ro) (N := 1) hx hb hkw kin_Ro hown hK hP 2 rfl rfl 0 (by decide) (hkw _ kw_fieldLink_Ro_9) (fun _ h9 => h9) rfl d_Ro_addByNearness_42 ?_
            refine lv_iload hx hb d_Ro_addByNearness_45 (lv_at hl 5 rfl) ?_
            refine k_ald hx hb hK hP 3 0 rfl rfl (i := i) (by omega) (by omega) (by omega) d_Ro_addByNearness_47 ?_
            have hv_2 := ha30 i
            refine k_beV (va_runV (As := [.int (zI ↑i), .int (zI (↑(a i)))]) (rest := []) ⟨hx, hb, hml, hown, hkw⟩ (c_Row_add l D cI cR cG h e i (a i) F (by omega) (by omega) hF _) (cwV 2 hkw (k_gV kw_methodLink_Ro_38 kw_instanceMethod_Ro_add kw_selects_Ro_add kw_initialized_Ro kw_code_Ro_add) rfl rfl rfl (by decide +kernel) ⟨(Nat.le_of_ble_eq_true rfl), (Nat.le_of_ble_eq_true rfl)⟩) (k_preV (q0 := 0) hK hG hP hD [0, 1] rfl rfl rfl rfl) rfl rfl hl.1 rfl (lv_room (Nat.le_of_ble_eq_true rfl)) d_Ro_addByNearness_48 ⟨Nat.zero_le _, Nat.zero_le _⟩) hP hD hS hA [0, 1] rfl (Eq.trans (b := [h, e]) rfl rfl) ?_
            clear hP hD hS; intro H locs hP hD hS
            replace hP : va_P D k_cl ([(h, .inr (2, [.ref e])), (e, .inl (cI, 30, .inl (kA (rAdd F i (a i))))), (ha, .inr (2, [.ref ea])), (ea, .inl (cI, 30, .inl (kA a)))]) H := hP
            replace hD : va_D A ([(h, .inr (2, [.ref e])), (e, .inl (cI, 30, .inl (kA (rAdd F i (a i))))), (ha, .inr (2, [.ref ea])), (ea, .inl (cI, 30, .inl (kA a)))]) := hD
            refine k_iinc (v := ↑(i + 1)) (lv' := [(5, .int (zI (↑(i + 1)))), (0, .ref h), (1, .ref ha), (2, .ref ha), (3, .int (zI k)), (4, .int (k_b (w = true)))]) hx hb d_Ro_addByNearness_51 hl (k := 5) rfl (by omega) (by decide) rfl ?_
            clear hl; intro ls hl
            refine lv_goto (tgt := 3) hx hb d_Ro_addByNearness_54 (by decide) ?_
            exact ih_3 (i + 1) (rAdd F i (a i)) (by omega) (rAdd_le hF (by omega)) (by rw [rNear] at hgo; (repeat' split at hgo); all_goals first | exact hgo | (exfalso; omega) | contradiction) _ _ _ hP hD hS (lv_sub hl [1, 2, 3, 4, 5, 0] rfl)
  exact loop_3 30 0 G0 (by omega) hG0 rfl _ _ _ hP hD hS (lv_sub hl [1, 2, 3, 4, 5, 0] rfl)
