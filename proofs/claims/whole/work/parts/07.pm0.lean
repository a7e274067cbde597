abbrev rm_PM_isPlace : Room := { frames := 0, cells := 0, slots := 0, locals := 0 }
set_option maxHeartbeats 4000000 in
set_option maxRecDepth 100000 in
theorem c_PM_isPlace (l : Launch) (D : va_G) (cI cR cG : ClassId) (x : Int) (hx1 : k_sm x) : k_M l y_Pm_isPlace (.code y_Pm_isPlace b_Pm_isPlace 1 (some .boolean) :: kW) rm_PM_isPlace D k_cl (k_ty cI cR cG) [.int (zI x)] ([]) (k_Qi D k_cl (k_b (0 ≤ x ∧ x < 30)) []) := by
  refine k_start (cc := b_Pm_isPlace) (maxL := 1) (ret := (some .boolean)) (by decide) rfl (Nat.le_of_ble_eq_true rfl) ?_
  intro p ev s m ar below meth c A ls Qf hQf hx hb hr hml hts hown hlocks hin hK hG hA hP hD hS hl
  replace hown : s.vm.findClass R_Pm = some m.cls := hown
  replace hl : lv_has ls 1 [(0, .int (zI x))] := hl
  have hkw : ∀ w ∈ kW, w.before ar s = true := fun w h => hts w (List.mem_cons_of_mem _ h)
  replace hP : va_P D k_cl ([]) s.heap := hP
  replace hD : va_D A ([]) := hD
  have hx2 := hx1.1
  have hx3 := hx1.2
  refine lv_iload_n hx hb d_Pm_isPlace_0 rfl (lv_at hl 0 rfl) ?_
  refine k_if_lt (tgt := 14) hx hb d_Pm_isPlace_1 (by decide) ⟨by omega, by omega⟩ (fun c_1 => ?_) (fun c_1 => ?_)
  · refine lv_iconst (v := zI 0) hx hb d_Pm_isPlace_14 (by decide) ?_
    rw [← hQf]
    exact k_zret hx hb hr hlocks hP hS (k_bf (by omega)).symm d_Pm_isPlace_15
  · refine lv_iload_n hx hb d_Pm_isPlace_4 rfl (lv_at hl 0 rfl) ?_
    refine lv_bipush (v := zI 30) hx hb d_Pm_isPlace_5 (by decide) ?_
    refine k_icmp_ge (tgt := 14) hx hb d_Pm_isPlace_7 (by decide) ⟨by omega, by omega⟩ ⟨by omega, by omega⟩ (fun c_7 => ?_) (fun c_7 => ?_)
    · refine lv_iconst (v := zI 0) hx hb d_Pm_isPlace_14 (by decide) ?_
      rw [← hQf]
      exact k_zret hx hb hr hlocks hP hS (k_bf (by omega)).symm d_Pm_isPlace_15
    · refine lv_iconst (v := zI 1) hx hb d_Pm_isPlace_10 (by decide) ?_
      refine lv_goto (tgt := 15) hx hb d_Pm_isPlace_11 (by decide) ?_
      rw [← hQf]
      exact k_zret hx hb hr hlocks hP hS (k_bt (by omega)).symm d_Pm_isPlace_15

abbrev rm_PM_isSet : Room := { frames := 0, cells := 0, slots := 0, locals := 0 }
set_option maxHeartbeats 4000000 in
set_option maxRecDepth 100000 in
theorem c_PM_isSet (l : Launch) (D : va_G) (cI cR cG : ClassId) (x : Int) (hx1 : k_sm x) : k_M l y_Pm_isSet (.code y_Pm_isSet b_Pm_isSet 1 (some .boolean) :: kW) rm_PM_isSet D k_cl (k_ty cI cR cG) [.int (zI x)] ([]) (k_Qi D k_cl (k_b (0 ≤ x ∧ x ≤ 1023)) []) := by
  refine k_start (cc := b_Pm_isSet) (maxL := 1) (ret := (some .boolean)) (by decide) rfl (Nat.le_of_ble_eq_true rfl) ?_
  intro p ev s m ar below meth c A ls Qf hQf hx hb hr hml hts hown hlocks hin hK hG hA hP hD hS hl
  replace hown : s.vm.findClass R_Pm = some m.cls := hown
  replace hl : lv_has ls 1 [(0, .int (zI x))] := hl
  have hkw : ∀ w ∈ kW, w.before ar s = true := fun w h => hts w (List.mem_cons_of_mem _ h)
  replace hP : va_P D k_cl ([]) s.heap := hP
  replace hD : va_D A ([]) := hD
  have hx2 := hx1.1
  have hx3 := hx1.2
  refine lv_iload_n hx hb d_Pm_isSet_0 rfl (lv_at hl 0 rfl) ?_
  refine k_if_lt (tgt := 15) hx hb d_Pm_isSet_1 (by decide) ⟨by omega, by omega⟩ (fun c_1 => ?_) (fun c_1 => ?_)
  · refine lv_iconst (v := zI 0) hx hb d_Pm_isSet_15 (by decide) ?_
    rw [← hQf]
    exact k_zret hx hb hr hlocks hP hS (k_bf (by omega)).symm d_Pm_isSet_16
  · refine lv_iload_n hx hb d_Pm_isSet_4 rfl (lv_at hl 0 rfl) ?_
    refine lv_sipush (v := zI 1023) hx hb d_Pm_isSet_5 (by decide) ?_
    refine k_icmp_gt (tgt := 15) hx hb d_Pm_isSet_8 (by decide) ⟨by omega, by omega⟩ ⟨by omega, by omega⟩ (fun c_8 => ?_) (fun c_8 => ?_)
    · refine lv_iconst (v := zI 0) hx hb d_Pm_isSet_15 (by decide) ?_
      rw [← hQf]
      exact k_zret hx hb hr hlocks hP hS (k_bf (by omega)).symm d_Pm_isSet_16
    · refine lv_iconst (v := zI 1) hx hb d_Pm_isSet_11 (by decide) ?_
      refine lv_goto (tgt := 16) hx hb d_Pm_isSet_12 (by decide) ?_
      rw [← hQf]
      exact k_zret hx hb hr hlocks hP hS (k_bt (by omega)).symm d_Pm_isSet_16

abbrev rm_PM_isSlop : Room := { frames := 0, cells := 0, slots := 0, locals := 0 }
set_option maxHeartbeats 4000000 in
set_option maxRecDepth 100000 in
theorem c_PM_isSlop (l : Launch) (D : va_G) (cI cR cG : ClassId) (x : Int) (hx1 : k_sm x) : k_M l y_Pm_isSlop (.code y_Pm_isSlop b_Pm_isSlop 1 (some .boolean) :: kW) rm_PM_isSlop D k_cl (k_ty cI cR cG) [.int (zI x)] ([]) (k_Qi D k_cl (k_b (0 ≤ x ∧ x ≤ 9)) []) := by
  refine k_start (cc := b_Pm_isSlop) (maxL := 1) (ret := (some .boolean)) (by decide) rfl (Nat.le_of_ble_eq_true rfl) ?_
  intro p ev s m ar below meth c A ls Qf hQf hx hb hr hml hts hown hlocks hin hK hG hA hP hD hS hl
  replace hown : s.vm.findClass R_Pm = some m.cls := hown
  replace hl : lv_has ls 1 [(0, .int (zI x))] := hl
  have hkw : ∀ w ∈ kW, w.before ar s = true := fun w h => hts w (List.mem_cons_of_mem _ h)
  replace hP : va_P D k_cl ([]) s.heap := hP
  replace hD : va_D A ([]) := hD
  have hx2 := hx1.1
  have hx3 := hx1.2
  refine lv_iload_n hx hb d_Pm_isSlop_0 rfl (lv_at hl 0 rfl) ?_
  refine k_if_lt (tgt := 14) hx hb d_Pm_isSlop_1 (by decide) ⟨by omega, by omega⟩ (fun c_1 => ?_) (fun c_1 => ?_)
  · refine lv_iconst (v := zI 0) hx hb d_Pm_isSlop_14 (by decide) ?_
    rw [← hQf]
    exact k_zret hx hb hr hlocks hP hS (k_bf (by omega)).symm d_Pm_isSlop_15
  · refine lv_iload_n hx hb d_Pm_isSlop_4 rfl (lv_at hl 0 rfl) ?_
    refine lv_bipush (v := zI 9) hx hb d_Pm_isSlop_5 (by decide) ?_
    refine k_icmp_gt (tgt := 14) hx hb d_Pm_isSlop_7 (by decide) ⟨by omega, by omega⟩ ⟨by omega, by omega⟩ (fun c_7 => ?_) (fun c_7 => ?_)
    · refine lv_iconst (v := zI 0) hx hb d_Pm_isSlop_14 (by decide) ?_
      rw [← hQf]
      exact k_zret hx hb hr hlocks hP hS (k_bf (by omega)).symm d_Pm_isSlop_15
    · refine lv_iconst (v := zI 1) hx hb d_Pm_isSlop_10 (by decide) ?_
      refine lv_goto (tgt := 15) hx hb d_Pm_isSlop_11 (by decide) ?_
      rw [← hQf]
      exact k_zret hx hb hr hlocks hP hS (k_bt (by omega)).symm d_Pm_isSlop_15

abbrev rm_PM_isKind : Room := { frames := 0, cells := 0, slots := 0, locals := 0 }
set_option maxHeartbeats 4000000 in
set_option maxRecDepth 100000 in
theorem c_PM_isKind (l : Launch) (D : va_G) (cI cR cG : ClassId) (x : Int) (hx1 : k_sm x) : k_M l y_Pm_isKind (.code y_Pm_isKind b_Pm_isKind 1 (some .boolean) :: kW) rm_PM_isKind D k_cl (k_ty cI cR cG) [.int (zI x)] ([]) (k_Qi D k_cl (k_b (0 ≤ x ∧ x ≤ 10)) []) := by
  refine k_start (cc := b_Pm_isKind) (maxL := 1) (ret := (some .boolean)) (by decide) rfl (Nat.le_of_ble_eq_true rfl) ?_
  intro p ev s m ar below meth c A ls Qf hQf hx hb hr hml hts hown hlocks hin hK hG hA hP hD hS hl
  replace hown : s.vm.findClass R_Pm = some m.cls := hown
  replace hl : lv_has ls 1 [(0, .int (zI x))] := hl
  have hkw : ∀ w ∈ kW, w.before ar s = true := fun w h => hts w (List.mem_cons_of_mem _ h)
  replace hP : va_P D k_cl ([]) s.heap := hP
  replace hD : va_D A ([]) := hD
  have hx2 := hx1.1
  have hx3 := hx1.2
  refine lv_iload_n hx hb d_Pm_isKind_0 rfl (lv_at hl 0 rfl) ?_
  refine k_if_lt (tgt := 14) hx hb d_Pm_isKind_1 (by decide) ⟨by omega, by omega⟩ (fun c_1 => ?_) (fun c_1 => ?_)
  · refine lv_iconst (v := zI 0) hx hb d_Pm_isKind_14 (by decide) ?_
    rw [← hQf]
    exact k_zret hx hb hr hlocks hP hS (k_bf (by omega)).symm d_Pm_isKind_15
  · refine lv_iload_n hx hb d_Pm_isKind_4 rfl (lv_at hl 0 rfl) ?_
    refine lv_bipush (v := zI 10) hx hb d_Pm_isKind_5 (by decide) ?_
    refine k_icmp_gt (tgt := 14) hx hb d_Pm_isKind_7 (by decide) ⟨by omega, by omega⟩ ⟨by omega, by omega⟩ (fun c_7 => ?_) (fun c_7 => ?_)
    · refine lv_iconst (v := zI 0) hx hb d_Pm_isKind_14 (by decide) ?_
      rw [← hQf]
      exact k_zret hx hb hr hlocks hP hS (k_bf (by omega)).symm d_Pm_isKind_15
    · refine lv_iconst (v := zI 1) hx hb d_Pm_isKind_10 (by decide) ?_
      refine lv_goto (tgt := 15) hx hb d_Pm_isKind_11 (by decide) ?_
      rw [← hQf]
      exact k_zret hx hb hr hlocks hP hS (k_bt (by omega)).symm d_Pm_isKind_15

abbrev rm_PM_isNumberOf : Room := { frames := 0, cells := 0, slots := 0, locals := 0 }
set_option maxHeartbeats 4000000 in
set_option maxRecDepth 100000 in
theorem c_PM_isNumberOf (l : Launch) (D : va_G) (cI cR cG : ClassId) (x y : Int) (hx1 : k_sm x) (hy1 : k_sm y) : k_M l y_Pm_isNumberOf (.code y_Pm_isNumberOf b_Pm_isNumberOf 2 (some .boolean) :: kW) rm_PM_isNumberOf D k_cl (k_ty cI cR cG) [.int (zI x), .int (zI y)] ([]) (k_Qi D k_cl (k_b (0 ≤ y ∧ (x = 0 ∧ y < 10 ∨ x ≠ 0 ∧ y ≤ 30))) []) := by
  refine k_start (cc := b_Pm_isNumberOf) (maxL := 2) (ret := (some .boolean)) (by decide) rfl (Nat.le_of_ble_eq_true rfl) ?_
  intro p ev s m ar below meth c A ls Qf hQf hx hb hr hml hts hown hlocks hin hK hG hA hP hD hS hl
  replace hown : s.vm.findClass R_Pm = some m.cls := hown
  replace hl : lv_has ls 2 [(0, .int (zI x)), (1, .int (zI y))] := hl
  have hkw : ∀ w ∈ kW, w.before ar s = true := fun w h => hts w (List.mem_cons_of_mem _ h)
  replace hP : va_P D k_cl ([]) s.heap := hP
  replace hD : va_D A ([]) := hD
  have hx2 := hx1.1
  have hx3 := hx1.2
  have hy2 := hy1.1
  have hy3 := hy1.2
  refine lv_iload_n hx hb d_Pm_isNumberOf_0 rfl (lv_at hl 1 rfl) ?_
  refine k_if_lt (tgt := 27) hx hb d_Pm_isNumberOf_1 (by decide) ⟨by omega, by omega⟩ (fun c_1 => ?_) (fun c_1 => ?_)
  · refine lv_iconst (v := zI 0) hx hb d_Pm_isNumberOf_27 (by decide) ?_
    rw [← hQf]
    exact k_zret hx hb hr hlocks hP hS (k_bf (by omega)).symm d_Pm_isNumberOf_28
  · refine lv_iload_n hx hb d_Pm_isNumberOf_4 rfl (lv_at hl 0 rfl) ?_
    refine k_if_ne (tgt := 17) hx hb d_Pm_isNumberOf_5 (by decide) ⟨by omega, by omega⟩ (fun c_5 => ?_) (fun c_5 => ?_)
    · refine lv_iload_n hx hb d_Pm_isNumberOf_17 rfl (lv_at hl 1 rfl) ?_
      refine lv_bipush (v := zI 30) hx hb d_Pm_isNumberOf_18 (by decide) ?_
      refine k_icmp_gt (tgt := 27) hx hb d_Pm_isNumberOf_20 (by decide) ⟨by omega, by omega⟩ ⟨by omega, by omega⟩ (fun c_20 => ?_) (fun c_20 => ?_)
      · refine lv_iconst (v := zI 0) hx hb d_Pm_isNumberOf_27 (by decide) ?_
        rw [← hQf]
        exact k_zret hx hb hr hlocks hP hS (k_bf (by omega)).symm d_Pm_isNumberOf_28
      · refine lv_iconst (v := zI 1) hx hb d_Pm_isNumberOf_23 (by decide) ?_
        refine lv_goto (tgt := 28) hx hb d_Pm_isNumberOf_24 (by decide) ?_
        rw [← hQf]
        exact k_zret hx hb hr hlocks hP hS (k_bt (by omega)).symm d_Pm_isNumberOf_28
    · refine lv_iload_n hx hb d_Pm_isNumberOf_8 rfl (lv_at hl 1 rfl) ?_
      refine lv_bipush (v := zI 10) hx hb d_Pm_isNumberOf_9 (by decide) ?_
      refine k_icmp_ge (tgt := 27) hx hb d_Pm_isNumberOf_11 (by decide) ⟨by omega, by omega⟩ ⟨by omega, by omega⟩ (fun c_11 => ?_) (fun c_11 => ?_)
      · refine lv_iconst (v := zI 0) hx hb d_Pm_isNumberOf_27 (by decide) ?_
        rw [← hQf]
        exact k_zret hx hb hr hlocks hP hS (k_bf (by omega)).symm d_Pm_isNumberOf_28
      · refine lv_goto (tgt := 23) hx hb d_Pm_isNumberOf_14 (by decide) ?_
        refine lv_iconst (v := zI 1) hx hb d_Pm_isNumberOf_23 (by decide) ?_
        refine lv_goto (tgt := 28) hx hb d_Pm_isNumberOf_24 (by decide) ?_
        rw [← hQf]
        exact k_zret hx hb hr hlocks hP hS (k_bt (by omega)).symm d_Pm_isNumberOf_28

abbrev rm_PM_countsFirst : Room := { frames := 0, cells := 0, slots := 0, locals := 0 }
set_option maxHeartbeats 4000000 in
set_option maxRecDepth 100000 in
theorem c_PM_countsFirst (l : Launch) (D : va_G) (cI cR cG : ClassId) (x : Int) (hx1 : k_sm x) : k_M l y_Pm_countsFirst (.code y_Pm_countsFirst b_Pm_countsFirst 1 (some .boolean) :: kW) rm_PM_countsFirst D k_cl (k_ty cI cR cG) [.int (zI x)] ([]) (k_Qi D k_cl (k_b (x ≠ 0)) []) := by
  refine k_start (cc := b_Pm_countsFirst) (maxL := 1) (ret := (some .boolean)) (by decide) rfl (Nat.le_of_ble_eq_true rfl) ?_
  intro p ev s m ar below meth c A ls Qf hQf hx hb hr hml hts hown hlocks hin hK hG hA hP hD hS hl
  replace hown : s.vm.findClass R_Pm = some m.cls := hown
  replace hl : lv_has ls 1 [(0, .int (zI x))] := hl
  have hkw : ∀ w ∈ kW, w.before ar s = true := fun w h => hts w (List.mem_cons_of_mem _ h)
  replace hP : va_P D k_cl ([]) s.heap := hP
  replace hD : va_D A ([]) := hD
  have hx2 := hx1.1
  have hx3 := hx1.2
  refine lv_iload_n hx hb d_Pm_countsFirst_0 rfl (lv_at hl 0 rfl) ?_
  refine k_if_eq (tgt := 8) hx hb d_Pm_countsFirst_1 (by decide) ⟨by omega, by omega⟩ (fun c_1 => ?_) (fun c_1 => ?_)
  · refine lv_iconst (v := zI 0) hx hb d_Pm_countsFirst_8 (by decide) ?_
    rw [← hQf]
    exact k_zret hx hb hr hlocks hP hS (k_bf (by omega)).symm d_Pm_countsFirst_9
  · refine lv_iconst (v := zI 1) hx hb d_Pm_countsFirst_4 (by decide) ?_
    refine lv_goto (tgt := 9) hx hb d_Pm_countsFirst_5 (by decide) ?_
    rw [← hQf]
    exact k_zret hx hb hr hlocks hP hS (k_bt (by omega)).symm d_Pm_countsFirst_9

abbrev rm_PM_countsSecond : Room := { frames := 0, cells := 0, slots := 0, locals := 0 }
set_option maxHeartbeats 4000000 in
set_option maxRecDepth 100000 in
theorem c_PM_countsSecond (l : Launch) (D : va_G) (cI cR cG : ClassId) (x : Int) (hx1 : k_sm x) : k_M l y_Pm_countsSecond (.code y_Pm_countsSecond b_Pm_countsSecond 1 (some .boolean) :: kW) rm_PM_countsSecond D k_cl (k_ty cI cR cG) [.int (zI x)] ([]) (k_Qi D k_cl (k_b (1 ≤ x ∧ x ≤ 8)) []) := by
  refine k_start (cc := b_Pm_countsSecond) (maxL := 1) (ret := (some .boolean)) (by decide) rfl (Nat.le_of_ble_eq_true rfl) ?_
  intro p ev s m ar below meth c A ls Qf hQf hx hb hr hml hts hown hlocks hin hK hG hA hP hD hS hl
  replace hown : s.vm.findClass R_Pm = some m.cls := hown
  replace hl : lv_has ls 1 [(0, .int (zI x))] := hl
  have hkw : ∀ w ∈ kW, w.before ar s = true := fun w h => hts w (List.mem_cons_of_mem _ h)
  replace hP : va_P D k_cl ([]) s.heap := hP
  replace hD : va_D A ([]) := hD
  have hx2 := hx1.1
  have hx3 := hx1.2
  refine lv_iload_n hx hb d_Pm_countsSecond_0 rfl (lv_at hl 0 rfl) ?_
  refine lv_iconst (v := zI 1) hx hb d_Pm_countsSecond_1 (by decide) ?_
  refine k_icmp_lt (tgt := 15) hx hb d_Pm_countsSecond_2 (by decide) ⟨by omega, by omega⟩ ⟨by omega, by omega⟩ (fun c_2 => ?_) (fun c_2 => ?_)
  · refine lv_iconst (v := zI 0) hx hb d_Pm_countsSecond_15 (by decide) ?_
    rw [← hQf]
    exact k_zret hx hb hr hlocks hP hS (k_bf (by omega)).symm d_Pm_countsSecond_16
  · refine lv_iload_n hx hb d_Pm_countsSecond_5 rfl (lv_at hl 0 rfl) ?_
    refine lv_bipush (v := zI 8) hx hb d_Pm_countsSecond_6 (by decide) ?_
    refine k_icmp_gt (tgt := 15) hx hb d_Pm_countsSecond_8 (by decide) ⟨by omega, by omega⟩ ⟨by omega, by omega⟩ (fun c_8 => ?_) (fun c_8 => ?_)
    · refine lv_iconst (v := zI 0) hx hb d_Pm_countsSecond_15 (by decide) ?_
      rw [← hQf]
      exact k_zret hx hb hr hlocks hP hS (k_bf (by omega)).symm d_Pm_countsSecond_16
    · refine lv_iconst (v := zI 1) hx hb d_Pm_countsSecond_11 (by decide) ?_
      refine lv_goto (tgt := 16) hx hb d_Pm_countsSecond_12 (by decide) ?_
      rw [← hQf]
      exact k_zret hx hb hr hlocks hP hS (k_bt (by omega)).symm d_Pm_countsSecond_16

abbrev rm_PM_countsNumber : Room := { frames := 0, cells := 0, slots := 0, locals := 0 }
set_option maxHeartbeats 4000000 in
set_option maxRecDepth 100000 in
theorem c_PM_countsNumber (l : Launch) (D : va_G) (cI cR cG : ClassId) (x : Int) (hx1 : k_sm x) : k_M l y_Pm_countsNumber (.code y_Pm_countsNumber b_Pm_countsNumber 1 (some .boolean) :: kW) rm_PM_countsNumber D k_cl (k_ty cI cR cG) [.int (zI x)] ([]) (k_Qi D k_cl (k_b (x ≠ 1 ∧ x ≠ 5 ∧ x ≠ 6 ∧ x ≠ 7)) []) := by
  refine k_start (cc := b_Pm_countsNumber) (maxL := 1) (ret := (some .boolean)) (by decide) rfl (Nat.le_of_ble_eq_true rfl) ?_
  intro p ev s m ar below meth c A ls Qf hQf hx hb hr hml hts hown hlocks hin hK hG hA hP hD hS hl
  replace hown : s.vm.findClass R_Pm = some m.cls := hown
  replace hl : lv_has ls 1 [(0, .int (zI x))] := hl
  have hkw : ∀ w ∈ kW, w.before ar s = true := fun w h => hts w (List.mem_cons_of_mem _ h)
  replace hP : va_P D k_cl ([]) s.heap := hP
  replace hD : va_D A ([]) := hD
  have hx2 := hx1.1
  have hx3 := hx1.2
  refine lv_iload_n hx hb d_Pm_countsNumber_0 rfl (lv_at hl 0 rfl) ?_
  refine lv_iconst (v := zI 1) hx hb d_Pm_countsNumber_1 (by decide) ?_
  refine k_icmp_eq (tgt := 26) hx hb d_Pm_countsNumber_2 (by decide) ⟨by omega, by omega⟩ ⟨by omega, by omega⟩ (fun c_2 => ?_) (fun c_2 => ?_)
  · refine lv_iconst (v := zI 0) hx hb d_Pm_countsNumber_26 (by decide) ?_
    rw [← hQf]
    exact k_zret hx hb hr hlocks hP hS (k_bf (by omega)).symm d_Pm_countsNumber_27
  · refine lv_iload_n hx hb d_Pm_countsNumber_5 rfl (lv_at hl 0 rfl) ?_
    refine lv_iconst (v := zI 5) hx hb d_Pm_countsNumber_6 (by decide) ?_
    refine k_icmp_eq (tgt := 26) hx hb d_Pm_countsNumber_7 (by decide) ⟨by omega, by omega⟩ ⟨by omega, by omega⟩ (fun c_7 => ?_) (fun c_7 => ?_)
    · refine lv_iconst (v := zI 0) hx hb d_Pm_countsNumber_26 (by decide) ?_
      rw [← hQf]
      exact k_zret hx hb hr hlocks hP hS (k_bf (by omega)).symm d_Pm_countsNumber_27
    · refine lv_iload_n hx hb d_Pm_countsNumber_10 rfl (lv_at hl 0 rfl) ?_
      refine lv_bipush (v := zI 6) hx hb d_Pm_countsNumber_11 (by decide) ?_
      refine k_icmp_eq (tgt := 26) hx hb d_Pm_countsNumber_13 (by decide) ⟨by omega, by omega⟩ ⟨by omega, by omega⟩ (fun c_13 => ?_) (fun c_13 => ?_)
      · refine lv_iconst (v := zI 0) hx hb d_Pm_countsNumber_26 (by decide) ?_
        rw [← hQf]
        exact k_zret hx hb hr hlocks hP hS (k_bf (by omega)).symm d_Pm_countsNumber_27
      · refine lv_iload_n hx hb d_Pm_countsNumber_16 rfl (lv_at hl 0 rfl) ?_
        refine lv_bipush (v := zI 7) hx hb d_Pm_countsNumber_17 (by decide) ?_
        refine k_icmp_eq (tgt := 26) hx hb d_Pm_countsNumber_19 (by decide) ⟨by omega, by omega⟩ ⟨by omega, by omega⟩ (fun c_19 => ?_) (fun c_19 => ?_)
        · refine lv_iconst (v := zI 0) hx hb d_Pm_countsNumber_26 (by decide) ?_
          rw [← hQf]
          exact k_zret hx hb hr hlocks hP hS (k_bf (by omega)).symm d_Pm_countsNumber_27
        · refine lv_iconst (v := zI 1) hx hb d_Pm_countsNumber_22 (by decide) ?_
          refine lv_goto (tgt := 27) hx hb d_Pm_countsNumber_23 (by decide) ?_
          rw [← hQf]
          exact k_zret hx hb hr hlocks hP hS (k_bt (by omega)).symm d_Pm_countsNumber_27
