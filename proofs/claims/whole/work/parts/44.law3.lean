set_option maxHeartbeats 4000000 in
set_option maxRecDepth 100000 in
theorem lc_slot {p : Program} {e : Env} {s : State} {m : MethodId} {below : List Frame} {meth : Method} {c : Code} {Qf : State → Prop} (l : Launch) {b L : Nat} {xs : Nat → Int32} (hL : L ≤ 2560) (C0 : lw_At p s m meth c b L xs) {D : va_G} {cI cR cG : ClassId} (hK : va_K D k_cl (k_ty cI cR cG) s) (hG : k_G k_ns s) {q w ro en gr : Nat → Nat} {i : Nat} (hi : i + 5 ≤ L) (kk : lK p l e s m below meth c b Qf D cI cR cG q w ro en gr i 501) : lK p l e s m below meth c b Qf D cI cR cG q w ro en gr i 336 := by
  obtain ⟨hx, hb, hr, hml, hown, hts, hX, hbl, hlocks, -⟩ := C0
  intro t K fi sc nn of se n np r sd lm sf st pc tr fc cn E Pl kn ch le mf mt on ot nu G E0 mn ff pl hI H locs ls hP hD hS hl
  have hA : ∀ q, s.heap.size ≤ q → (fun q => s.heap.size ≤ q) q := fun _ h => h
  have hbA : ¬ (fun q => s.heap.size ≤ q) b := Nat.not_le.mpr hbl
  have hI0 := hI
  obtain ⟨⟨ht, hn, hok, hmo, hK0, hnu⟩, ⟨hE, hrn, hrows, hG0, hE0⟩, ⟨hnp, hof, hse⟩, ⟨hsd, hset, hph⟩, ⟨hkn, hpl, hgo, hkno⟩⟩ := hI
  by_cases h1 : (0 ≤ (xz xs (i + 1)) ∧ (xz xs (i + 1)) ≤ 9) ∧ (0 ≤ (xz xs (i + 2)) ∧ (xz xs (i + 2)) ≤ 1023)
  · by_cases h2 : np < 4
    · obtain ⟨u, hu⟩ := k_zero_le h1.1.1
      obtain ⟨v, hv⟩ := k_zero_le h1.2.1
      refine lv_aload_n hx hb d_law_336 rfl (lv_at hl 1 rfl) ?_
      refine lv_aload_n hx hb d_law_337 rfl (lv_at hl 0 rfl) ?_
      refine lv_iload_n hx hb d_law_338 rfl (lv_at hl 3 rfl) ?_
      refine lv_iconst (v := zI 1) hx hb d_law_339 (by decide) ?_
      refine k_iadd hx hb d_law_340 rfl ?_
      refine k_sld hx hb hX hbl hbA hS (j := i + 1) (by omega) (by omega) hL d_law_341 ?_
      refine lv_aload_n hx hb d_law_342 rfl (lv_at hl 0 rfl) ?_
      refine lv_iload_n hx hb d_law_343 rfl (lv_at hl 3 rfl) ?_
      refine lv_iconst (v := zI 2) hx hb d_law_344 (by decide) ?_
      refine k_iadd hx hb d_law_345 rfl ?_
      refine k_sld hx hb hX hbl hbA hS (j := i + 2) (by omega) (by omega) hL d_law_346 ?_
      refine k_stk (st2 := [.int (zI ↑v), .int (zI ↑u), .ref (q 0)]) (by rw [hu, hv]) ?_
      refine k_beIX (va_runV (As := [.int (zI ↑u), .int (zI ↑v)]) (rest := []) ⟨hx, hb, hml, hown, hts⟩ (c_Pm_slot_3 l D cI cR cG q np sd lm sf st of se u v (by omega) (by omega) h2 _) (cwV 2 hts (k_gVL ll_49 rfl kw_instanceMethod_Pm_slot kw_selects_Pm_slot kw_initialized_Pm kw_code_Pm_slot) rfl rfl rfl (by decide +kernel) ⟨(Nat.le_of_ble_eq_true rfl), (Nat.le_of_ble_eq_true rfl)⟩) (k_preVX (q0 := 0) hK hG hP hD [0, 8, 9, 10] rfl rfl rfl rfl) rfl rfl hl.1 rfl (lv_room (Nat.le_of_ble_eq_true rfl)) d_law_347 ⟨(Nat.le_of_ble_eq_true rfl), (Nat.le_of_ble_eq_true rfl)⟩) hP hD hS hA [0, 8, 9, 10] rfl (Eq.trans (b := [q 0, q 8, q 9, q 10]) rfl rfl) ?_
      clear hP hD hS; intro H locs hP hD hS
      replace hP : va_P D k_cl (lX cI cR cG q w ro gr t K fi sc nn (va_up of np u) (va_up se np v) n (np + 1) r 0 lm sf st pc tr fc cn t K of se n np kn ch le mf mt on ot nu G E0 mn ff pl ++ (k_pp cI ro en E ++ k_p3 cI gr Pl)) H := hP
      replace hD : va_D (fun q => s.heap.size ≤ q) (lX cI cR cG q w ro gr t K fi sc nn (va_up of np u) (va_up se np v) n (np + 1) r 0 lm sf st pc tr fc cn t K of se n np kn ch le mf mt on ot nu G E0 mn ff pl ++ (k_pp cI ro en E ++ k_p3 cI gr Pl)) := hD
      refine lv_aload_n hx hb d_law_350 rfl (lv_at hl 2 rfl) ?_
      refine lv_aload_n hx hb d_law_351 rfl (lv_at hl 0 rfl) ?_
      refine lv_iload_n hx hb d_law_352 rfl (lv_at hl 3 rfl) ?_
      refine lv_iconst (v := zI 1) hx hb d_law_353 (by decide) ?_
      refine k_iadd hx hb d_law_354 rfl ?_
      refine k_sld hx hb hX hbl hbA hS (j := i + 1) (by omega) (by omega) hL d_law_355 ?_
      refine lv_aload_n hx hb d_law_356 rfl (lv_at hl 0 rfl) ?_
      refine lv_iload_n hx hb d_law_357 rfl (lv_at hl 3 rfl) ?_
      refine lv_iconst (v := zI 2) hx hb d_law_358 (by decide) ?_
      refine k_iadd hx hb d_law_359 rfl ?_
      refine k_sld hx hb hX hbl hbA hS (j := i + 2) (by omega) (by omega) hL d_law_360 ?_
      refine k_stk (st2 := [.int (zI ↑v), .int (zI ↑u), .ref (w 0), .int (zI ↑np)]) (by rw [hu, hv]) ?_
      refine k_beIX (va_runV (As := [.int (zI ↑u), .int (zI ↑v)]) (rest := [.int (zI ↑np)]) ⟨hx, hb, hml, hown, hts⟩ (c_Mo_slot_3 l D cI cR cG w n np kn ch le mf mt of se u v (by omega) (by omega) h2 _) (cwV 2 hts (k_gVL ll_52 rfl kw_instanceMethod_Mo_slot kw_selects_Mo_slot kw_initialized_Mo kw_code_Mo_slot) rfl rfl rfl (by decide +kernel) ⟨(Nat.le_of_ble_eq_true rfl), (Nat.le_of_ble_eq_true rfl)⟩) (k_preVX (q0 := 0) hK hG hP hD [16, 22, 23] rfl rfl rfl rfl) rfl rfl hl.1 rfl (lv_room (Nat.le_of_ble_eq_true rfl)) d_law_361 ⟨(Nat.le_of_ble_eq_true rfl), (Nat.le_of_ble_eq_true rfl)⟩) hP hD hS hA [16, 22, 23] rfl (Eq.trans (b := [w 0, w 6, w 7]) rfl rfl) ?_
      clear hP hD hS; intro H locs hP hD hS
      replace hP : va_P D k_cl (lX cI cR cG q w ro gr t K fi sc nn (va_up of np u) (va_up se np v) n (np + 1) r 0 lm sf st pc tr fc cn t K (va_up of np u) (va_up se np v) n (np + 1) 0 ch le mf mt on ot nu G E0 mn ff pl ++ (k_pp cI ro en E ++ k_p3 cI gr Pl)) H := hP
      replace hD : va_D (fun q => s.heap.size ≤ q) (lX cI cR cG q w ro gr t K fi sc nn (va_up of np u) (va_up se np v) n (np + 1) r 0 lm sf st pc tr fc cn t K (va_up of np u) (va_up se np v) n (np + 1) 0 ch le mf mt on ot nu G E0 mn ff pl ++ (k_pp cI ro en E ++ k_p3 cI gr Pl)) := hD
      refine k_sameI (tgt := 501) hx hb d_law_364 (by decide) rfl ?_
      exact kk t K fi sc nn (va_up of np u) (va_up se np v) n (np + 1) r 0 lm sf st pc tr fc cn E Pl 0 ch le mf mt on ot nu G E0 mn ff pl ⟨⟨ht, hn, hok, hmo, hK0, hnu⟩, ⟨hE, hrn, hrows, hG0, hE0⟩, ⟨h2, k_upB hof (by omega), k_upB hse (by omega)⟩, ⟨Nat.zero_le _, hset, ph0⟩, ⟨Nat.zero_le _, hpl, hgo, kn0⟩⟩ _ _ _ hP hD hS hl
    · refine lv_aload_n hx hb d_law_336 rfl (lv_at hl 1 rfl) ?_
      refine lv_aload_n hx hb d_law_337 rfl (lv_at hl 0 rfl) ?_
      refine lv_iload_n hx hb d_law_338 rfl (lv_at hl 3 rfl) ?_
      refine lv_iconst (v := zI 1) hx hb d_law_339 (by decide) ?_
      refine k_iadd hx hb d_law_340 rfl ?_
      refine k_sld hx hb hX hbl hbA hS (j := i + 1) (by omega) (by omega) hL d_law_341 ?_
      refine lv_aload_n hx hb d_law_342 rfl (lv_at hl 0 rfl) ?_
      refine lv_iload_n hx hb d_law_343 rfl (lv_at hl 3 rfl) ?_
      refine lv_iconst (v := zI 2) hx hb d_law_344 (by decide) ?_
      refine k_iadd hx hb d_law_345 rfl ?_
      refine k_sld hx hb hX hbl hbA hS (j := i + 2) (by omega) (by omega) hL d_law_346 ?_
      refine k_beIX (va_runV (As := [.int (zI (xz xs (i + 1))), .int (zI (xz xs (i + 2)))]) (rest := []) ⟨hx, hb, hml, hown, hts⟩ (c_Pm_slot_2 l D cI cR cG q np sd lm sf st (xz xs (i + 1)) (xz xs (i + 2)) (xz_sm _ _) (xz_sm _ _) h1 (by omega) _) (cwV 2 hts (k_gVL ll_49 rfl kw_instanceMethod_Pm_slot kw_selects_Pm_slot kw_initialized_Pm kw_code_Pm_slot) rfl rfl rfl (by decide +kernel) ⟨(Nat.le_of_ble_eq_true rfl), (Nat.le_of_ble_eq_true rfl)⟩) (k_preVX (q0 := 0) hK hG hP hD [0, 8] rfl rfl rfl rfl) rfl rfl hl.1 rfl (lv_room (Nat.le_of_ble_eq_true rfl)) d_law_347 ⟨(Nat.le_of_ble_eq_true rfl), (Nat.le_of_ble_eq_true rfl)⟩) hP hD hS hA [0, 8] rfl (Eq.trans (b := [q 0, q 8]) rfl rfl) ?_
      clear hP hD hS; intro H locs hP hD hS
      replace hP : va_P D k_cl (lX cI cR cG q w ro gr t K fi sc nn of se n np r sd lm sf st pc tr fc cn t K of se n np kn ch le mf mt on ot nu G E0 mn ff pl ++ (k_pp cI ro en E ++ k_p3 cI gr Pl)) H := hP
      replace hD : va_D (fun q => s.heap.size ≤ q) (lX cI cR cG q w ro gr t K fi sc nn of se n np r sd lm sf st pc tr fc cn t K of se n np kn ch le mf mt on ot nu G E0 mn ff pl ++ (k_pp cI ro en E ++ k_p3 cI gr Pl)) := hD
      refine lv_aload_n hx hb d_law_350 rfl (lv_at hl 2 rfl) ?_
      refine lv_aload_n hx hb d_law_351 rfl (lv_at hl 0 rfl) ?_
      refine lv_iload_n hx hb d_law_352 rfl (lv_at hl 3 rfl) ?_
      refine lv_iconst (v := zI 1) hx hb d_law_353 (by decide) ?_
      refine k_iadd hx hb d_law_354 rfl ?_
      refine k_sld hx hb hX hbl hbA hS (j := i + 1) (by omega) (by omega) hL d_law_355 ?_
      refine lv_aload_n hx hb d_law_356 rfl (lv_at hl 0 rfl) ?_
      refine lv_iload_n hx hb d_law_357 rfl (lv_at hl 3 rfl) ?_
      refine lv_iconst (v := zI 2) hx hb d_law_358 (by decide) ?_
      refine k_iadd hx hb d_law_359 rfl ?_
      refine k_sld hx hb hX hbl hbA hS (j := i + 2) (by omega) (by omega) hL d_law_360 ?_
      refine k_beIX (va_runV (As := [.int (zI (xz xs (i + 1))), .int (zI (xz xs (i + 2)))]) (rest := [.int (zI (-4))]) ⟨hx, hb, hml, hown, hts⟩ (c_Mo_slot_2 l D cI cR cG w n np kn ch le mf mt (xz xs (i + 1)) (xz xs (i + 2)) (xz_sm _ _) (xz_sm _ _) h1 (by omega) _) (cwV 2 hts (k_gVL ll_52 rfl kw_instanceMethod_Mo_slot kw_selects_Mo_slot kw_initialized_Mo kw_code_Mo_slot) rfl rfl rfl (by decide +kernel) ⟨(Nat.le_of_ble_eq_true rfl), (Nat.le_of_ble_eq_true rfl)⟩) (k_preVX (q0 := 0) hK hG hP hD [16] rfl rfl rfl rfl) rfl rfl hl.1 rfl (lv_room (Nat.le_of_ble_eq_true rfl)) d_law_361 ⟨(Nat.le_of_ble_eq_true rfl), (Nat.le_of_ble_eq_true rfl)⟩) hP hD hS hA [16] rfl (Eq.trans (b := [w 0]) rfl rfl) ?_
      clear hP hD hS; intro H locs hP hD hS
      replace hP : va_P D k_cl (lX cI cR cG q w ro gr t K fi sc nn of se n np r sd lm sf st pc tr fc cn t K of se n np kn ch le mf mt on ot nu G E0 mn ff pl ++ (k_pp cI ro en E ++ k_p3 cI gr Pl)) H := hP
      replace hD : va_D (fun q => s.heap.size ≤ q) (lX cI cR cG q w ro gr t K fi sc nn of se n np r sd lm sf st pc tr fc cn t K of se n np kn ch le mf mt on ot nu G E0 mn ff pl ++ (k_pp cI ro en E ++ k_p3 cI gr Pl)) := hD
      refine k_sameI (tgt := 501) hx hb d_law_364 (by decide) rfl ?_
      exact kk t K fi sc nn of se n np r sd lm sf st pc tr fc cn E Pl kn ch le mf mt on ot nu G E0 mn ff pl hI0 _ _ _ hP hD hS hl
  · refine lv_aload_n hx hb d_law_336 rfl (lv_at hl 1 rfl) ?_
    refine lv_aload_n hx hb d_law_337 rfl (lv_at hl 0 rfl) ?_
    refine lv_iload_n hx hb d_law_338 rfl (lv_at hl 3 rfl) ?_
    refine lv_iconst (v := zI 1) hx hb d_law_339 (by decide) ?_
    refine k_iadd hx hb d_law_340 rfl ?_
    refine k_sld hx hb hX hbl hbA hS (j := i + 1) (by omega) (by omega) hL d_law_341 ?_
    refine lv_aload_n hx hb d_law_342 rfl (lv_at hl 0 rfl) ?_
    refine lv_iload_n hx hb d_law_343 rfl (lv_at hl 3 rfl) ?_
    refine lv_iconst (v := zI 2) hx hb d_law_344 (by decide) ?_
    refine k_iadd hx hb d_law_345 rfl ?_
    refine k_sld hx hb hX hbl hbA hS (j := i + 2) (by omega) (by omega) hL d_law_346 ?_
    refine k_beIX (va_runV (As := [.int (zI (xz xs (i + 1))), .int (zI (xz xs (i + 2)))]) (rest := []) ⟨hx, hb, hml, hown, hts⟩ (c_Pm_slot_1 l D cI cR cG q (xz xs (i + 1)) (xz xs (i + 2)) (xz_sm _ _) (xz_sm _ _) h1 _) (cwV 2 hts (k_gVL ll_49 rfl kw_instanceMethod_Pm_slot kw_selects_Pm_slot kw_initialized_Pm kw_code_Pm_slot) rfl rfl rfl (by decide +kernel) ⟨(Nat.le_of_ble_eq_true rfl), (Nat.le_of_ble_eq_true rfl)⟩) (k_preVX (q0 := 0) hK hG hP hD [0] rfl rfl rfl rfl) rfl rfl hl.1 rfl (lv_room (Nat.le_of_ble_eq_true rfl)) d_law_347 ⟨(Nat.le_of_ble_eq_true rfl), (Nat.le_of_ble_eq_true rfl)⟩) hP hD hS hA [0] rfl (Eq.trans (b := [q 0]) rfl rfl) ?_
    clear hP hD hS; intro H locs hP hD hS
    replace hP : va_P D k_cl (lX cI cR cG q w ro gr t K fi sc nn of se n np r sd lm sf st pc tr fc cn t K of se n np kn ch le mf mt on ot nu G E0 mn ff pl ++ (k_pp cI ro en E ++ k_p3 cI gr Pl)) H := hP
    replace hD : va_D (fun q => s.heap.size ≤ q) (lX cI cR cG q w ro gr t K fi sc nn of se n np r sd lm sf st pc tr fc cn t K of se n np kn ch le mf mt on ot nu G E0 mn ff pl ++ (k_pp cI ro en E ++ k_p3 cI gr Pl)) := hD
    refine lv_aload_n hx hb d_law_350 rfl (lv_at hl 2 rfl) ?_
    refine lv_aload_n hx hb d_law_351 rfl (lv_at hl 0 rfl) ?_
    refine lv_iload_n hx hb d_law_352 rfl (lv_at hl 3 rfl) ?_
    refine lv_iconst (v := zI 1) hx hb d_law_353 (by decide) ?_
    refine k_iadd hx hb d_law_354 rfl ?_
    refine k_sld hx hb hX hbl hbA hS (j := i + 1) (by omega) (by omega) hL d_law_355 ?_
    refine lv_aload_n hx hb d_law_356 rfl (lv_at hl 0 rfl) ?_
    refine lv_iload_n hx hb d_law_357 rfl (lv_at hl 3 rfl) ?_
    refine lv_iconst (v := zI 2) hx hb d_law_358 (by decide) ?_
    refine k_iadd hx hb d_law_359 rfl ?_
    refine k_sld hx hb hX hbl hbA hS (j := i + 2) (by omega) (by omega) hL d_law_360 ?_
    refine k_beIX (va_runV (As := [.int (zI (xz xs (i + 1))), .int (zI (xz xs (i + 2)))]) (rest := [.int (zI (-2))]) ⟨hx, hb, hml, hown, hts⟩ (c_Mo_slot_1 l D cI cR cG w n np kn ch le mf mt (xz xs (i + 1)) (xz xs (i + 2)) (xz_sm _ _) (xz_sm _ _) h1 _) (cwV 2 hts (k_gVL ll_52 rfl kw_instanceMethod_Mo_slot kw_selects_Mo_slot kw_initialized_Mo kw_code_Mo_slot) rfl rfl rfl (by decide +kernel) ⟨(Nat.le_of_ble_eq_true rfl), (Nat.le_of_ble_eq_true rfl)⟩) (k_preVX (q0 := 0) hK hG hP hD [16] rfl rfl rfl rfl) rfl rfl hl.1 rfl (lv_room (Nat.le_of_ble_eq_true rfl)) d_law_361 ⟨(Nat.le_of_ble_eq_true rfl), (Nat.le_of_ble_eq_true rfl)⟩) hP hD hS hA [16] rfl (Eq.trans (b := [w 0]) rfl rfl) ?_
    clear hP hD hS; intro H locs hP hD hS
    replace hP : va_P D k_cl (lX cI cR cG q w ro gr t K fi sc nn of se n np r sd lm sf st pc tr fc cn t K of se n np kn ch le mf mt on ot nu G E0 mn ff pl ++ (k_pp cI ro en E ++ k_p3 cI gr Pl)) H := hP
    replace hD : va_D (fun q => s.heap.size ≤ q) (lX cI cR cG q w ro gr t K fi sc nn of se n np r sd lm sf st pc tr fc cn t K of se n np kn ch le mf mt on ot nu G E0 mn ff pl ++ (k_pp cI ro en E ++ k_p3 cI gr Pl)) := hD
    refine k_sameI (tgt := 501) hx hb d_law_364 (by decide) rfl ?_
    exact kk t K fi sc nn of se n np r sd lm sf st pc tr fc cn E Pl kn ch le mf mt on ot nu G E0 mn ff pl hI0 _ _ _ hP hD hS hl
set_option maxHeartbeats 4000000 in
set_option maxRecDepth 100000 in
theorem lc_unslot {p : Program} {e : Env} {s : State} {m : MethodId} {below : List Frame} {meth : Method} {c : Code} {Qf : State → Prop} (l : Launch) {b L : Nat} {xs : Nat → Int32} (hL : L ≤ 2560) (C0 : lw_At p s m meth c b L xs) {D : va_G} {cI cR cG : ClassId} (hK : va_K D k_cl (k_ty cI cR cG) s) (hG : k_G k_ns s) {q w ro en gr : Nat → Nat} {i : Nat} (hi : i + 5 ≤ L) (kk : lK p l e s m below meth c b Qf D cI cR cG q w ro en gr i 501) : lK p l e s m below meth c b Qf D cI cR cG q w ro en gr i 369 := by
  obtain ⟨hx, hb, hr, hml, hown, hts, hX, hbl, hlocks, -⟩ := C0
  intro t K fi sc nn of se n np r sd lm sf st pc tr fc cn E Pl kn ch le mf mt on ot nu G E0 mn ff pl hI H locs ls hP hD hS hl
  have hA : ∀ q, s.heap.size ≤ q → (fun q => s.heap.size ≤ q) q := fun _ h => h
  have hbA : ¬ (fun q => s.heap.size ≤ q) b := Nat.not_le.mpr hbl
  have hI0 := hI
  obtain ⟨⟨ht, hn, hok, hmo, hK0, hnu⟩, ⟨hE, hrn, hrows, hG0, hE0⟩, ⟨hnp, hof, hse⟩, ⟨hsd, hset, hph⟩, ⟨hkn, hpl, hgo, hkno⟩⟩ := hI
  refine lv_aload_n hx hb d_law_369 rfl (lv_at hl 1 rfl) ?_
  refine k_beIX (va_runV (As := []) (rest := []) ⟨hx, hb, hml, hown, hts⟩ (c_Pm_unslot l D cI cR cG q np sd lm sf st  _) (cwV 0 hts (k_gVL ll_53 rfl kw_instanceMethod_Pm_unslot kw_selects_Pm_unslot kw_initialized_Pm kw_code_Pm_unslot) rfl rfl rfl (by decide +kernel) ⟨(Nat.le_of_ble_eq_true rfl), (Nat.le_of_ble_eq_true rfl)⟩) (k_preVX (q0 := 0) hK hG hP hD [0, 8] rfl rfl rfl rfl) rfl rfl hl.1 rfl (lv_room (Nat.le_of_ble_eq_true rfl)) d_law_370 ⟨(Nat.le_of_ble_eq_true rfl), (Nat.le_of_ble_eq_true rfl)⟩) hP hD hS hA [0, 8] rfl (Eq.trans (b := [q 0, q 8]) rfl rfl) ?_
  clear hP hD hS; intro H locs hP hD hS
  replace hP : va_P D k_cl (lX cI cR cG q w ro gr t K fi sc nn of se n 0 r 0 lm sf st pc tr fc cn t K of se n np kn ch le mf mt on ot nu G E0 mn ff pl ++ (k_pp cI ro en E ++ k_p3 cI gr Pl)) H := hP
  replace hD : va_D (fun q => s.heap.size ≤ q) (lX cI cR cG q w ro gr t K fi sc nn of se n 0 r 0 lm sf st pc tr fc cn t K of se n np kn ch le mf mt on ot nu G E0 mn ff pl ++ (k_pp cI ro en E ++ k_p3 cI gr Pl)) := hD
  refine lv_aload_n hx hb d_law_373 rfl (lv_at hl 2 rfl) ?_
  refine k_beIX (va_runV (As := []) (rest := [.int (zI ↑np)]) ⟨hx, hb, hml, hown, hts⟩ (c_Mo_unslot l D cI cR cG w n np kn ch le mf mt  _) (cwV 0 hts (k_gVL ll_56 rfl kw_instanceMethod_Mo_unslot kw_selects_Mo_unslot kw_initialized_Mo kw_code_Mo_unslot) rfl rfl rfl (by decide +kernel) ⟨(Nat.le_of_ble_eq_true rfl), (Nat.le_of_ble_eq_true rfl)⟩) (k_preVX (q0 := 0) hK hG hP hD [16] rfl rfl rfl rfl) rfl rfl hl.1 rfl (lv_room (Nat.le_of_ble_eq_true rfl)) d_law_374 ⟨(Nat.le_of_ble_eq_true rfl), (Nat.le_of_ble_eq_true rfl)⟩) hP hD hS hA [16] rfl (Eq.trans (b := [w 0]) rfl rfl) ?_
  clear hP hD hS; intro H locs hP hD hS
  replace hP : va_P D k_cl (lX cI cR cG q w ro gr t K fi sc nn of se n 0 r 0 lm sf st pc tr fc cn t K of se n 0 0 ch le mf mt on ot nu G E0 mn ff pl ++ (k_pp cI ro en E ++ k_p3 cI gr Pl)) H := hP
  replace hD : va_D (fun q => s.heap.size ≤ q) (lX cI cR cG q w ro gr t K fi sc nn of se n 0 r 0 lm sf st pc tr fc cn t K of se n 0 0 ch le mf mt on ot nu G E0 mn ff pl ++ (k_pp cI ro en E ++ k_p3 cI gr Pl)) := hD
  refine k_sameI (tgt := 501) hx hb d_law_377 (by decide) rfl ?_
  exact kk t K fi sc nn of se n 0 r 0 lm sf st pc tr fc cn E Pl 0 ch le mf mt on ot nu G E0 mn ff pl ⟨⟨ht, hn, hok, hmo, hK0, hnu⟩, ⟨hE, hrn, hrows, hG0, hE0⟩, ⟨Nat.zero_le _, hof, hse⟩, ⟨Nat.zero_le _, hset, ph0⟩, ⟨Nat.zero_le _, hpl, hgo, kn0⟩⟩ _ _ _ hP hD hS hl
set_option maxHeartbeats 4000000 in
set_option maxRecDepth 100000 in
theorem lc_matches {p : Program} {e : Env} {s : State} {m : MethodId} {below : List Frame} {meth : Method} {c : Code} {Qf : State → Prop} (l : Launch) {b L : Nat} {xs : Nat → Int32} (hL : L ≤ 2560) (C0 : lw_At p s m meth c b L xs) {D : va_G} {cI cR cG : ClassId} (hK : va_K D k_cl (k_ty cI cR cG) s) (hG : k_G k_ns s) {q w ro en gr : Nat → Nat} {i : Nat} (hi : i + 5 ≤ L) (kk : lK p l e s m below meth c b Qf D cI cR cG q w ro en gr i 501) : lK p l e s m below meth c b Qf D cI cR cG q w ro en gr i 382 := by
  obtain ⟨hx, hb, hr, hml, hown, hts, hX, hbl, hlocks, -⟩ := C0
  intro t K fi sc nn of se n np r sd lm sf st pc tr fc cn E Pl kn ch le mf mt on ot nu G E0 mn ff pl hI H locs ls hP hD hS hl
  have hA : ∀ q, s.heap.size ≤ q → (fun q => s.heap.size ≤ q) q := fun _ h => h
  have hbA : ¬ (fun q => s.heap.size ≤ q) b := Nat.not_le.mpr hbl
  have hI0 := hI
  obtain ⟨⟨ht, hn, hok, hmo, hK0, hnu⟩, ⟨hE, hrn, hrows, hG0, hE0⟩, ⟨hnp, hof, hse⟩, ⟨hsd, hset, hph⟩, ⟨hkn, hpl, hgo, hkno⟩⟩ := hI
  by_cases h1 : 0 ≤ (xz xs (i + 1)) ∧ (xz xs (i + 1)) ≤ 9
  · obtain ⟨u, hu⟩ := k_zero_le h1.1
    have hZ1 := settle_ok hnp hof hph
    have hZs := settleF_ok (sd := sd) (np := np) (t := t) (of := of) (se := se) hset
    have hY1 := know_ok hnp hkno
    obtain ⟨hY2, hY3⟩ := know_pb (kn := kn) (t := t) (se := se) (Y := (pl, mn, ch, le, ff, mf, mt)) hnp hof hpl hgo
    obtain ⟨-, hc1, hc2, hc3, hc4, -, -⟩ := both_ok hnp hof hZ1 hY1
    refine lv_aload_n hx hb d_law_382 rfl (lv_at hl 1 rfl) ?_
    refine lv_aload_n hx hb d_law_383 rfl (lv_at hl 0 rfl) ?_
    refine lv_iload_n hx hb d_law_384 rfl (lv_at hl 3 rfl) ?_
    refine lv_iconst (v := zI 1) hx hb d_law_385 (by decide) ?_
    refine k_iadd hx hb d_law_386 rfl ?_
    refine k_sld hx hb hX hbl hbA hS (j := i + 1) (by omega) (by omega) hL d_law_387 ?_
    refine k_stk (st2 := [.int (zI ↑u), .ref (q 0)]) (by rw [hu]) ?_
    refine k_beIT (tn := k_p3 cI gr ((settleF sd np t of se (pc, Pl, tr, fc, cn, lm, sf, st)).2.1)) (T1 := (k_pp cI ro en E ++ k_p3 cI gr ((settleF sd np t of se (pc, Pl, tr, fc, cn, lm, sf, st)).2.1))) (va_runV (As := [.int (zI ↑u)]) (rest := []) ⟨hx, hb, hml, hown, hts⟩ (c_Pm_matches_2 l D cI cR cG q np sd lm sf st gr t of se pc tr fc cn Pl u (by omega) hsd hnp ht hof hse hset _) (cwV 1 hts (k_gVL ll_57 rfl kw_instanceMethod_Pm_matches kw_selects_Pm_matches kw_initialized_Pm kw_code_Pm_matches) rfl rfl rfl (by decide +kernel) ⟨(Nat.le_of_ble_eq_true rfl), (Nat.le_of_ble_eq_true rfl)⟩) (k_preVT (tc := k_p3 cI gr Pl) (q0 := 0) hK hG hP hD [0, 1, 8, 9, 10, 11, 12, 13, 14, 15] rfl rfl (fun _ h => List.mem_append_right _ h) ((k_D_right (k_D_right hD)).weaken (fun _ _ _ _ => trivial)) rfl rfl) rfl rfl hl.1 rfl (lv_room (Nat.le_of_ble_eq_true rfl)) d_law_388 ⟨(Nat.le_of_ble_eq_true rfl), (Nat.le_of_ble_eq_true rfl)⟩) hP hD hS hA [0, 1, 8, 9, 10, 11, 12, 13, 14, 15] rfl (Eq.trans (b := [q 0, q 1, q 8, q 9, q 10, q 11, q 12, q 13, q 14, q 15]) rfl rfl) (fun _ h => List.mem_append_right _ h) (k_mapR k_p3_fst) (k_hU_r (k_D_right hD)) ?_
    clear hP hD hS; intro H locs hP hD hS
    replace hP : va_P D k_cl (lX cI cR cG q w ro gr t K fi sc nn of se n np r 1 ((settleF sd np t of se (pc, Pl, tr, fc, cn, lm, sf, st)).2.2.2.2.2.1) ((settleF sd np t of se (pc, Pl, tr, fc, cn, lm, sf, st)).2.2.2.2.2.2.1) ((settleF sd np t of se (pc, Pl, tr, fc, cn, lm, sf, st)).2.2.2.2.2.2.2) ((settleF sd np t of se (pc, Pl, tr, fc, cn, lm, sf, st)).1) ((settleF sd np t of se (pc, Pl, tr, fc, cn, lm, sf, st)).2.2.1) ((settleF sd np t of se (pc, Pl, tr, fc, cn, lm, sf, st)).2.2.2.1) ((settleF sd np t of se (pc, Pl, tr, fc, cn, lm, sf, st)).2.2.2.2.1) t K of se n np kn ch le mf mt on ot nu G E0 mn ff pl ++ (k_pp cI ro en E ++ k_p3 cI gr ((settleF sd np t of se (pc, Pl, tr, fc, cn, lm, sf, st)).2.1))) H := hP
    replace hD : va_D (fun q => s.heap.size ≤ q) (lX cI cR cG q w ro gr t K fi sc nn of se n np r 1 ((settleF sd np t of se (pc, Pl, tr, fc, cn, lm, sf, st)).2.2.2.2.2.1) ((settleF sd np t of se (pc, Pl, tr, fc, cn, lm, sf, st)).2.2.2.2.2.2.1) ((settleF sd np t of se (pc, Pl, tr, fc, cn, lm, sf, st)).2.2.2.2.2.2.2) ((settleF sd np t of se (pc, Pl, tr, fc, cn, lm, sf, st)).1) ((settleF sd np t of se (pc, Pl, tr, fc, cn, lm, sf, st)).2.2.1) ((settleF sd np t of se (pc, Pl, tr, fc, cn, lm, sf, st)).2.2.2.1) ((settleF sd np t of se (pc, Pl, tr, fc, cn, lm, sf, st)).2.2.2.2.1) t K of se n np kn ch le mf mt on ot nu G E0 mn ff pl ++ (k_pp cI ro en E ++ k_p3 cI gr ((settleF sd np t of se (pc, Pl, tr, fc, cn, lm, sf, st)).2.1))) := hD
    refine lv_aload_n hx hb d_law_391 rfl (lv_at hl 2 rfl) ?_
    refine lv_aload_n hx hb d_law_392 rfl (lv_at hl 0 rfl) ?_
    refine lv_iload_n hx hb d_law_393 rfl (lv_at hl 3 rfl) ?_
    refine lv_iconst (v := zI 1) hx hb d_law_394 (by decide) ?_
    refine k_iadd hx hb d_law_395 rfl ?_
    refine k_sld hx hb hX hbl hbA hS (j := i + 1) (by omega) (by omega) hL d_law_396 ?_
    refine k_stk (st2 := [.int (zI ↑u), .ref (w 0), .int (zI (↑(cSum ((settleF sd np t of se (pc, Pl, tr, fc, cn, lm, sf, st)).2.2.2.2.1) (u + 1) 0 0)))]) (by rw [hu]) ?_
    refine k_beIX (va_runV (As := [.int (zI ↑u)]) (rest := [.int (zI (↑(cSum ((settleF sd np t of se (pc, Pl, tr, fc, cn, lm, sf, st)).2.2.2.2.1) (u + 1) 0 0)))]) ⟨hx, hb, hml, hown, hts⟩ (c_Mo_matches_2 l D cI cR cG w n np kn ch le mf mt t of se mn ff pl gN u (by omega) hkn hnp ht hof hse hpl hgo (by unfold gN; omega) (fun _ h1 => know_end h1 hnp pl _) _) (cwV 1 hts (k_gVL ll_60 rfl kw_instanceMethod_Mo_matches kw_selects_Mo_matches kw_initialized_Mo kw_code_Mo_matches) rfl rfl rfl (by decide +kernel) ⟨(Nat.le_of_ble_eq_true rfl), (Nat.le_of_ble_eq_true rfl)⟩) (k_preVX (q0 := 0) hK hG hP hD [16, 17, 22, 23, 26, 27, 28] rfl rfl rfl rfl) rfl rfl hl.1 rfl (lv_room (Nat.le_of_ble_eq_true rfl)) d_law_397 ⟨(Nat.le_of_ble_eq_true rfl), (Nat.le_of_ble_eq_true rfl)⟩) hP hD hS hA [16, 17, 22, 23, 26, 27, 28] rfl (Eq.trans (b := [w 0, w 1, w 6, w 7, w 10, w 11, w 12]) rfl rfl) ?_
    clear hP hD hS; intro H locs hP hD hS
    replace hP : va_P D k_cl (lX cI cR cG q w ro gr t K fi sc nn of se n np r 1 ((settleF sd np t of se (pc, Pl, tr, fc, cn, lm, sf, st)).2.2.2.2.2.1) ((settleF sd np t of se (pc, Pl, tr, fc, cn, lm, sf, st)).2.2.2.2.2.2.1) ((settleF sd np t of se (pc, Pl, tr, fc, cn, lm, sf, st)).2.2.2.2.2.2.2) ((settleF sd np t of se (pc, Pl, tr, fc, cn, lm, sf, st)).1) ((settleF sd np t of se (pc, Pl, tr, fc, cn, lm, sf, st)).2.2.1) ((settleF sd np t of se (pc, Pl, tr, fc, cn, lm, sf, st)).2.2.2.1) ((settleF sd np t of se (pc, Pl, tr, fc, cn, lm, sf, st)).2.2.2.2.1) t K of se n np 1 ((knowF kn np t of se gN (pl, mn, ch, le, ff, mf, mt)).2.2.1) ((knowF kn np t of se gN (pl, mn, ch, le, ff, mf, mt)).2.2.2.1) ((knowF kn np t of se gN (pl, mn, ch, le, ff, mf, mt)).2.2.2.2.2.1) ((knowF kn np t of se gN (pl, mn, ch, le, ff, mf, mt)).2.2.2.2.2.2) on ot nu G E0 ((knowF kn np t of se gN (pl, mn, ch, le, ff, mf, mt)).2.1) ((knowF kn np t of se gN (pl, mn, ch, le, ff, mf, mt)).2.2.2.2.1) ((knowF kn np t of se gN (pl, mn, ch, le, ff, mf, mt)).1) ++ (k_pp cI ro en E ++ k_p3 cI gr ((settleF sd np t of se (pc, Pl, tr, fc, cn, lm, sf, st)).2.1))) H := hP
    replace hD : va_D (fun q => s.heap.size ≤ q) (lX cI cR cG q w ro gr t K fi sc nn of se n np r 1 ((settleF sd np t of se (pc, Pl, tr, fc, cn, lm, sf, st)).2.2.2.2.2.1) ((settleF sd np t of se (pc, Pl, tr, fc, cn, lm, sf, st)).2.2.2.2.2.2.1) ((settleF sd np t of se (pc, Pl, tr, fc, cn, lm, sf, st)).2.2.2.2.2.2.2) ((settleF sd np t of se (pc, Pl, tr, fc, cn, lm, sf, st)).1) ((settleF sd np t of se (pc, Pl, tr, fc, cn, lm, sf, st)).2.2.1) ((settleF sd np t of se (pc, Pl, tr, fc, cn, lm, sf, st)).2.2.2.1) ((settleF sd np t of se (pc, Pl, tr, fc, cn, lm, sf, st)).2.2.2.2.1) t K of se n np 1 ((knowF kn np t of se gN (pl, mn, ch, le, ff, mf, mt)).2.2.1) ((knowF kn np t of se gN (pl, mn, ch, le, ff, mf, mt)).2.2.2.1) ((knowF kn np t of se gN (pl, mn, ch, le, ff, mf, mt)).2.2.2.2.2.1) ((knowF kn np t of se gN (pl, mn, ch, le, ff, mf, mt)).2.2.2.2.2.2) on ot nu G E0 ((knowF kn np t of se gN (pl, mn, ch, le, ff, mf, mt)).2.1) ((knowF kn np t of se gN (pl, mn, ch, le, ff, mf, mt)).2.2.2.2.1) ((knowF kn np t of se gN (pl, mn, ch, le, ff, mf, mt)).1) ++ (k_pp cI ro en E ++ k_p3 cI gr ((settleF sd np t of se (pc, Pl, tr, fc, cn, lm, sf, st)).2.1))) := hD
    refine k_sameI (tgt := 501) hx hb d_law_400 (by decide) (congrArg (fun z : Nat => (z : Int)) (an_m hnp hof hZ1 hY1 (by omega))) ?_
    exact kk t K fi sc nn of se n np r 1 ((settleF sd np t of se (pc, Pl, tr, fc, cn, lm, sf, st)).2.2.2.2.2.1) ((settleF sd np t of se (pc, Pl, tr, fc, cn, lm, sf, st)).2.2.2.2.2.2.1) ((settleF sd np t of se (pc, Pl, tr, fc, cn, lm, sf, st)).2.2.2.2.2.2.2) ((settleF sd np t of se (pc, Pl, tr, fc, cn, lm, sf, st)).1) ((settleF sd np t of se (pc, Pl, tr, fc, cn, lm, sf, st)).2.2.1) ((settleF sd np t of se (pc, Pl, tr, fc, cn, lm, sf, st)).2.2.2.1) ((settleF sd np t of se (pc, Pl, tr, fc, cn, lm, sf, st)).2.2.2.2.1) E ((settleF sd np t of se (pc, Pl, tr, fc, cn, lm, sf, st)).2.1) 1 ((knowF kn np t of se gN (pl, mn, ch, le, ff, mf, mt)).2.2.1) ((knowF kn np t of se gN (pl, mn, ch, le, ff, mf, mt)).2.2.2.1) ((knowF kn np t of se gN (pl, mn, ch, le, ff, mf, mt)).2.2.2.2.2.1) ((knowF kn np t of se gN (pl, mn, ch, le, ff, mf, mt)).2.2.2.2.2.2) on ot nu G E0 ((knowF kn np t of se gN (pl, mn, ch, le, ff, mf, mt)).2.1) ((knowF kn np t of se gN (pl, mn, ch, le, ff, mf, mt)).2.2.2.2.1) ((knowF kn np t of se gN (pl, mn, ch, le, ff, mf, mt)).1) ⟨⟨ht, hn, hok, hmo, hK0, hnu⟩, ⟨hE, hrn, hrows, hG0, hE0⟩, ⟨hnp, hof, hse⟩, ⟨Nat.le_refl 1, hZs, hZ1⟩, ⟨Nat.le_refl 1, hY2, hY3, hY1⟩⟩ _ _ _ hP hD hS hl
  · refine lv_aload_n hx hb d_law_382 rfl (lv_at hl 1 rfl) ?_
    refine lv_aload_n hx hb d_law_383 rfl (lv_at hl 0 rfl) ?_
    refine lv_iload_n hx hb d_law_384 rfl (lv_at hl 3 rfl) ?_
    refine lv_iconst (v := zI 1) hx hb d_law_385 (by decide) ?_
    refine k_iadd hx hb d_law_386 rfl ?_
    refine k_sld hx hb hX hbl hbA hS (j := i + 1) (by omega) (by omega) hL d_law_387 ?_
    refine k_beIX (va_runV (As := [.int (zI (xz xs (i + 1)))]) (rest := []) ⟨hx, hb, hml, hown, hts⟩ (c_Pm_matches_1 l D cI cR cG q (xz xs (i + 1)) (xz_sm _ _) h1 _) (cwV 1 hts (k_gVL ll_57 rfl kw_instanceMethod_Pm_matches kw_selects_Pm_matches kw_initialized_Pm kw_code_Pm_matches) rfl rfl rfl (by decide +kernel) ⟨(Nat.le_of_ble_eq_true rfl), (Nat.le_of_ble_eq_true rfl)⟩) (k_preVX (q0 := 0) hK hG hP hD [0] rfl rfl rfl rfl) rfl rfl hl.1 rfl (lv_room (Nat.le_of_ble_eq_true rfl)) d_law_388 ⟨(Nat.le_of_ble_eq_true rfl), (Nat.le_of_ble_eq_true rfl)⟩) hP hD hS hA [0] rfl (Eq.trans (b := [q 0]) rfl rfl) ?_
    clear hP hD hS; intro H locs hP hD hS
    replace hP : va_P D k_cl (lX cI cR cG q w ro gr t K fi sc nn of se n np r sd lm sf st pc tr fc cn t K of se n np kn ch le mf mt on ot nu G E0 mn ff pl ++ (k_pp cI ro en E ++ k_p3 cI gr Pl)) H := hP
    replace hD : va_D (fun q => s.heap.size ≤ q) (lX cI cR cG q w ro gr t K fi sc nn of se n np r sd lm sf st pc tr fc cn t K of se n np kn ch le mf mt on ot nu G E0 mn ff pl ++ (k_pp cI ro en E ++ k_p3 cI gr Pl)) := hD
    refine lv_aload_n hx hb d_law_391 rfl (lv_at hl 2 rfl) ?_
    refine lv_aload_n hx hb d_law_392 rfl (lv_at hl 0 rfl) ?_
    refine lv_iload_n hx hb d_law_393 rfl (lv_at hl 3 rfl) ?_
    refine lv_iconst (v := zI 1) hx hb d_law_394 (by decide) ?_
    refine k_iadd hx hb d_law_395 rfl ?_
    refine k_sld hx hb hX hbl hbA hS (j := i + 1) (by omega) (by omega) hL d_law_396 ?_
    refine k_beIX (va_runV (As := [.int (zI (xz xs (i + 1)))]) (rest := [.int (zI (-2))]) ⟨hx, hb, hml, hown, hts⟩ (c_Mo_matches_1 l D cI cR cG w n np kn ch le mf mt (xz xs (i + 1)) (xz_sm _ _) h1 _) (cwV 1 hts (k_gVL ll_60 rfl kw_instanceMethod_Mo_matches kw_selects_Mo_matches kw_initialized_Mo kw_code_Mo_matches) rfl rfl rfl (by decide +kernel) ⟨(Nat.le_of_ble_eq_true rfl), (Nat.le_of_ble_eq_true rfl)⟩) (k_preVX (q0 := 0) hK hG hP hD [16] rfl rfl rfl rfl) rfl rfl hl.1 rfl (lv_room (Nat.le_of_ble_eq_true rfl)) d_law_397 ⟨(Nat.le_of_ble_eq_true rfl), (Nat.le_of_ble_eq_true rfl)⟩) hP hD hS hA [16] rfl (Eq.trans (b := [w 0]) rfl rfl) ?_
    clear hP hD hS; intro H locs hP hD hS
    replace hP : va_P D k_cl (lX cI cR cG q w ro gr t K fi sc nn of se n np r sd lm sf st pc tr fc cn t K of se n np kn ch le mf mt on ot nu G E0 mn ff pl ++ (k_pp cI ro en E ++ k_p3 cI gr Pl)) H := hP
    replace hD : va_D (fun q => s.heap.size ≤ q) (lX cI cR cG q w ro gr t K fi sc nn of se n np r sd lm sf st pc tr fc cn t K of se n np kn ch le mf mt on ot nu G E0 mn ff pl ++ (k_pp cI ro en E ++ k_p3 cI gr Pl)) := hD
    refine k_sameI (tgt := 501) hx hb d_law_400 (by decide) rfl ?_
    exact kk t K fi sc nn of se n np r sd lm sf st pc tr fc cn E Pl kn ch le mf mt on ot nu G E0 mn ff pl hI0 _ _ _ hP hD hS hl
set_option maxHeartbeats 4000000 in
set_option maxRecDepth 100000 in
theorem lc_weight {p : Program} {e : Env} {s : State} {m : MethodId} {below : List Frame} {meth : Method} {c : Code} {Qf : State → Prop} (l : Launch) {b L : Nat} {xs : Nat → Int32} (hL : L ≤ 2560) (C0 : lw_At p s m meth c b L xs) {D : va_G} {cI cR cG : ClassId} (hK : va_K D k_cl (k_ty cI cR cG) s) (hG : k_G k_ns s) {q w ro en gr : Nat → Nat} {i : Nat} (hi : i + 5 ≤ L) (kk : lK p l e s m below meth c b Qf D cI cR cG q w ro en gr i 501) : lK p l e s m below meth c b Qf D cI cR cG q w ro en gr i 405 := by
  obtain ⟨hx, hb, hr, hml, hown, hts, hX, hbl, hlocks, -⟩ := C0
  intro t K fi sc nn of se n np r sd lm sf st pc tr fc cn E Pl kn ch le mf mt on ot nu G E0 mn ff pl hI H locs ls hP hD hS hl
  have hA : ∀ q, s.heap.size ≤ q → (fun q => s.heap.size ≤ q) q := fun _ h => h
  have hbA : ¬ (fun q => s.heap.size ≤ q) b := Nat.not_le.mpr hbl
  have hI0 := hI
  obtain ⟨⟨ht, hn, hok, hmo, hK0, hnu⟩, ⟨hE, hrn, hrows, hG0, hE0⟩, ⟨hnp, hof, hse⟩, ⟨hsd, hset, hph⟩, ⟨hkn, hpl, hgo, hkno⟩⟩ := hI
  by_cases h1 : 0 ≤ (xz xs (i + 1)) ∧ (xz xs (i + 1)) ≤ 9
  · obtain ⟨u, hu⟩ := k_zero_le h1.1
    have hZ1 := settle_ok hnp hof hph
    have hZs := settleF_ok (sd := sd) (np := np) (t := t) (of := of) (se := se) hset
    have hY1 := know_ok hnp hkno
    obtain ⟨hY2, hY3⟩ := know_pb (kn := kn) (t := t) (se := se) (Y := (pl, mn, ch, le, ff, mf, mt)) hnp hof hpl hgo
    obtain ⟨-, hc1, hc2, hc3, hc4, -, -⟩ := both_ok hnp hof hZ1 hY1
    refine lv_aload_n hx hb d_law_405 rfl (lv_at hl 1 rfl) ?_
    refine lv_aload_n hx hb d_law_406 rfl (lv_at hl 0 rfl) ?_
    refine lv_iload_n hx hb d_law_407 rfl (lv_at hl 3 rfl) ?_
    refine lv_iconst (v := zI 1) hx hb d_law_408 (by decide) ?_
    refine k_iadd hx hb d_law_409 rfl ?_
    refine k_sld hx hb hX hbl hbA hS (j := i + 1) (by omega) (by omega) hL d_law_410 ?_
    refine k_stk (st2 := [.int (zI ↑u), .ref (q 0)]) (by rw [hu]) ?_
    refine k_beLT (tn := k_p3 cI gr ((settleF sd np t of se (pc, Pl, tr, fc, cn, lm, sf, st)).2.1)) (T1 := (k_pp cI ro en E ++ k_p3 cI gr ((settleF sd np t of se (pc, Pl, tr, fc, cn, lm, sf, st)).2.1))) (va_runV (As := [.int (zI ↑u)]) (rest := []) ⟨hx, hb, hml, hown, hts⟩ (c_Pm_weight_2 l D cI cR cG q np sd lm sf st gr t of se pc tr fc cn Pl u (by omega) hc1 hsd hnp ht hof hse hset _) (cwV 1 hts (k_gVL ll_61 rfl kw_instanceMethod_Pm_weight kw_selects_Pm_weight kw_initialized_Pm kw_code_Pm_weight) rfl rfl rfl (by decide +kernel) ⟨(Nat.le_of_ble_eq_true rfl), (Nat.le_of_ble_eq_true rfl)⟩) (k_preVT (tc := k_p3 cI gr Pl) (q0 := 0) hK hG hP hD [0, 1, 8, 9, 10, 11, 12, 13, 14, 15] rfl rfl (fun _ h => List.mem_append_right _ h) ((k_D_right (k_D_right hD)).weaken (fun _ _ _ _ => trivial)) rfl rfl) rfl rfl hl.1 rfl (lv_room (Nat.le_of_ble_eq_true rfl)) d_law_411 ⟨(Nat.le_of_ble_eq_true rfl), (Nat.le_of_ble_eq_true rfl)⟩) hP hD hS hA [0, 1, 8, 9, 10, 11, 12, 13, 14, 15] rfl (Eq.trans (b := [q 0, q 1, q 8, q 9, q 10, q 11, q 12, q 13, q 14, q 15]) rfl rfl) (fun _ h => List.mem_append_right _ h) (k_mapR k_p3_fst) (k_hU_r (k_D_right hD)) ?_
    clear hP hD hS; intro H locs hP hD hS
    replace hP : va_P D k_cl (lX cI cR cG q w ro gr t K fi sc nn of se n np r 1 ((settleF sd np t of se (pc, Pl, tr, fc, cn, lm, sf, st)).2.2.2.2.2.1) ((settleF sd np t of se (pc, Pl, tr, fc, cn, lm, sf, st)).2.2.2.2.2.2.1) ((settleF sd np t of se (pc, Pl, tr, fc, cn, lm, sf, st)).2.2.2.2.2.2.2) ((settleF sd np t of se (pc, Pl, tr, fc, cn, lm, sf, st)).1) ((settleF sd np t of se (pc, Pl, tr, fc, cn, lm, sf, st)).2.2.1) ((settleF sd np t of se (pc, Pl, tr, fc, cn, lm, sf, st)).2.2.2.1) ((settleF sd np t of se (pc, Pl, tr, fc, cn, lm, sf, st)).2.2.2.2.1) t K of se n np kn ch le mf mt on ot nu G E0 mn ff pl ++ (k_pp cI ro en E ++ k_p3 cI gr ((settleF sd np t of se (pc, Pl, tr, fc, cn, lm, sf, st)).2.1))) H := hP
    replace hD : va_D (fun q => s.heap.size ≤ q) (lX cI cR cG q w ro gr t K fi sc nn of se n np r 1 ((settleF sd np t of se (pc, Pl, tr, fc, cn, lm, sf, st)).2.2.2.2.2.1) ((settleF sd np t of se (pc, Pl, tr, fc, cn, lm, sf, st)).2.2.2.2.2.2.1) ((settleF sd np t of se (pc, Pl, tr, fc, cn, lm, sf, st)).2.2.2.2.2.2.2) ((settleF sd np t of se (pc, Pl, tr, fc, cn, lm, sf, st)).1) ((settleF sd np t of se (pc, Pl, tr, fc, cn, lm, sf, st)).2.2.1) ((settleF sd np t of se (pc, Pl, tr, fc, cn, lm, sf, st)).2.2.2.1) ((settleF sd np t of se (pc, Pl, tr, fc, cn, lm, sf, st)).2.2.2.2.1) t K of se n np kn ch le mf mt on ot nu G E0 mn ff pl ++ (k_pp cI ro en E ++ k_p3 cI gr ((settleF sd np t of se (pc, Pl, tr, fc, cn, lm, sf, st)).2.1))) := hD
    refine lv_aload_n hx hb d_law_414 rfl (lv_at hl 2 rfl) ?_
    refine lv_aload_n hx hb d_law_415 rfl (lv_at hl 0 rfl) ?_
    refine lv_iload_n hx hb d_law_416 rfl (lv_at hl 3 rfl) ?_
    refine lv_iconst (v := zI 1) hx hb d_law_417 (by decide) ?_
    refine k_iadd hx hb d_law_418 rfl ?_
    refine k_sld hx hb hX hbl hbA hS (j := i + 1) (by omega) (by omega) hL d_law_419 ?_
    refine k_stk (st2 := [.int (zI ↑u), .ref (w 0), .long (lN (wSum ((settleF sd np t of se (pc, Pl, tr, fc, cn, lm, sf, st)).2.2.2.2.1) (u + 1) 0 0))]) (by rw [hu]) ?_
    refine k_beLX (va_runV (As := [.int (zI ↑u)]) (rest := [.long (lN (wSum ((settleF sd np t of se (pc, Pl, tr, fc, cn, lm, sf, st)).2.2.2.2.1) (u + 1) 0 0))]) ⟨hx, hb, hml, hown, hts⟩ (c_Mo_weight_2 l D cI cR cG w n np kn ch le mf mt t of se mn ff pl gN u (by omega) hc2 hkn hnp ht hof hse hpl hgo (by unfold gN; omega) (fun _ h1 => know_end h1 hnp pl _) _) (cwV 1 hts (k_gVL ll_65 rfl kw_instanceMethod_Mo_weight kw_selects_Mo_weight kw_initialized_Mo kw_code_Mo_weight) rfl rfl rfl (by decide +kernel) ⟨(Nat.le_of_ble_eq_true rfl), (Nat.le_of_ble_eq_true rfl)⟩) (k_preVX (q0 := 0) hK hG hP hD [16, 17, 22, 23, 26, 27, 28] rfl rfl rfl rfl) rfl rfl hl.1 rfl (lv_room (Nat.le_of_ble_eq_true rfl)) d_law_420 ⟨(Nat.le_of_ble_eq_true rfl), (Nat.le_of_ble_eq_true rfl)⟩) hP hD hS hA [16, 17, 22, 23, 26, 27, 28] rfl (Eq.trans (b := [w 0, w 1, w 6, w 7, w 10, w 11, w 12]) rfl rfl) ?_
    clear hP hD hS; intro H locs hP hD hS
    replace hP : va_P D k_cl (lX cI cR cG q w ro gr t K fi sc nn of se n np r 1 ((settleF sd np t of se (pc, Pl, tr, fc, cn, lm, sf, st)).2.2.2.2.2.1) ((settleF sd np t of se (pc, Pl, tr, fc, cn, lm, sf, st)).2.2.2.2.2.2.1) ((settleF sd np t of se (pc, Pl, tr, fc, cn, lm, sf, st)).2.2.2.2.2.2.2) ((settleF sd np t of se (pc, Pl, tr, fc, cn, lm, sf, st)).1) ((settleF sd np t of se (pc, Pl, tr, fc, cn, lm, sf, st)).2.2.1) ((settleF sd np t of se (pc, Pl, tr, fc, cn, lm, sf, st)).2.2.2.1) ((settleF sd np t of se (pc, Pl, tr, fc, cn, lm, sf, st)).2.2.2.2.1) t K of se n np 1 ((knowF kn np t of se gN (pl, mn, ch, le, ff, mf, mt)).2.2.1) ((knowF kn np t of se gN (pl, mn, ch, le, ff, mf, mt)).2.2.2.1) ((knowF kn np t of se gN (pl, mn, ch, le, ff, mf, mt)).2.2.2.2.2.1) ((knowF kn np t of se gN (pl, mn, ch, le, ff, mf, mt)).2.2.2.2.2.2) on ot nu G E0 ((knowF kn np t of se gN (pl, mn, ch, le, ff, mf, mt)).2.1) ((knowF kn np t of se gN (pl, mn, ch, le, ff, mf, mt)).2.2.2.2.1) ((knowF kn np t of se gN (pl, mn, ch, le, ff, mf, mt)).1) ++ (k_pp cI ro en E ++ k_p3 cI gr ((settleF sd np t of se (pc, Pl, tr, fc, cn, lm, sf, st)).2.1))) H := hP
    replace hD : va_D (fun q => s.heap.size ≤ q) (lX cI cR cG q w ro gr t K fi sc nn of se n np r 1 ((settleF sd np t of se (pc, Pl, tr, fc, cn, lm, sf, st)).2.2.2.2.2.1) ((settleF sd np t of se (pc, Pl, tr, fc, cn, lm, sf, st)).2.2.2.2.2.2.1) ((settleF sd np t of se (pc, Pl, tr, fc, cn, lm, sf, st)).2.2.2.2.2.2.2) ((settleF sd np t of se (pc, Pl, tr, fc, cn, lm, sf, st)).1) ((settleF sd np t of se (pc, Pl, tr, fc, cn, lm, sf, st)).2.2.1) ((settleF sd np t of se (pc, Pl, tr, fc, cn, lm, sf, st)).2.2.2.1) ((settleF sd np t of se (pc, Pl, tr, fc, cn, lm, sf, st)).2.2.2.2.1) t K of se n np 1 ((knowF kn np t of se gN (pl, mn, ch, le, ff, mf, mt)).2.2.1) ((knowF kn np t of se gN (pl, mn, ch, le, ff, mf, mt)).2.2.2.1) ((knowF kn np t of se gN (pl, mn, ch, le, ff, mf, mt)).2.2.2.2.2.1) ((knowF kn np t of se gN (pl, mn, ch, le, ff, mf, mt)).2.2.2.2.2.2) on ot nu G E0 ((knowF kn np t of se gN (pl, mn, ch, le, ff, mf, mt)).2.1) ((knowF kn np t of se gN (pl, mn, ch, le, ff, mf, mt)).2.2.2.2.1) ((knowF kn np t of se gN (pl, mn, ch, le, ff, mf, mt)).1) ++ (k_pp cI ro en E ++ k_p3 cI gr ((settleF sd np t of se (pc, Pl, tr, fc, cn, lm, sf, st)).2.1))) := hD
    refine k_sameL (tgt := 501) hx hb d_law_423 d_law_424 (by decide) (congrArg lN (an_w hnp hof hZ1 hY1 (by omega))) ?_
    exact kk t K fi sc nn of se n np r 1 ((settleF sd np t of se (pc, Pl, tr, fc, cn, lm, sf, st)).2.2.2.2.2.1) ((settleF sd np t of se (pc, Pl, tr, fc, cn, lm, sf, st)).2.2.2.2.2.2.1) ((settleF sd np t of se (pc, Pl, tr, fc, cn, lm, sf, st)).2.2.2.2.2.2.2) ((settleF sd np t of se (pc, Pl, tr, fc, cn, lm, sf, st)).1) ((settleF sd np t of se (pc, Pl, tr, fc, cn, lm, sf, st)).2.2.1) ((settleF sd np t of se (pc, Pl, tr, fc, cn, lm, sf, st)).2.2.2.1) ((settleF sd np t of se (pc, Pl, tr, fc, cn, lm, sf, st)).2.2.2.2.1) E ((settleF sd np t of se (pc, Pl, tr, fc, cn, lm, sf, st)).2.1) 1 ((knowF kn np t of se gN (pl, mn, ch, le, ff, mf, mt)).2.2.1) ((knowF kn np t of se gN (pl, mn, ch, le, ff, mf, mt)).2.2.2.1) ((knowF kn np t of se gN (pl, mn, ch, le, ff, mf, mt)).2.2.2.2.2.1) ((knowF kn np t of se gN (pl, mn, ch, le, ff, mf, mt)).2.2.2.2.2.2) on ot nu G E0 ((knowF kn np t of se gN (pl, mn, ch, le, ff, mf, mt)).2.1) ((knowF kn np t of se gN (pl, mn, ch, le, ff, mf, mt)).2.2.2.2.1) ((knowF kn np t of se gN (pl, mn, ch, le, ff, mf, mt)).1) ⟨⟨ht, hn, hok, hmo, hK0, hnu⟩, ⟨hE, hrn, hrows, hG0, hE0⟩, ⟨hnp, hof, hse⟩, ⟨Nat.le_refl 1, hZs, hZ1⟩, ⟨Nat.le_refl 1, hY2, hY3, hY1⟩⟩ _ _ _ hP hD hS hl
  · refine lv_aload_n hx hb d_law_405 rfl (lv_at hl 1 rfl) ?_
    refine lv_aload_n hx hb d_law_406 rfl (lv_at hl 0 rfl) ?_
    refine lv_iload_n hx hb d_law_407 rfl (lv_at hl 3 rfl) ?_
    refine lv_iconst (v := zI 1) hx hb d_law_408 (by decide) ?_
    refine k_iadd hx hb d_law_409 rfl ?_
    refine k_sld hx hb hX hbl hbA hS (j := i + 1) (by omega) (by omega) hL d_law_410 ?_
    refine k_beLX (va_runV (As := [.int (zI (xz xs (i + 1)))]) (rest := []) ⟨hx, hb, hml, hown, hts⟩ (c_Pm_weight_1 l D cI cR cG q (xz xs (i + 1)) (xz_sm _ _) h1 _) (cwV 1 hts (k_gVL ll_61 rfl kw_instanceMethod_Pm_weight kw_selects_Pm_weight kw_initialized_Pm kw_code_Pm_weight) rfl rfl rfl (by decide +kernel) ⟨(Nat.le_of_ble_eq_true rfl), (Nat.le_of_ble_eq_true rfl)⟩) (k_preVX (q0 := 0) hK hG hP hD [0] rfl rfl rfl rfl) rfl rfl hl.1 rfl (lv_room (Nat.le_of_ble_eq_true rfl)) d_law_411 ⟨(Nat.le_of_ble_eq_true rfl), (Nat.le_of_ble_eq_true rfl)⟩) hP hD hS hA [0] rfl (Eq.trans (b := [q 0]) rfl rfl) ?_
    clear hP hD hS; intro H locs hP hD hS
    replace hP : va_P D k_cl (lX cI cR cG q w ro gr t K fi sc nn of se n np r sd lm sf st pc tr fc cn t K of se n np kn ch le mf mt on ot nu G E0 mn ff pl ++ (k_pp cI ro en E ++ k_p3 cI gr Pl)) H := hP
    replace hD : va_D (fun q => s.heap.size ≤ q) (lX cI cR cG q w ro gr t K fi sc nn of se n np r sd lm sf st pc tr fc cn t K of se n np kn ch le mf mt on ot nu G E0 mn ff pl ++ (k_pp cI ro en E ++ k_p3 cI gr Pl)) := hD
    refine lv_aload_n hx hb d_law_414 rfl (lv_at hl 2 rfl) ?_
    refine lv_aload_n hx hb d_law_415 rfl (lv_at hl 0 rfl) ?_
    refine lv_iload_n hx hb d_law_416 rfl (lv_at hl 3 rfl) ?_
    refine lv_iconst (v := zI 1) hx hb d_law_417 (by decide) ?_
    refine k_iadd hx hb d_law_418 rfl ?_
    refine k_sld hx hb hX hbl hbA hS (j := i + 1) (by omega) (by omega) hL d_law_419 ?_
    refine k_beLX (va_runV (As := [.int (zI (xz xs (i + 1)))]) (rest := [.long ((-2))]) ⟨hx, hb, hml, hown, hts⟩ (c_Mo_weight_1 l D cI cR cG w n np kn ch le mf mt (xz xs (i + 1)) (xz_sm _ _) h1 _) (cwV 1 hts (k_gVL ll_65 rfl kw_instanceMethod_Mo_weight kw_selects_Mo_weight kw_initialized_Mo kw_code_Mo_weight) rfl rfl rfl (by decide +kernel) ⟨(Nat.le_of_ble_eq_true rfl), (Nat.le_of_ble_eq_true rfl)⟩) (k_preVX (q0 := 0) hK hG hP hD [16] rfl rfl rfl rfl) rfl rfl hl.1 rfl (lv_room (Nat.le_of_ble_eq_true rfl)) d_law_420 ⟨(Nat.le_of_ble_eq_true rfl), (Nat.le_of_ble_eq_true rfl)⟩) hP hD hS hA [16] rfl (Eq.trans (b := [w 0]) rfl rfl) ?_
    clear hP hD hS; intro H locs hP hD hS
    replace hP : va_P D k_cl (lX cI cR cG q w ro gr t K fi sc nn of se n np r sd lm sf st pc tr fc cn t K of se n np kn ch le mf mt on ot nu G E0 mn ff pl ++ (k_pp cI ro en E ++ k_p3 cI gr Pl)) H := hP
    replace hD : va_D (fun q => s.heap.size ≤ q) (lX cI cR cG q w ro gr t K fi sc nn of se n np r sd lm sf st pc tr fc cn t K of se n np kn ch le mf mt on ot nu G E0 mn ff pl ++ (k_pp cI ro en E ++ k_p3 cI gr Pl)) := hD
    refine k_sameL (tgt := 501) hx hb d_law_423 d_law_424 (by decide) rfl ?_
    exact kk t K fi sc nn of se n np r sd lm sf st pc tr fc cn E Pl kn ch le mf mt on ot nu G E0 mn ff pl hI0 _ _ _ hP hD hS hl
set_option maxHeartbeats 4000000 in
set_option maxRecDepth 100000 in
theorem lc_least {p : Program} {e : Env} {s : State} {m : MethodId} {below : List Frame} {meth : Method} {c : Code} {Qf : State → Prop} (l : Launch) {b L : Nat} {xs : Nat → Int32} (hL : L ≤ 2560) (C0 : lw_At p s m meth c b L xs) {D : va_G} {cI cR cG : ClassId} (hK : va_K D k_cl (k_ty cI cR cG) s) (hG : k_G k_ns s) {q w ro en gr : Nat → Nat} {i : Nat} (hi : i + 5 ≤ L) (kk : lK p l e s m below meth c b Qf D cI cR cG q w ro en gr i 501) : lK p l e s m below meth c b Qf D cI cR cG q w ro en gr i 429 := by
  obtain ⟨hx, hb, hr, hml, hown, hts, hX, hbl, hlocks, -⟩ := C0
  intro t K fi sc nn of se n np r sd lm sf st pc tr fc cn E Pl kn ch le mf mt on ot nu G E0 mn ff pl hI H locs ls hP hD hS hl
  have hA : ∀ q, s.heap.size ≤ q → (fun q => s.heap.size ≤ q) q := fun _ h => h
  have hbA : ¬ (fun q => s.heap.size ≤ q) b := Nat.not_le.mpr hbl
  have hI0 := hI
  obtain ⟨⟨ht, hn, hok, hmo, hK0, hnu⟩, ⟨hE, hrn, hrows, hG0, hE0⟩, ⟨hnp, hof, hse⟩, ⟨hsd, hset, hph⟩, ⟨hkn, hpl, hgo, hkno⟩⟩ := hI
  have hZ1 := settle_ok hnp hof hph
  have hZs := settleF_ok (sd := sd) (np := np) (t := t) (of := of) (se := se) hset
  have hY1 := know_ok hnp hkno
  obtain ⟨hY2, hY3⟩ := know_pb (kn := kn) (t := t) (se := se) (Y := (pl, mn, ch, le, ff, mf, mt)) hnp hof hpl hgo
  obtain ⟨-, hc1, hc2, hc3, hc4, -, -⟩ := both_ok hnp hof hZ1 hY1
  refine lv_aload_n hx hb d_law_429 rfl (lv_at hl 1 rfl) ?_
  refine k_beIT (tn := k_p3 cI gr ((settleF sd np t of se (pc, Pl, tr, fc, cn, lm, sf, st)).2.1)) (T1 := (k_pp cI ro en E ++ k_p3 cI gr ((settleF sd np t of se (pc, Pl, tr, fc, cn, lm, sf, st)).2.1))) (va_runV (As := []) (rest := []) ⟨hx, hb, hml, hown, hts⟩ (c_Pm_least l D cI cR cG q np sd lm sf st gr t of se pc tr fc cn Pl hsd hnp ht hof hse hset _) (cwV 0 hts (k_gVL ll_66 rfl kw_instanceMethod_Pm_least kw_selects_Pm_least kw_initialized_Pm kw_code_Pm_least) rfl rfl rfl (by decide +kernel) ⟨(Nat.le_of_ble_eq_true rfl), (Nat.le_of_ble_eq_true rfl)⟩) (k_preVT (tc := k_p3 cI gr Pl) (q0 := 0) hK hG hP hD [0, 1, 8, 9, 10, 11, 12, 13, 14, 15] rfl rfl (fun _ h => List.mem_append_right _ h) ((k_D_right (k_D_right hD)).weaken (fun _ _ _ _ => trivial)) rfl rfl) rfl rfl hl.1 rfl (lv_room (Nat.le_of_ble_eq_true rfl)) d_law_430 ⟨(Nat.le_of_ble_eq_true rfl), (Nat.le_of_ble_eq_true rfl)⟩) hP hD hS hA [0, 1, 8, 9, 10, 11, 12, 13, 14, 15] rfl (Eq.trans (b := [q 0, q 1, q 8, q 9, q 10, q 11, q 12, q 13, q 14, q 15]) rfl rfl) (fun _ h => List.mem_append_right _ h) (k_mapR k_p3_fst) (k_hU_r (k_D_right hD)) ?_
  clear hP hD hS; intro H locs hP hD hS
  replace hP : va_P D k_cl (lX cI cR cG q w ro gr t K fi sc nn of se n np r 1 ((settleF sd np t of se (pc, Pl, tr, fc, cn, lm, sf, st)).2.2.2.2.2.1) ((settleF sd np t of se (pc, Pl, tr, fc, cn, lm, sf, st)).2.2.2.2.2.2.1) ((settleF sd np t of se (pc, Pl, tr, fc, cn, lm, sf, st)).2.2.2.2.2.2.2) ((settleF sd np t of se (pc, Pl, tr, fc, cn, lm, sf, st)).1) ((settleF sd np t of se (pc, Pl, tr, fc, cn, lm, sf, st)).2.2.1) ((settleF sd np t of se (pc, Pl, tr, fc, cn, lm, sf, st)).2.2.2.1) ((settleF sd np t of se (pc, Pl, tr, fc, cn, lm, sf, st)).2.2.2.2.1) t K of se n np kn ch le mf mt on ot nu G E0 mn ff pl ++ (k_pp cI ro en E ++ k_p3 cI gr ((settleF sd np t of se (pc, Pl, tr, fc, cn, lm, sf, st)).2.1))) H := hP
  replace hD : va_D (fun q => s.heap.size ≤ q) (lX cI cR cG q w ro gr t K fi sc nn of se n np r 1 ((settleF sd np t of se (pc, Pl, tr, fc, cn, lm, sf, st)).2.2.2.2.2.1) ((settleF sd np t of se (pc, Pl, tr, fc, cn, lm, sf, st)).2.2.2.2.2.2.1) ((settleF sd np t of se (pc, Pl, tr, fc, cn, lm, sf, st)).2.2.2.2.2.2.2) ((settleF sd np t of se (pc, Pl, tr, fc, cn, lm, sf, st)).1) ((settleF sd np t of se (pc, Pl, tr, fc, cn, lm, sf, st)).2.2.1) ((settleF sd np t of se (pc, Pl, tr, fc, cn, lm, sf, st)).2.2.2.1) ((settleF sd np t of se (pc, Pl, tr, fc, cn, lm, sf, st)).2.2.2.2.1) t K of se n np kn ch le mf mt on ot nu G E0 mn ff pl ++ (k_pp cI ro en E ++ k_p3 cI gr ((settleF sd np t of se (pc, Pl, tr, fc, cn, lm, sf, st)).2.1))) := hD
  refine lv_aload_n hx hb d_law_433 rfl (lv_at hl 2 rfl) ?_
  refine k_beIX (va_runV (As := []) (rest := [.int (zI (if (settleF sd np t of se (pc, Pl, tr, fc, cn, lm, sf, st)).2.2.2.2.2.1 ≠ 77 then ↑((settleF sd np t of se (pc, Pl, tr, fc, cn, lm, sf, st)).2.2.2.2.2.1) else -3))]) ⟨hx, hb, hml, hown, hts⟩ (c_Mo_least l D cI cR cG w n np kn ch le mf mt t of se mn ff pl gN hc3 hkn hnp ht hof hse hpl hgo (by unfold gN; omega) (fun _ h1 => know_end h1 hnp pl _) _) (cwV 0 hts (k_gVL ll_69 rfl kw_instanceMethod_Mo_least kw_selects_Mo_least kw_initialized_Mo kw_code_Mo_least) rfl rfl rfl (by decide +kernel) ⟨(Nat.le_of_ble_eq_true rfl), (Nat.le_of_ble_eq_true rfl)⟩) (k_preVX (q0 := 0) hK hG hP hD [16, 17, 22, 23, 26, 27, 28] rfl rfl rfl rfl) rfl rfl hl.1 rfl (lv_room (Nat.le_of_ble_eq_true rfl)) d_law_434 ⟨(Nat.le_of_ble_eq_true rfl), (Nat.le_of_ble_eq_true rfl)⟩) hP hD hS hA [16, 17, 22, 23, 26, 27, 28] rfl (Eq.trans (b := [w 0, w 1, w 6, w 7, w 10, w 11, w 12]) rfl rfl) ?_
  clear hP hD hS; intro H locs hP hD hS
  replace hP : va_P D k_cl (lX cI cR cG q w ro gr t K fi sc nn of se n np r 1 ((settleF sd np t of se (pc, Pl, tr, fc, cn, lm, sf, st)).2.2.2.2.2.1) ((settleF sd np t of se (pc, Pl, tr, fc, cn, lm, sf, st)).2.2.2.2.2.2.1) ((settleF sd np t of se (pc, Pl, tr, fc, cn, lm, sf, st)).2.2.2.2.2.2.2) ((settleF sd np t of se (pc, Pl, tr, fc, cn, lm, sf, st)).1) ((settleF sd np t of se (pc, Pl, tr, fc, cn, lm, sf, st)).2.2.1) ((settleF sd np t of se (pc, Pl, tr, fc, cn, lm, sf, st)).2.2.2.1) ((settleF sd np t of se (pc, Pl, tr, fc, cn, lm, sf, st)).2.2.2.2.1) t K of se n np 1 ((knowF kn np t of se gN (pl, mn, ch, le, ff, mf, mt)).2.2.1) ((knowF kn np t of se gN (pl, mn, ch, le, ff, mf, mt)).2.2.2.1) ((knowF kn np t of se gN (pl, mn, ch, le, ff, mf, mt)).2.2.2.2.2.1) ((knowF kn np t of se gN (pl, mn, ch, le, ff, mf, mt)).2.2.2.2.2.2) on ot nu G E0 ((knowF kn np t of se gN (pl, mn, ch, le, ff, mf, mt)).2.1) ((knowF kn np t of se gN (pl, mn, ch, le, ff, mf, mt)).2.2.2.2.1) ((knowF kn np t of se gN (pl, mn, ch, le, ff, mf, mt)).1) ++ (k_pp cI ro en E ++ k_p3 cI gr ((settleF sd np t of se (pc, Pl, tr, fc, cn, lm, sf, st)).2.1))) H := hP
  replace hD : va_D (fun q => s.heap.size ≤ q) (lX cI cR cG q w ro gr t K fi sc nn of se n np r 1 ((settleF sd np t of se (pc, Pl, tr, fc, cn, lm, sf, st)).2.2.2.2.2.1) ((settleF sd np t of se (pc, Pl, tr, fc, cn, lm, sf, st)).2.2.2.2.2.2.1) ((settleF sd np t of se (pc, Pl, tr, fc, cn, lm, sf, st)).2.2.2.2.2.2.2) ((settleF sd np t of se (pc, Pl, tr, fc, cn, lm, sf, st)).1) ((settleF sd np t of se (pc, Pl, tr, fc, cn, lm, sf, st)).2.2.1) ((settleF sd np t of se (pc, Pl, tr, fc, cn, lm, sf, st)).2.2.2.1) ((settleF sd np t of se (pc, Pl, tr, fc, cn, lm, sf, st)).2.2.2.2.1) t K of se n np 1 ((knowF kn np t of se gN (pl, mn, ch, le, ff, mf, mt)).2.2.1) ((knowF kn np t of se gN (pl, mn, ch, le, ff, mf, mt)).2.2.2.1) ((knowF kn np t of se gN (pl, mn, ch, le, ff, mf, mt)).2.2.2.2.2.1) ((knowF kn np t of se gN (pl, mn, ch, le, ff, mf, mt)).2.2.2.2.2.2) on ot nu G E0 ((knowF kn np t of se gN (pl, mn, ch, le, ff, mf, mt)).2.1) ((knowF kn np t of se gN (pl, mn, ch, le, ff, mf, mt)).2.2.2.2.1) ((knowF kn np t of se gN (pl, mn, ch, le, ff, mf, mt)).1) ++ (k_pp cI ro en E ++ k_p3 cI gr ((settleF sd np t of se (pc, Pl, tr, fc, cn, lm, sf, st)).2.1))) := hD
  refine k_sameI (tgt := 501) hx hb d_law_437 (by decide) (an_le hnp hof hZ1 hY1) ?_
  exact kk t K fi sc nn of se n np r 1 ((settleF sd np t of se (pc, Pl, tr, fc, cn, lm, sf, st)).2.2.2.2.2.1) ((settleF sd np t of se (pc, Pl, tr, fc, cn, lm, sf, st)).2.2.2.2.2.2.1) ((settleF sd np t of se (pc, Pl, tr, fc, cn, lm, sf, st)).2.2.2.2.2.2.2) ((settleF sd np t of se (pc, Pl, tr, fc, cn, lm, sf, st)).1) ((settleF sd np t of se (pc, Pl, tr, fc, cn, lm, sf, st)).2.2.1) ((settleF sd np t of se (pc, Pl, tr, fc, cn, lm, sf, st)).2.2.2.1) ((settleF sd np t of se (pc, Pl, tr, fc, cn, lm, sf, st)).2.2.2.2.1) E ((settleF sd np t of se (pc, Pl, tr, fc, cn, lm, sf, st)).2.1) 1 ((knowF kn np t of se gN (pl, mn, ch, le, ff, mf, mt)).2.2.1) ((knowF kn np t of se gN (pl, mn, ch, le, ff, mf, mt)).2.2.2.1) ((knowF kn np t of se gN (pl, mn, ch, le, ff, mf, mt)).2.2.2.2.2.1) ((knowF kn np t of se gN (pl, mn, ch, le, ff, mf, mt)).2.2.2.2.2.2) on ot nu G E0 ((knowF kn np t of se gN (pl, mn, ch, le, ff, mf, mt)).2.1) ((knowF kn np t of se gN (pl, mn, ch, le, ff, mf, mt)).2.2.2.2.1) ((knowF kn np t of se gN (pl, mn, ch, le, ff, mf, mt)).1) ⟨⟨ht, hn, hok, hmo, hK0, hnu⟩, ⟨hE, hrn, hrows, hG0, hE0⟩, ⟨hnp, hof, hse⟩, ⟨Nat.le_refl 1, hZs, hZ1⟩, ⟨Nat.le_refl 1, hY2, hY3, hY1⟩⟩ _ _ _ hP hD hS hl
set_option maxHeartbeats 4000000 in
set_option maxRecDepth 100000 in
theorem lc_chosen {p : Program} {e : Env} {s : State} {m : MethodId} {below : List Frame} {meth : Method} {c : Code} {Qf : State → Prop} (l : Launch) {b L : Nat} {xs : Nat → Int32} (hL : L ≤ 2560) (C0 : lw_At p s m meth c b L xs) {D : va_G} {cI cR cG : ClassId} (hK : va_K D k_cl (k_ty cI cR cG) s) (hG : k_G k_ns s) {q w ro en gr : Nat → Nat} {i : Nat} (hi : i + 5 ≤ L) (kk : lK p l e s m below meth c b Qf D cI cR cG q w ro en gr i 501) : lK p l e s m below meth c b Qf D cI cR cG q w ro en gr i 442 := by
  obtain ⟨hx, hb, hr, hml, hown, hts, hX, hbl, hlocks, -⟩ := C0
  intro t K fi sc nn of se n np r sd lm sf st pc tr fc cn E Pl kn ch le mf mt on ot nu G E0 mn ff pl hI H locs ls hP hD hS hl
  have hA : ∀ q, s.heap.size ≤ q → (fun q => s.heap.size ≤ q) q := fun _ h => h
  have hbA : ¬ (fun q => s.heap.size ≤ q) b := Nat.not_le.mpr hbl
  have hI0 := hI
  obtain ⟨⟨ht, hn, hok, hmo, hK0, hnu⟩, ⟨hE, hrn, hrows, hG0, hE0⟩, ⟨hnp, hof, hse⟩, ⟨hsd, hset, hph⟩, ⟨hkn, hpl, hgo, hkno⟩⟩ := hI
  by_cases h1 : 0 ≤ (xz xs (i + 1)) ∧ (xz xs (i + 1)) < ↑np
  · obtain ⟨u, hu⟩ := k_zero_le h1.1
    have hun : u < np := by omega
    have hZ1 := settle_ok hnp hof hph
    have hZs := settleF_ok (sd := sd) (np := np) (t := t) (of := of) (se := se) hset
    have hY1 := know_ok hnp hkno
    obtain ⟨hY2, hY3⟩ := know_pb (kn := kn) (t := t) (se := se) (Y := (pl, mn, ch, le, ff, mf, mt)) hnp hof hpl hgo
    obtain ⟨-, hc1, hc2, hc3, hc4, -, -⟩ := both_ok hnp hof hZ1 hY1
    refine lv_aload_n hx hb d_law_442 rfl (lv_at hl 1 rfl) ?_
    refine lv_aload_n hx hb d_law_443 rfl (lv_at hl 0 rfl) ?_
    refine lv_iload_n hx hb d_law_444 rfl (lv_at hl 3 rfl) ?_
    refine lv_iconst (v := zI 1) hx hb d_law_445 (by decide) ?_
    refine k_iadd hx hb d_law_446 rfl ?_
    refine k_sld hx hb hX hbl hbA hS (j := i + 1) (by omega) (by omega) hL d_law_447 ?_
    refine k_stk (st2 := [.int (zI ↑u), .ref (q 0)]) (by rw [hu]) ?_
    refine k_beIT (tn := k_p3 cI gr ((settleF sd np t of se (pc, Pl, tr, fc, cn, lm, sf, st)).2.1)) (T1 := (k_pp cI ro en E ++ k_p3 cI gr ((settleF sd np t of se (pc, Pl, tr, fc, cn, lm, sf, st)).2.1))) (va_runV (As := [.int (zI ↑u)]) (rest := []) ⟨hx, hb, hml, hown, hts⟩ (c_Pm_chosen_2 l D cI cR cG q np sd lm sf st gr t of se pc tr fc cn Pl u hun hsd hnp ht hof hse hset _) (cwV 1 hts (k_gVL ll_70 rfl kw_instanceMethod_Pm_chosen kw_selects_Pm_chosen kw_initialized_Pm kw_code_Pm_chosen) rfl rfl rfl (by decide +kernel) ⟨(Nat.le_of_ble_eq_true rfl), (Nat.le_of_ble_eq_true rfl)⟩) (k_preVT (tc := k_p3 cI gr Pl) (q0 := 0) hK hG hP hD [0, 1, 8, 9, 10, 11, 12, 13, 14, 15] rfl rfl (fun _ h => List.mem_append_right _ h) ((k_D_right (k_D_right hD)).weaken (fun _ _ _ _ => trivial)) rfl rfl) rfl rfl hl.1 rfl (lv_room (Nat.le_of_ble_eq_true rfl)) d_law_448 ⟨(Nat.le_of_ble_eq_true rfl), (Nat.le_of_ble_eq_true rfl)⟩) hP hD hS hA [0, 1, 8, 9, 10, 11, 12, 13, 14, 15] rfl (Eq.trans (b := [q 0, q 1, q 8, q 9, q 10, q 11, q 12, q 13, q 14, q 15]) rfl rfl) (fun _ h => List.mem_append_right _ h) (k_mapR k_p3_fst) (k_hU_r (k_D_right hD)) ?_
    clear hP hD hS; intro H locs hP hD hS
    replace hP : va_P D k_cl (lX cI cR cG q w ro gr t K fi sc nn of se n np r 1 ((settleF sd np t of se (pc, Pl, tr, fc, cn, lm, sf, st)).2.2.2.2.2.1) ((settleF sd np t of se (pc, Pl, tr, fc, cn, lm, sf, st)).2.2.2.2.2.2.1) ((settleF sd np t of se (pc, Pl, tr, fc, cn, lm, sf, st)).2.2.2.2.2.2.2) ((settleF sd np t of se (pc, Pl, tr, fc, cn, lm, sf, st)).1) ((settleF sd np t of se (pc, Pl, tr, fc, cn, lm, sf, st)).2.2.1) ((settleF sd np t of se (pc, Pl, tr, fc, cn, lm, sf, st)).2.2.2.1) ((settleF sd np t of se (pc, Pl, tr, fc, cn, lm, sf, st)).2.2.2.2.1) t K of se n np kn ch le mf mt on ot nu G E0 mn ff pl ++ (k_pp cI ro en E ++ k_p3 cI gr ((settleF sd np t of se (pc, Pl, tr, fc, cn, lm, sf, st)).2.1))) H := hP
    replace hD : va_D (fun q => s.heap.size ≤ q) (lX cI cR cG q w ro gr t K fi sc nn of se n np r 1 ((settleF sd np t of se (pc, Pl, tr, fc, cn, lm, sf, st)).2.2.2.2.2.1) ((settleF sd np t of se (pc, Pl, tr, fc, cn, lm, sf, st)).2.2.2.2.2.2.1) ((settleF sd np t of se (pc, Pl, tr, fc, cn, lm, sf, st)).2.2.2.2.2.2.2) ((settleF sd np t of se (pc, Pl, tr, fc, cn, lm, sf, st)).1) ((settleF sd np t of se (pc, Pl, tr, fc, cn, lm, sf, st)).2.2.1) ((settleF sd np t of se (pc, Pl, tr, fc, cn, lm, sf, st)).2.2.2.1) ((settleF sd np t of se (pc, Pl, tr, fc, cn, lm, sf, st)).2.2.2.2.1) t K of se n np kn ch le mf mt on ot nu G E0 mn ff pl ++ (k_pp cI ro en E ++ k_p3 cI gr ((settleF sd np t of se (pc, Pl, tr, fc, cn, lm, sf, st)).2.1))) := hD
    refine lv_aload_n hx hb d_law_451 rfl (lv_at hl 2 rfl) ?_
    refine lv_aload_n hx hb d_law_452 rfl (lv_at hl 0 rfl) ?_
    refine lv_iload_n hx hb d_law_453 rfl (lv_at hl 3 rfl) ?_
    refine lv_iconst (v := zI 1) hx hb d_law_454 (by decide) ?_
    refine k_iadd hx hb d_law_455 rfl ?_
    refine k_sld hx hb hX hbl hbA hS (j := i + 1) (by omega) (by omega) hL d_law_456 ?_
    refine k_stk (st2 := [.int (zI ↑u), .ref (w 0), .int (zI (if (settleF sd np t of se (pc, Pl, tr, fc, cn, lm, sf, st)).2.2.2.2.2.1 ≠ 77 then ↑((settleF sd np t of se (pc, Pl, tr, fc, cn, lm, sf, st)).2.2.2.1 u) else -3))]) (by rw [hu]) ?_
    refine k_beIX (va_runV (As := [.int (zI ↑u)]) (rest := [.int (zI (if (settleF sd np t of se (pc, Pl, tr, fc, cn, lm, sf, st)).2.2.2.2.2.1 ≠ 77 then ↑((settleF sd np t of se (pc, Pl, tr, fc, cn, lm, sf, st)).2.2.2.1 u) else -3))]) ⟨hx, hb, hml, hown, hts⟩ (c_Mo_chosen_2 l D cI cR cG w n np kn ch le mf mt t of se mn ff pl gN u hun hc3 hkn hnp ht hof hse hpl hgo (by unfold gN; omega) (fun _ h1 => know_end h1 hnp pl _) _) (cwV 1 hts (k_gVL ll_73 rfl kw_instanceMethod_Mo_chosen kw_selects_Mo_chosen kw_initialized_Mo kw_code_Mo_chosen) rfl rfl rfl (by decide +kernel) ⟨(Nat.le_of_ble_eq_true rfl), (Nat.le_of_ble_eq_true rfl)⟩) (k_preVX (q0 := 0) hK hG hP hD [16, 17, 22, 23, 26, 27, 28] rfl rfl rfl rfl) rfl rfl hl.1 rfl (lv_room (Nat.le_of_ble_eq_true rfl)) d_law_457 ⟨(Nat.le_of_ble_eq_true rfl), (Nat.le_of_ble_eq_true rfl)⟩) hP hD hS hA [16, 17, 22, 23, 26, 27, 28] rfl (Eq.trans (b := [w 0, w 1, w 6, w 7, w 10, w 11, w 12]) rfl rfl) ?_
    clear hP hD hS; intro H locs hP hD hS
    replace hP : va_P D k_cl (lX cI cR cG q w ro gr t K fi sc nn of se n np r 1 ((settleF sd np t of se (pc, Pl, tr, fc, cn, lm, sf, st)).2.2.2.2.2.1) ((settleF sd np t of se (pc, Pl, tr, fc, cn, lm, sf, st)).2.2.2.2.2.2.1) ((settleF sd np t of se (pc, Pl, tr, fc, cn, lm, sf, st)).2.2.2.2.2.2.2) ((settleF sd np t of se (pc, Pl, tr, fc, cn, lm, sf, st)).1) ((settleF sd np t of se (pc, Pl, tr, fc, cn, lm, sf, st)).2.2.1) ((settleF sd np t of se (pc, Pl, tr, fc, cn, lm, sf, st)).2.2.2.1) ((settleF sd np t of se (pc, Pl, tr, fc, cn, lm, sf, st)).2.2.2.2.1) t K of se n np 1 ((knowF kn np t of se gN (pl, mn, ch, le, ff, mf, mt)).2.2.1) ((knowF kn np t of se gN (pl, mn, ch, le, ff, mf, mt)).2.2.2.1) ((knowF kn np t of se gN (pl, mn, ch, le, ff, mf, mt)).2.2.2.2.2.1) ((knowF kn np t of se gN (pl, mn, ch, le, ff, mf, mt)).2.2.2.2.2.2) on ot nu G E0 ((knowF kn np t of se gN (pl, mn, ch, le, ff, mf, mt)).2.1) ((knowF kn np t of se gN (pl, mn, ch, le, ff, mf, mt)).2.2.2.2.1) ((knowF kn np t of se gN (pl, mn, ch, le, ff, mf, mt)).1) ++ (k_pp cI ro en E ++ k_p3 cI gr ((settleF sd np t of se (pc, Pl, tr, fc, cn, lm, sf, st)).2.1))) H := hP
    replace hD : va_D (fun q => s.heap.size ≤ q) (lX cI cR cG q w ro gr t K fi sc nn of se n np r 1 ((settleF sd np t of se (pc, Pl, tr, fc, cn, lm, sf, st)).2.2.2.2.2.1) ((settleF sd np t of se (pc, Pl, tr, fc, cn, lm, sf, st)).2.2.2.2.2.2.1) ((settleF sd np t of se (pc, Pl, tr, fc, cn, lm, sf, st)).2.2.2.2.2.2.2) ((settleF sd np t of se (pc, Pl, tr, fc, cn, lm, sf, st)).1) ((settleF sd np t of se (pc, Pl, tr, fc, cn, lm, sf, st)).2.2.1) ((settleF sd np t of se (pc, Pl, tr, fc, cn, lm, sf, st)).2.2.2.1) ((settleF sd np t of se (pc, Pl, tr, fc, cn, lm, sf, st)).2.2.2.2.1) t K of se n np 1 ((knowF kn np t of se gN (pl, mn, ch, le, ff, mf, mt)).2.2.1) ((knowF kn np t of se gN (pl, mn, ch, le, ff, mf, mt)).2.2.2.1) ((knowF kn np t of se gN (pl, mn, ch, le, ff, mf, mt)).2.2.2.2.2.1) ((knowF kn np t of se gN (pl, mn, ch, le, ff, mf, mt)).2.2.2.2.2.2) on ot nu G E0 ((knowF kn np t of se gN (pl, mn, ch, le, ff, mf, mt)).2.1) ((knowF kn np t of se gN (pl, mn, ch, le, ff, mf, mt)).2.2.2.2.1) ((knowF kn np t of se gN (pl, mn, ch, le, ff, mf, mt)).1) ++ (k_pp cI ro en E ++ k_p3 cI gr ((settleF sd np t of se (pc, Pl, tr, fc, cn, lm, sf, st)).2.1))) := hD
    refine k_sameI (tgt := 501) hx hb d_law_460 (by decide) (an_ch hun hnp hof hZ1 hY1) ?_
    exact kk t K fi sc nn of se n np r 1 ((settleF sd np t of se (pc, Pl, tr, fc, cn, lm, sf, st)).2.2.2.2.2.1) ((settleF sd np t of se (pc, Pl, tr, fc, cn, lm, sf, st)).2.2.2.2.2.2.1) ((settleF sd np t of se (pc, Pl, tr, fc, cn, lm, sf, st)).2.2.2.2.2.2.2) ((settleF sd np t of se (pc, Pl, tr, fc, cn, lm, sf, st)).1) ((settleF sd np t of se (pc, Pl, tr, fc, cn, lm, sf, st)).2.2.1) ((settleF sd np t of se (pc, Pl, tr, fc, cn, lm, sf, st)).2.2.2.1) ((settleF sd np t of se (pc, Pl, tr, fc, cn, lm, sf, st)).2.2.2.2.1) E ((settleF sd np t of se (pc, Pl, tr, fc, cn, lm, sf, st)).2.1) 1 ((knowF kn np t of se gN (pl, mn, ch, le, ff, mf, mt)).2.2.1) ((knowF kn np t of se gN (pl, mn, ch, le, ff, mf, mt)).2.2.2.1) ((knowF kn np t of se gN (pl, mn, ch, le, ff, mf, mt)).2.2.2.2.2.1) ((knowF kn np t of se gN (pl, mn, ch, le, ff, mf, mt)).2.2.2.2.2.2) on ot nu G E0 ((knowF kn np t of se gN (pl, mn, ch, le, ff, mf, mt)).2.1) ((knowF kn np t of se gN (pl, mn, ch, le, ff, mf, mt)).2.2.2.2.1) ((knowF kn np t of se gN (pl, mn, ch, le, ff, mf, mt)).1) ⟨⟨ht, hn, hok, hmo, hK0, hnu⟩, ⟨hE, hrn, hrows, hG0, hE0⟩, ⟨hnp, hof, hse⟩, ⟨Nat.le_refl 1, hZs, hZ1⟩, ⟨Nat.le_refl 1, hY2, hY3, hY1⟩⟩ _ _ _ hP hD hS hl
  · refine lv_aload_n hx hb d_law_442 rfl (lv_at hl 1 rfl) ?_
    refine lv_aload_n hx hb d_law_443 rfl (lv_at hl 0 rfl) ?_
    refine lv_iload_n hx hb d_law_444 rfl (lv_at hl 3 rfl) ?_
    refine lv_iconst (v := zI 1) hx hb d_law_445 (by decide) ?_
    refine k_iadd hx hb d_law_446 rfl ?_
    refine k_sld hx hb hX hbl hbA hS (j := i + 1) (by omega) (by omega) hL d_law_447 ?_
    refine k_beIX (va_runV (As := [.int (zI (xz xs (i + 1)))]) (rest := []) ⟨hx, hb, hml, hown, hts⟩ (c_Pm_chosen_1 l D cI cR cG q np sd lm sf st (xz xs (i + 1)) (xz_sm _ _) hnp h1 _) (cwV 1 hts (k_gVL ll_70 rfl kw_instanceMethod_Pm_chosen kw_selects_Pm_chosen kw_initialized_Pm kw_code_Pm_chosen) rfl rfl rfl (by decide +kernel) ⟨(Nat.le_of_ble_eq_true rfl), (Nat.le_of_ble_eq_true rfl)⟩) (k_preVX (q0 := 0) hK hG hP hD [0, 8] rfl rfl rfl rfl) rfl rfl hl.1 rfl (lv_room (Nat.le_of_ble_eq_true rfl)) d_law_448 ⟨(Nat.le_of_ble_eq_true rfl), (Nat.le_of_ble_eq_true rfl)⟩) hP hD hS hA [0, 8] rfl (Eq.trans (b := [q 0, q 8]) rfl rfl) ?_
    clear hP hD hS; intro H locs hP hD hS
    replace hP : va_P D k_cl (lX cI cR cG q w ro gr t K fi sc nn of se n np r sd lm sf st pc tr fc cn t K of se n np kn ch le mf mt on ot nu G E0 mn ff pl ++ (k_pp cI ro en E ++ k_p3 cI gr Pl)) H := hP
    replace hD : va_D (fun q => s.heap.size ≤ q) (lX cI cR cG q w ro gr t K fi sc nn of se n np r sd lm sf st pc tr fc cn t K of se n np kn ch le mf mt on ot nu G E0 mn ff pl ++ (k_pp cI ro en E ++ k_p3 cI gr Pl)) := hD
    refine lv_aload_n hx hb d_law_451 rfl (lv_at hl 2 rfl) ?_
    refine lv_aload_n hx hb d_law_452 rfl (lv_at hl 0 rfl) ?_
    refine lv_iload_n hx hb d_law_453 rfl (lv_at hl 3 rfl) ?_
    refine lv_iconst (v := zI 1) hx hb d_law_454 (by decide) ?_
    refine k_iadd hx hb d_law_455 rfl ?_
    refine k_sld hx hb hX hbl hbA hS (j := i + 1) (by omega) (by omega) hL d_law_456 ?_
    refine k_beIX (va_runV (As := [.int (zI (xz xs (i + 1)))]) (rest := [.int (zI (-1))]) ⟨hx, hb, hml, hown, hts⟩ (c_Mo_chosen_1 l D cI cR cG w n np kn ch le mf mt (xz xs (i + 1)) (xz_sm _ _) hnp h1 _) (cwV 1 hts (k_gVL ll_73 rfl kw_instanceMethod_Mo_chosen kw_selects_Mo_chosen kw_initialized_Mo kw_code_Mo_chosen) rfl rfl rfl (by decide +kernel) ⟨(Nat.le_of_ble_eq_true rfl), (Nat.le_of_ble_eq_true rfl)⟩) (k_preVX (q0 := 0) hK hG hP hD [16] rfl rfl rfl rfl) rfl rfl hl.1 rfl (lv_room (Nat.le_of_ble_eq_true rfl)) d_law_457 ⟨(Nat.le_of_ble_eq_true rfl), (Nat.le_of_ble_eq_true rfl)⟩) hP hD hS hA [16] rfl (Eq.trans (b := [w 0]) rfl rfl) ?_
    clear hP hD hS; intro H locs hP hD hS
    replace hP : va_P D k_cl (lX cI cR cG q w ro gr t K fi sc nn of se n np r sd lm sf st pc tr fc cn t K of se n np kn ch le mf mt on ot nu G E0 mn ff pl ++ (k_pp cI ro en E ++ k_p3 cI gr Pl)) H := hP
    replace hD : va_D (fun q => s.heap.size ≤ q) (lX cI cR cG q w ro gr t K fi sc nn of se n np r sd lm sf st pc tr fc cn t K of se n np kn ch le mf mt on ot nu G E0 mn ff pl ++ (k_pp cI ro en E ++ k_p3 cI gr Pl)) := hD
    refine k_sameI (tgt := 501) hx hb d_law_460 (by decide) rfl ?_
    exact kk t K fi sc nn of se n np r sd lm sf st pc tr fc cn E Pl kn ch le mf mt on ot nu G E0 mn ff pl hI0 _ _ _ hP hD hS hl
set_option maxHeartbeats 4000000 in
set_option maxRecDepth 100000 in
theorem lc_ties {p : Program} {e : Env} {s : State} {m : MethodId} {below : List Frame} {meth : Method} {c : Code} {Qf : State → Prop} (l : Launch) {b L : Nat} {xs : Nat → Int32} (hL : L ≤ 2560) (C0 : lw_At p s m meth c b L xs) {D : va_G} {cI cR cG : ClassId} (hK : va_K D k_cl (k_ty cI cR cG) s) (hG : k_G k_ns s) {q w ro en gr : Nat → Nat} {i : Nat} (hi : i + 5 ≤ L) (kk : lK p l e s m below meth c b Qf D cI cR cG q w ro en gr i 501) : lK p l e s m below meth c b Qf D cI cR cG q w ro en gr i 465 := by
  obtain ⟨hx, hb, hr, hml, hown, hts, hX, hbl, hlocks, -⟩ := C0
  intro t K fi sc nn of se n np r sd lm sf st pc tr fc cn E Pl kn ch le mf mt on ot nu G E0 mn ff pl hI H locs ls hP hD hS hl
  have hA : ∀ q, s.heap.size ≤ q → (fun q => s.heap.size ≤ q) q := fun _ h => h
  have hbA : ¬ (fun q => s.heap.size ≤ q) b := Nat.not_le.mpr hbl
  have hI0 := hI
  obtain ⟨⟨ht, hn, hok, hmo, hK0, hnu⟩, ⟨hE, hrn, hrows, hG0, hE0⟩, ⟨hnp, hof, hse⟩, ⟨hsd, hset, hph⟩, ⟨hkn, hpl, hgo, hkno⟩⟩ := hI
  have hZ1 := settle_ok hnp hof hph
  have hZs := settleF_ok (sd := sd) (np := np) (t := t) (of := of) (se := se) hset
  have hY1 := know_ok hnp hkno
  obtain ⟨hY2, hY3⟩ := know_pb (kn := kn) (t := t) (se := se) (Y := (pl, mn, ch, le, ff, mf, mt)) hnp hof hpl hgo
  obtain ⟨-, hc1, hc2, hc3, hc4, -, -⟩ := both_ok hnp hof hZ1 hY1
  refine lv_aload_n hx hb d_law_465 rfl (lv_at hl 1 rfl) ?_
  refine k_beIT (tn := k_p3 cI gr ((settleF sd np t of se (pc, Pl, tr, fc, cn, lm, sf, st)).2.1)) (T1 := (k_pp cI ro en E ++ k_p3 cI gr ((settleF sd np t of se (pc, Pl, tr, fc, cn, lm, sf, st)).2.1))) (va_runV (As := []) (rest := []) ⟨hx, hb, hml, hown, hts⟩ (c_Pm_ties l D cI cR cG q np sd lm sf st gr t of se pc tr fc cn Pl hsd hnp ht hof hse hset _) (cwV 0 hts (k_gVL ll_74 rfl kw_instanceMethod_Pm_ties kw_selects_Pm_ties kw_initialized_Pm kw_code_Pm_ties) rfl rfl rfl (by decide +kernel) ⟨(Nat.le_of_ble_eq_true rfl), (Nat.le_of_ble_eq_true rfl)⟩) (k_preVT (tc := k_p3 cI gr Pl) (q0 := 0) hK hG hP hD [0, 1, 8, 9, 10, 11, 12, 13, 14, 15] rfl rfl (fun _ h => List.mem_append_right _ h) ((k_D_right (k_D_right hD)).weaken (fun _ _ _ _ => trivial)) rfl rfl) rfl rfl hl.1 rfl (lv_room (Nat.le_of_ble_eq_true rfl)) d_law_466 ⟨(Nat.le_of_ble_eq_true rfl), (Nat.le_of_ble_eq_true rfl)⟩) hP hD hS hA [0, 1, 8, 9, 10, 11, 12, 13, 14, 15] rfl (Eq.trans (b := [q 0, q 1, q 8, q 9, q 10, q 11, q 12, q 13, q 14, q 15]) rfl rfl) (fun _ h => List.mem_append_right _ h) (k_mapR k_p3_fst) (k_hU_r (k_D_right hD)) ?_
  clear hP hD hS; intro H locs hP hD hS
  replace hP : va_P D k_cl (lX cI cR cG q w ro gr t K fi sc nn of se n np r 1 ((settleF sd np t of se (pc, Pl, tr, fc, cn, lm, sf, st)).2.2.2.2.2.1) ((settleF sd np t of se (pc, Pl, tr, fc, cn, lm, sf, st)).2.2.2.2.2.2.1) ((settleF sd np t of se (pc, Pl, tr, fc, cn, lm, sf, st)).2.2.2.2.2.2.2) ((settleF sd np t of se (pc, Pl, tr, fc, cn, lm, sf, st)).1) ((settleF sd np t of se (pc, Pl, tr, fc, cn, lm, sf, st)).2.2.1) ((settleF sd np t of se (pc, Pl, tr, fc, cn, lm, sf, st)).2.2.2.1) ((settleF sd np t of se (pc, Pl, tr, fc, cn, lm, sf, st)).2.2.2.2.1) t K of se n np kn ch le mf mt on ot nu G E0 mn ff pl ++ (k_pp cI ro en E ++ k_p3 cI gr ((settleF sd np t of se (pc, Pl, tr, fc, cn, lm, sf, st)).2.1))) H := hP
  replace hD : va_D (fun q => s.heap.size ≤ q) (lX cI cR cG q w ro gr t K fi sc nn of se n np r 1 ((settleF sd np t of se (pc, Pl, tr, fc, cn, lm, sf, st)).2.2.2.2.2.1) ((settleF sd np t of se (pc, Pl, tr, fc, cn, lm, sf, st)).2.2.2.2.2.2.1) ((settleF sd np t of se (pc, Pl, tr, fc, cn, lm, sf, st)).2.2.2.2.2.2.2) ((settleF sd np t of se (pc, Pl, tr, fc, cn, lm, sf, st)).1) ((settleF sd np t of se (pc, Pl, tr, fc, cn, lm, sf, st)).2.2.1) ((settleF sd np t of se (pc, Pl, tr, fc, cn, lm, sf, st)).2.2.2.1) ((settleF sd np t of se (pc, Pl, tr, fc, cn, lm, sf, st)).2.2.2.2.1) t K of se n np kn ch le mf mt on ot nu G E0 mn ff pl ++ (k_pp cI ro en E ++ k_p3 cI gr ((settleF sd np t of se (pc, Pl, tr, fc, cn, lm, sf, st)).2.1))) := hD
  refine lv_aload_n hx hb d_law_469 rfl (lv_at hl 2 rfl) ?_
  refine k_beIX (va_runV (As := []) (rest := [.int (zI (if (settleF sd np t of se (pc, Pl, tr, fc, cn, lm, sf, st)).2.2.2.2.2.1 ≠ 77 then ↑((settleF sd np t of se (pc, Pl, tr, fc, cn, lm, sf, st)).2.2.2.2.1 ((settleF sd np t of se (pc, Pl, tr, fc, cn, lm, sf, st)).2.2.2.2.2.1)) else 0))]) ⟨hx, hb, hml, hown, hts⟩ (c_Mo_ties l D cI cR cG w n np kn ch le mf mt t of se mn ff pl gN hc3 hc4 hkn hnp ht hof hse hpl hgo (by unfold gN; omega) (fun _ h1 => know_end h1 hnp pl _) _) (cwV 0 hts (k_gVL ll_77 rfl kw_instanceMethod_Mo_ties kw_selects_Mo_ties kw_initialized_Mo kw_code_Mo_ties) rfl rfl rfl (by decide +kernel) ⟨(Nat.le_of_ble_eq_true rfl), (Nat.le_of_ble_eq_true rfl)⟩) (k_preVX (q0 := 0) hK hG hP hD [16, 17, 22, 23, 26, 27, 28] rfl rfl rfl rfl) rfl rfl hl.1 rfl (lv_room (Nat.le_of_ble_eq_true rfl)) d_law_470 ⟨(Nat.le_of_ble_eq_true rfl), (Nat.le_of_ble_eq_true rfl)⟩) hP hD hS hA [16, 17, 22, 23, 26, 27, 28] rfl (Eq.trans (b := [w 0, w 1, w 6, w 7, w 10, w 11, w 12]) rfl rfl) ?_
  clear hP hD hS; intro H locs hP hD hS
  replace hP : va_P D k_cl (lX cI cR cG q w ro gr t K fi sc nn of se n np r 1 ((settleF sd np t of se (pc, Pl, tr, fc, cn, lm, sf, st)).2.2.2.2.2.1) ((settleF sd np t of se (pc, Pl, tr, fc, cn, lm, sf, st)).2.2.2.2.2.2.1) ((settleF sd np t of se (pc, Pl, tr, fc, cn, lm, sf, st)).2.2.2.2.2.2.2) ((settleF sd np t of se (pc, Pl, tr, fc, cn, lm, sf, st)).1) ((settleF sd np t of se (pc, Pl, tr, fc, cn, lm, sf, st)).2.2.1) ((settleF sd np t of se (pc, Pl, tr, fc, cn, lm, sf, st)).2.2.2.1) ((settleF sd np t of se (pc, Pl, tr, fc, cn, lm, sf, st)).2.2.2.2.1) t K of se n np 1 ((knowF kn np t of se gN (pl, mn, ch, le, ff, mf, mt)).2.2.1) ((knowF kn np t of se gN (pl, mn, ch, le, ff, mf, mt)).2.2.2.1) ((knowF kn np t of se gN (pl, mn, ch, le, ff, mf, mt)).2.2.2.2.2.1) ((knowF kn np t of se gN (pl, mn, ch, le, ff, mf, mt)).2.2.2.2.2.2) on ot nu G E0 ((knowF kn np t of se gN (pl, mn, ch, le, ff, mf, mt)).2.1) ((knowF kn np t of se gN (pl, mn, ch, le, ff, mf, mt)).2.2.2.2.1) ((knowF kn np t of se gN (pl, mn, ch, le, ff, mf, mt)).1) ++ (k_pp cI ro en E ++ k_p3 cI gr ((settleF sd np t of se (pc, Pl, tr, fc, cn, lm, sf, st)).2.1))) H := hP
  replace hD : va_D (fun q => s.heap.size ≤ q) (lX cI cR cG q w ro gr t K fi sc nn of se n np r 1 ((settleF sd np t of se (pc, Pl, tr, fc, cn, lm, sf, st)).2.2.2.2.2.1) ((settleF sd np t of se (pc, Pl, tr, fc, cn, lm, sf, st)).2.2.2.2.2.2.1) ((settleF sd np t of se (pc, Pl, tr, fc, cn, lm, sf, st)).2.2.2.2.2.2.2) ((settleF sd np t of se (pc, Pl, tr, fc, cn, lm, sf, st)).1) ((settleF sd np t of se (pc, Pl, tr, fc, cn, lm, sf, st)).2.2.1) ((settleF sd np t of se (pc, Pl, tr, fc, cn, lm, sf, st)).2.2.2.1) ((settleF sd np t of se (pc, Pl, tr, fc, cn, lm, sf, st)).2.2.2.2.1) t K of se n np 1 ((knowF kn np t of se gN (pl, mn, ch, le, ff, mf, mt)).2.2.1) ((knowF kn np t of se gN (pl, mn, ch, le, ff, mf, mt)).2.2.2.1) ((knowF kn np t of se gN (pl, mn, ch, le, ff, mf, mt)).2.2.2.2.2.1) ((knowF kn np t of se gN (pl, mn, ch, le, ff, mf, mt)).2.2.2.2.2.2) on ot nu G E0 ((knowF kn np t of se gN (pl, mn, ch, le, ff, mf, mt)).2.1) ((knowF kn np t of se gN (pl, mn, ch, le, ff, mf, mt)).2.2.2.2.1) ((knowF kn np t of se gN (pl, mn, ch, le, ff, mf, mt)).1) ++ (k_pp cI ro en E ++ k_p3 cI gr ((settleF sd np t of se (pc, Pl, tr, fc, cn, lm, sf, st)).2.1))) := hD
  refine k_sameI (tgt := 501) hx hb d_law_473 (by decide) (an_ti hnp hof hZ1 hY1) ?_
  exact kk t K fi sc nn of se n np r 1 ((settleF sd np t of se (pc, Pl, tr, fc, cn, lm, sf, st)).2.2.2.2.2.1) ((settleF sd np t of se (pc, Pl, tr, fc, cn, lm, sf, st)).2.2.2.2.2.2.1) ((settleF sd np t of se (pc, Pl, tr, fc, cn, lm, sf, st)).2.2.2.2.2.2.2) ((settleF sd np t of se (pc, Pl, tr, fc, cn, lm, sf, st)).1) ((settleF sd np t of se (pc, Pl, tr, fc, cn, lm, sf, st)).2.2.1) ((settleF sd np t of se (pc, Pl, tr, fc, cn, lm, sf, st)).2.2.2.1) ((settleF sd np t of se (pc, Pl, tr, fc, cn, lm, sf, st)).2.2.2.2.1) E ((settleF sd np t of se (pc, Pl, tr, fc, cn, lm, sf, st)).2.1) 1 ((knowF kn np t of se gN (pl, mn, ch, le, ff, mf, mt)).2.2.1) ((knowF kn np t of se gN (pl, mn, ch, le, ff, mf, mt)).2.2.2.1) ((knowF kn np t of se gN (pl, mn, ch, le, ff, mf, mt)).2.2.2.2.2.1) ((knowF kn np t of se gN (pl, mn, ch, le, ff, mf, mt)).2.2.2.2.2.2) on ot nu G E0 ((knowF kn np t of se gN (pl, mn, ch, le, ff, mf, mt)).2.1) ((knowF kn np t of se gN (pl, mn, ch, le, ff, mf, mt)).2.2.2.2.1) ((knowF kn np t of se gN (pl, mn, ch, le, ff, mf, mt)).1) ⟨⟨ht, hn, hok, hmo, hK0, hnu⟩, ⟨hE, hrn, hrows, hG0, hE0⟩, ⟨hnp, hof, hse⟩, ⟨Nat.le_refl 1, hZs, hZ1⟩, ⟨Nat.le_refl 1, hY2, hY3, hY1⟩⟩ _ _ _ hP hD hS hl
set_option maxHeartbeats 4000000 in
set_option maxRecDepth 100000 in
theorem lc_shortest {p : Program} {e : Env} {s : State} {m : MethodId} {below : List Frame} {meth : Method} {c : Code} {Qf : State → Prop} (l : Launch) {b L : Nat} {xs : Nat → Int32} (hL : L ≤ 2560) (C0 : lw_At p s m meth c b L xs) {D : va_G} {cI cR cG : ClassId} (hK : va_K D k_cl (k_ty cI cR cG) s) (hG : k_G k_ns s) {q w ro en gr : Nat → Nat} {i : Nat} (hi : i + 5 ≤ L) (kk : lK p l e s m below meth c b Qf D cI cR cG q w ro en gr i 501) : lK p l e s m below meth c b Qf D cI cR cG q w ro en gr i 478 := by
  obtain ⟨hx, hb, hr, hml, hown, hts, hX, hbl, hlocks, -⟩ := C0
  intro t K fi sc nn of se n np r sd lm sf st pc tr fc cn E Pl kn ch le mf mt on ot nu G E0 mn ff pl hI H locs ls hP hD hS hl
  have hA : ∀ q, s.heap.size ≤ q → (fun q => s.heap.size ≤ q) q := fun _ h => h
  have hbA : ¬ (fun q => s.heap.size ≤ q) b := Nat.not_le.mpr hbl
  have hI0 := hI
  obtain ⟨⟨ht, hn, hok, hmo, hK0, hnu⟩, ⟨hE, hrn, hrows, hG0, hE0⟩, ⟨hnp, hof, hse⟩, ⟨hsd, hset, hph⟩, ⟨hkn, hpl, hgo, hkno⟩⟩ := hI
  by_cases h1 : (xz xs (i + 1)) = 0 ∨ (xz xs (i + 1)) = 1
  · have hZ1 := settle_ok hnp hof hph
    have hZs := settleF_ok (sd := sd) (np := np) (t := t) (of := of) (se := se) hset
    have hY1 := know_ok hnp hkno
    obtain ⟨hY2, hY3⟩ := know_pb (kn := kn) (t := t) (se := se) (Y := (pl, mn, ch, le, ff, mf, mt)) hnp hof hpl hgo
    obtain ⟨-, hc1, hc2, hc3, hc4, -, -⟩ := both_ok hnp hof hZ1 hY1
    refine lv_aload_n hx hb d_law_478 rfl (lv_at hl 1 rfl) ?_
    refine lv_aload_n hx hb d_law_479 rfl (lv_at hl 0 rfl) ?_
    refine lv_iload_n hx hb d_law_480 rfl (lv_at hl 3 rfl) ?_
    refine lv_iconst (v := zI 1) hx hb d_law_481 (by decide) ?_
    refine k_iadd hx hb d_law_482 rfl ?_
    refine k_sld hx hb hX hbl hbA hS (j := i + 1) (by omega) (by omega) hL d_law_483 ?_
    refine k_beIT (tn := k_p3 cI gr ((settleF sd np t of se (pc, Pl, tr, fc, cn, lm, sf, st)).2.1)) (T1 := (k_pp cI ro en E ++ k_p3 cI gr ((settleF sd np t of se (pc, Pl, tr, fc, cn, lm, sf, st)).2.1))) (va_runV (As := [.int (zI (xz xs (i + 1)))]) (rest := []) ⟨hx, hb, hml, hown, hts⟩ (c_Pm_shortest_2 l D cI cR cG q np sd lm sf st gr t of se pc tr fc cn Pl (xz xs (i + 1)) h1 hsd hnp ht hof hse hset _) (cwV 1 hts (k_gVL ll_78 rfl kw_instanceMethod_Pm_shortest kw_selects_Pm_shortest kw_initialized_Pm kw_code_Pm_shortest) rfl rfl rfl (by decide +kernel) ⟨(Nat.le_of_ble_eq_true rfl), (Nat.le_of_ble_eq_true rfl)⟩) (k_preVT (tc := k_p3 cI gr Pl) (q0 := 0) hK hG hP hD [0, 1, 8, 9, 10, 11, 12, 13, 14, 15] rfl rfl (fun _ h => List.mem_append_right _ h) ((k_D_right (k_D_right hD)).weaken (fun _ _ _ _ => trivial)) rfl rfl) rfl rfl hl.1 rfl (lv_room (Nat.le_of_ble_eq_true rfl)) d_law_484 ⟨(Nat.le_of_ble_eq_true rfl), (Nat.le_of_ble_eq_true rfl)⟩) hP hD hS hA [0, 1, 8, 9, 10, 11, 12, 13, 14, 15] rfl (Eq.trans (b := [q 0, q 1, q 8, q 9, q 10, q 11, q 12, q 13, q 14, q 15]) rfl rfl) (fun _ h => List.mem_append_right _ h) (k_mapR k_p3_fst) (k_hU_r (k_D_right hD)) ?_
    clear hP hD hS; intro H locs hP hD hS
    replace hP : va_P D k_cl (lX cI cR cG q w ro gr t K fi sc nn of se n np r 1 ((settleF sd np t of se (pc, Pl, tr, fc, cn, lm, sf, st)).2.2.2.2.2.1) ((settleF sd np t of se (pc, Pl, tr, fc, cn, lm, sf, st)).2.2.2.2.2.2.1) ((settleF sd np t of se (pc, Pl, tr, fc, cn, lm, sf, st)).2.2.2.2.2.2.2) ((settleF sd np t of se (pc, Pl, tr, fc, cn, lm, sf, st)).1) ((settleF sd np t of se (pc, Pl, tr, fc, cn, lm, sf, st)).2.2.1) ((settleF sd np t of se (pc, Pl, tr, fc, cn, lm, sf, st)).2.2.2.1) ((settleF sd np t of se (pc, Pl, tr, fc, cn, lm, sf, st)).2.2.2.2.1) t K of se n np kn ch le mf mt on ot nu G E0 mn ff pl ++ (k_pp cI ro en E ++ k_p3 cI gr ((settleF sd np t of se (pc, Pl, tr, fc, cn, lm, sf, st)).2.1))) H := hP
    replace hD : va_D (fun q => s.heap.size ≤ q) (lX cI cR cG q w ro gr t K fi sc nn of se n np r 1 ((settleF sd np t of se (pc, Pl, tr, fc, cn, lm, sf, st)).2.2.2.2.2.1) ((settleF sd np t of se (pc, Pl, tr, fc, cn, lm, sf, st)).2.2.2.2.2.2.1) ((settleF sd np t of se (pc, Pl, tr, fc, cn, lm, sf, st)).2.2.2.2.2.2.2) ((settleF sd np t of se (pc, Pl, tr, fc, cn, lm, sf, st)).1) ((settleF sd np t of se (pc, Pl, tr, fc, cn, lm, sf, st)).2.2.1) ((settleF sd np t of se (pc, Pl, tr, fc, cn, lm, sf, st)).2.2.2.1) ((settleF sd np t of se (pc, Pl, tr, fc, cn, lm, sf, st)).2.2.2.2.1) t K of se n np kn ch le mf mt on ot nu G E0 mn ff pl ++ (k_pp cI ro en E ++ k_p3 cI gr ((settleF sd np t of se (pc, Pl, tr, fc, cn, lm, sf, st)).2.1))) := hD
    refine lv_aload_n hx hb d_law_487 rfl (lv_at hl 2 rfl) ?_
    refine lv_aload_n hx hb d_law_488 rfl (lv_at hl 0 rfl) ?_
    refine lv_iload_n hx hb d_law_489 rfl (lv_at hl 3 rfl) ?_
    refine lv_iconst (v := zI 1) hx hb d_law_490 (by decide) ?_
    refine k_iadd hx hb d_law_491 rfl ?_
    refine k_sld hx hb hX hbl hbA hS (j := i + 1) (by omega) (by omega) hL d_law_492 ?_
    refine k_beIX (va_runV (As := [.int (zI (xz xs (i + 1)))]) (rest := [.int (zI (if (settleF sd np t of se (pc, Pl, tr, fc, cn, lm, sf, st)).2.2.2.2.2.1 ≠ 77 then (if (xz xs (i + 1)) = 0 then (settleF sd np t of se (pc, Pl, tr, fc, cn, lm, sf, st)).2.2.2.2.2.2.1 else (settleF sd np t of se (pc, Pl, tr, fc, cn, lm, sf, st)).2.2.2.2.2.2.2) else -3))]) ⟨hx, hb, hml, hown, hts⟩ (c_Mo_shortest_2 l D cI cR cG w n np kn ch le mf mt t of se mn ff pl gN (xz xs (i + 1)) h1 hc3 hkn hnp ht hof hse hpl hgo (by unfold gN; omega) (fun _ h1 => know_end h1 hnp pl _) _) (cwV 1 hts (k_gVL ll_81 rfl kw_instanceMethod_Mo_shortest kw_selects_Mo_shortest kw_initialized_Mo kw_code_Mo_shortest) rfl rfl rfl (by decide +kernel) ⟨(Nat.le_of_ble_eq_true rfl), (Nat.le_of_ble_eq_true rfl)⟩) (k_preVX (q0 := 0) hK hG hP hD [16, 17, 22, 23, 26, 27, 28] rfl rfl rfl rfl) rfl rfl hl.1 rfl (lv_room (Nat.le_of_ble_eq_true rfl)) d_law_493 ⟨(Nat.le_of_ble_eq_true rfl), (Nat.le_of_ble_eq_true rfl)⟩) hP hD hS hA [16, 17, 22, 23, 26, 27, 28] rfl (Eq.trans (b := [w 0, w 1, w 6, w 7, w 10, w 11, w 12]) rfl rfl) ?_
    clear hP hD hS; intro H locs hP hD hS
    replace hP : va_P D k_cl (lX cI cR cG q w ro gr t K fi sc nn of se n np r 1 ((settleF sd np t of se (pc, Pl, tr, fc, cn, lm, sf, st)).2.2.2.2.2.1) ((settleF sd np t of se (pc, Pl, tr, fc, cn, lm, sf, st)).2.2.2.2.2.2.1) ((settleF sd np t of se (pc, Pl, tr, fc, cn, lm, sf, st)).2.2.2.2.2.2.2) ((settleF sd np t of se (pc, Pl, tr, fc, cn, lm, sf, st)).1) ((settleF sd np t of se (pc, Pl, tr, fc, cn, lm, sf, st)).2.2.1) ((settleF sd np t of se (pc, Pl, tr, fc, cn, lm, sf, st)).2.2.2.1) ((settleF sd np t of se (pc, Pl, tr, fc, cn, lm, sf, st)).2.2.2.2.1) t K of se n np 1 ((knowF kn np t of se gN (pl, mn, ch, le, ff, mf, mt)).2.2.1) ((knowF kn np t of se gN (pl, mn, ch, le, ff, mf, mt)).2.2.2.1) ((knowF kn np t of se gN (pl, mn, ch, le, ff, mf, mt)).2.2.2.2.2.1) ((knowF kn np t of se gN (pl, mn, ch, le, ff, mf, mt)).2.2.2.2.2.2) on ot nu G E0 ((knowF kn np t of se gN (pl, mn, ch, le, ff, mf, mt)).2.1) ((knowF kn np t of se gN (pl, mn, ch, le, ff, mf, mt)).2.2.2.2.1) ((knowF kn np t of se gN (pl, mn, ch, le, ff, mf, mt)).1) ++ (k_pp cI ro en E ++ k_p3 cI gr ((settleF sd np t of se (pc, Pl, tr, fc, cn, lm, sf, st)).2.1))) H := hP
    replace hD : va_D (fun q => s.heap.size ≤ q) (lX cI cR cG q w ro gr t K fi sc nn of se n np r 1 ((settleF sd np t of se (pc, Pl, tr, fc, cn, lm, sf, st)).2.2.2.2.2.1) ((settleF sd np t of se (pc, Pl, tr, fc, cn, lm, sf, st)).2.2.2.2.2.2.1) ((settleF sd np t of se (pc, Pl, tr, fc, cn, lm, sf, st)).2.2.2.2.2.2.2) ((settleF sd np t of se (pc, Pl, tr, fc, cn, lm, sf, st)).1) ((settleF sd np t of se (pc, Pl, tr, fc, cn, lm, sf, st)).2.2.1) ((settleF sd np t of se (pc, Pl, tr, fc, cn, lm, sf, st)).2.2.2.1) ((settleF sd np t of se (pc, Pl, tr, fc, cn, lm, sf, st)).2.2.2.2.1) t K of se n np 1 ((knowF kn np t of se gN (pl, mn, ch, le, ff, mf, mt)).2.2.1) ((knowF kn np t of se gN (pl, mn, ch, le, ff, mf, mt)).2.2.2.1) ((knowF kn np t of se gN (pl, mn, ch, le, ff, mf, mt)).2.2.2.2.2.1) ((knowF kn np t of se gN (pl, mn, ch, le, ff, mf, mt)).2.2.2.2.2.2) on ot nu G E0 ((knowF kn np t of se gN (pl, mn, ch, le, ff, mf, mt)).2.1) ((knowF kn np t of se gN (pl, mn, ch, le, ff, mf, mt)).2.2.2.2.1) ((knowF kn np t of se gN (pl, mn, ch, le, ff, mf, mt)).1) ++ (k_pp cI ro en E ++ k_p3 cI gr ((settleF sd np t of se (pc, Pl, tr, fc, cn, lm, sf, st)).2.1))) := hD
    refine k_sameI (tgt := 501) hx hb d_law_496 (by decide) (an_sh hnp hof hZ1 hY1) ?_
    exact kk t K fi sc nn of se n np r 1 ((settleF sd np t of se (pc, Pl, tr, fc, cn, lm, sf, st)).2.2.2.2.2.1) ((settleF sd np t of se (pc, Pl, tr, fc, cn, lm, sf, st)).2.2.2.2.2.2.1) ((settleF sd np t of se (pc, Pl, tr, fc, cn, lm, sf, st)).2.2.2.2.2.2.2) ((settleF sd np t of se (pc, Pl, tr, fc, cn, lm, sf, st)).1) ((settleF sd np t of se (pc, Pl, tr, fc, cn, lm, sf, st)).2.2.1) ((settleF sd np t of se (pc, Pl, tr, fc, cn, lm, sf, st)).2.2.2.1) ((settleF sd np t of se (pc, Pl, tr, fc, cn, lm, sf, st)).2.2.2.2.1) E ((settleF sd np t of se (pc, Pl, tr, fc, cn, lm, sf, st)).2.1) 1 ((knowF kn np t of se gN (pl, mn, ch, le, ff, mf, mt)).2.2.1) ((knowF kn np t of se gN (pl, mn, ch, le, ff, mf, mt)).2.2.2.1) ((knowF kn np t of se gN (pl, mn, ch, le, ff, mf, mt)).2.2.2.2.2.1) ((knowF kn np t of se gN (pl, mn, ch, le, ff, mf, mt)).2.2.2.2.2.2) on ot nu G E0 ((knowF kn np t of se gN (pl, mn, ch, le, ff, mf, mt)).2.1) ((knowF kn np t of se gN (pl, mn, ch, le, ff, mf, mt)).2.2.2.2.1) ((knowF kn np t of se gN (pl, mn, ch, le, ff, mf, mt)).1) ⟨⟨ht, hn, hok, hmo, hK0, hnu⟩, ⟨hE, hrn, hrows, hG0, hE0⟩, ⟨hnp, hof, hse⟩, ⟨Nat.le_refl 1, hZs, hZ1⟩, ⟨Nat.le_refl 1, hY2, hY3, hY1⟩⟩ _ _ _ hP hD hS hl
  · refine lv_aload_n hx hb d_law_478 rfl (lv_at hl 1 rfl) ?_
    refine lv_aload_n hx hb d_law_479 rfl (lv_at hl 0 rfl) ?_
    refine lv_iload_n hx hb d_law_480 rfl (lv_at hl 3 rfl) ?_
    refine lv_iconst (v := zI 1) hx hb d_law_481 (by decide) ?_
    refine k_iadd hx hb d_law_482 rfl ?_
    refine k_sld hx hb hX hbl hbA hS (j := i + 1) (by omega) (by omega) hL d_law_483 ?_
    refine k_beIX (va_runV (As := [.int (zI (xz xs (i + 1)))]) (rest := []) ⟨hx, hb, hml, hown, hts⟩ (c_Pm_shortest_1 l D cI cR cG q (xz xs (i + 1)) (xz_sm _ _) h1 _) (cwV 1 hts (k_gVL ll_78 rfl kw_instanceMethod_Pm_shortest kw_selects_Pm_shortest kw_initialized_Pm kw_code_Pm_shortest) rfl rfl rfl (by decide +kernel) ⟨(Nat.le_of_ble_eq_true rfl), (Nat.le_of_ble_eq_true rfl)⟩) (k_preVX (q0 := 0) hK hG hP hD [0] rfl rfl rfl rfl) rfl rfl hl.1 rfl (lv_room (Nat.le_of_ble_eq_true rfl)) d_law_484 ⟨(Nat.le_of_ble_eq_true rfl), (Nat.le_of_ble_eq_true rfl)⟩) hP hD hS hA [0] rfl (Eq.trans (b := [q 0]) rfl rfl) ?_
    clear hP hD hS; intro H locs hP hD hS
    replace hP : va_P D k_cl (lX cI cR cG q w ro gr t K fi sc nn of se n np r sd lm sf st pc tr fc cn t K of se n np kn ch le mf mt on ot nu G E0 mn ff pl ++ (k_pp cI ro en E ++ k_p3 cI gr Pl)) H := hP
    replace hD : va_D (fun q => s.heap.size ≤ q) (lX cI cR cG q w ro gr t K fi sc nn of se n np r sd lm sf st pc tr fc cn t K of se n np kn ch le mf mt on ot nu G E0 mn ff pl ++ (k_pp cI ro en E ++ k_p3 cI gr Pl)) := hD
    refine lv_aload_n hx hb d_law_487 rfl (lv_at hl 2 rfl) ?_
    refine lv_aload_n hx hb d_law_488 rfl (lv_at hl 0 rfl) ?_
    refine lv_iload_n hx hb d_law_489 rfl (lv_at hl 3 rfl) ?_
    refine lv_iconst (v := zI 1) hx hb d_law_490 (by decide) ?_
    refine k_iadd hx hb d_law_491 rfl ?_
    refine k_sld hx hb hX hbl hbA hS (j := i + 1) (by omega) (by omega) hL d_law_492 ?_
    refine k_beIX (va_runV (As := [.int (zI (xz xs (i + 1)))]) (rest := [.int (zI (-2))]) ⟨hx, hb, hml, hown, hts⟩ (c_Mo_shortest_1 l D cI cR cG w n np kn ch le mf mt (xz xs (i + 1)) (xz_sm _ _) h1 _) (cwV 1 hts (k_gVL ll_81 rfl kw_instanceMethod_Mo_shortest kw_selects_Mo_shortest kw_initialized_Mo kw_code_Mo_shortest) rfl rfl rfl (by decide +kernel) ⟨(Nat.le_of_ble_eq_true rfl), (Nat.le_of_ble_eq_true rfl)⟩) (k_preVX (q0 := 0) hK hG hP hD [16] rfl rfl rfl rfl) rfl rfl hl.1 rfl (lv_room (Nat.le_of_ble_eq_true rfl)) d_law_493 ⟨(Nat.le_of_ble_eq_true rfl), (Nat.le_of_ble_eq_true rfl)⟩) hP hD hS hA [16] rfl (Eq.trans (b := [w 0]) rfl rfl) ?_
    clear hP hD hS; intro H locs hP hD hS
    replace hP : va_P D k_cl (lX cI cR cG q w ro gr t K fi sc nn of se n np r sd lm sf st pc tr fc cn t K of se n np kn ch le mf mt on ot nu G E0 mn ff pl ++ (k_pp cI ro en E ++ k_p3 cI gr Pl)) H := hP
    replace hD : va_D (fun q => s.heap.size ≤ q) (lX cI cR cG q w ro gr t K fi sc nn of se n np r sd lm sf st pc tr fc cn t K of se n np kn ch le mf mt on ot nu G E0 mn ff pl ++ (k_pp cI ro en E ++ k_p3 cI gr Pl)) := hD
    refine k_sameI (tgt := 501) hx hb d_law_496 (by decide) rfl ?_
    exact kk t K fi sc nn of se n np r sd lm sf st pc tr fc cn E Pl kn ch le mf mt on ot nu G E0 mn ff pl hI0 _ _ _ hP hD hS hl
