set_option maxHeartbeats 4000000 in
set_option maxRecDepth 100000 in
theorem lc_count {p : Program} {e : Env} {s : State} {m : MethodId} {below : List Frame} {meth : Method} {c : Code} {Qf : State → Prop} (l : Launch) {b L : Nat} {xs : Nat → Int32} (hL : L ≤ 2560) (C0 : lw_At p s m meth c b L xs) {D : va_G} {cI cR cG : ClassId} (hK : va_K D k_cl (k_ty cI cR cG) s) (hG : k_G k_ns s) {q w ro en gr : Nat → Nat} {i : Nat} (hi : i + 5 ≤ L) (kk : lK p l e s m below meth c b Qf D cI cR cG q w ro en gr i 501) : lK p l e s m below meth c b Qf D cI cR cG q w ro en gr i 224 := by
  obtain ⟨hx, hb, hr, hml, hown, hts, hX, hbl, hlocks, -⟩ := C0
  intro t K fi sc nn of se n np r sd lm sf st pc tr fc cn E Pl kn ch le mf mt on ot nu G E0 mn ff pl hI H locs ls hP hD hS hl
  have hA : ∀ q, s.heap.size ≤ q → (fun q => s.heap.size ≤ q) q := fun _ h => h
  have hbA : ¬ (fun q => s.heap.size ≤ q) b := Nat.not_le.mpr hbl
  have hI0 := hI
  obtain ⟨⟨ht, hn, hok, hmo, hK0, hnu⟩, ⟨hE, hrn, hrows, hG0, hE0⟩, ⟨hnp, hof, hse⟩, ⟨hsd, hset, hph⟩, ⟨hkn, hpl, hgo, hkno⟩⟩ := hI
  by_cases h1 : 0 ≤ (xz xs (i + 1)) ∧ (xz xs (i + 1)) < ↑n
  · obtain ⟨u, hu⟩ := k_zero_le h1.1
    have hxn : u < n := by omega
    have hrs := row_same (G := G) (E0 := E0) hok hmo hxn hrn hrows
    have hru := rows_up hok hxn hrn hrows
    have hmf := mFA_le (t := t) (K := K) (fi := fi) (sc := sc) (nn := nn) (nu := nu) (c := u + 1) (k := 0) (S := (G, E0)) ⟨hG0, hE0⟩
    refine lv_aload_n hx hb d_law_224 rfl (lv_at hl 1 rfl) ?_
    refine lv_aload_n hx hb d_law_225 rfl (lv_at hl 0 rfl) ?_
    refine lv_iload_n hx hb d_law_226 rfl (lv_at hl 3 rfl) ?_
    refine lv_iconst (v := zI 1) hx hb d_law_227 (by decide) ?_
    refine k_iadd hx hb d_law_228 rfl ?_
    refine k_sld hx hb hX hbl hbA hS (j := i + 1) (by omega) (by omega) hL d_law_229 ?_
    refine k_stk (st2 := [.int (zI ↑u), .ref (q 0)]) (by rw [hu]) ?_
    refine k_beIT (tn := k_pp cI ro en (rowsTo t K fi sc nn (u + 1 - r) r E)) (T1 := (k_pp cI ro en (rowsTo t K fi sc nn (u + 1 - r) r E) ++ k_p3 cI gr Pl)) (va_runV (As := [.int (zI ↑u)]) (rest := []) ⟨hx, hb, hml, hown, hts⟩ (c_Pm_count_2 l D cI cR cG q n r u ro en K fi sc nn t E hxn hn hok ht hE (Nat.le_trans hrn hn) _) (cwV 1 hts (k_gVL ll_32 rfl kw_instanceMethod_Pm_count kw_selects_Pm_count kw_initialized_Pm kw_code_Pm_count) rfl rfl rfl (by decide +kernel) ⟨(Nat.le_of_ble_eq_true rfl), (Nat.le_of_ble_eq_true rfl)⟩) (k_preVT (tc := k_pp cI ro en E) (q0 := 0) hK hG hP hD [0, 1, 2, 3, 4, 5, 6, 7] rfl rfl (fun _ h => List.mem_append_left _ h) ((k_D_left (k_D_right hD)).weaken (fun _ _ _ _ => trivial)) rfl rfl) rfl rfl hl.1 rfl (lv_room (Nat.le_of_ble_eq_true rfl)) d_law_230 ⟨(Nat.le_of_ble_eq_true rfl), (Nat.le_of_ble_eq_true rfl)⟩) hP hD hS hA [0, 1, 2, 3, 4, 5, 6, 7] rfl (Eq.trans (b := [q 0, q 1, q 2, q 3, q 4, q 5, q 6, q 7]) rfl rfl) (fun _ h => List.mem_append_left _ h) (k_mapL k_pp_fst) (k_hU_l (k_D_right hD)) ?_
    clear hP hD hS; intro H locs hP hD hS
    replace hP : va_P D k_cl (lX cI cR cG q w ro gr t K fi sc nn of se n np (max r (u + 1)) sd lm sf st pc tr fc cn t K of se n np kn ch le mf mt on ot nu G E0 mn ff pl ++ (k_pp cI ro en (rowsTo t K fi sc nn (u + 1 - r) r E) ++ k_p3 cI gr Pl)) H := hP
    replace hD : va_D (fun q => s.heap.size ≤ q) (lX cI cR cG q w ro gr t K fi sc nn of se n np (max r (u + 1)) sd lm sf st pc tr fc cn t K of se n np kn ch le mf mt on ot nu G E0 mn ff pl ++ (k_pp cI ro en (rowsTo t K fi sc nn (u + 1 - r) r E) ++ k_p3 cI gr Pl)) := hD
    refine lv_aload_n hx hb d_law_233 rfl (lv_at hl 2 rfl) ?_
    refine lv_aload_n hx hb d_law_234 rfl (lv_at hl 0 rfl) ?_
    refine lv_iload_n hx hb d_law_235 rfl (lv_at hl 3 rfl) ?_
    refine lv_iconst (v := zI 1) hx hb d_law_236 (by decide) ?_
    refine k_iadd hx hb d_law_237 rfl ?_
    refine k_sld hx hb hX hbl hbA hS (j := i + 1) (by omega) (by omega) hL d_law_238 ?_
    refine k_stk (st2 := [.int (zI ↑u), .ref (w 0), .int (zI (↑(rSize (rowsTo t K fi sc nn (u + 1 - r) r E u) 30 0 0)))]) (by rw [hu]) ?_
    refine k_beIX (va_runV (As := [.int (zI ↑u)]) (rest := [.int (zI (↑(rSize (rowsTo t K fi sc nn (u + 1 - r) r E u) 30 0 0)))]) ⟨hx, hb, hml, hown, hts⟩ (c_Mo_count_2 l D cI cR cG w n np kn ch le mf mt u t K fi sc nn on ot nu G E0 hxn hn hok hmo hK0 hnu ht hG0 hE0 _) (cwV 1 hts (k_gVL ll_36 rfl kw_instanceMethod_Mo_count kw_selects_Mo_count kw_initialized_Mo kw_code_Mo_count) rfl rfl rfl (by decide +kernel) ⟨(Nat.le_of_ble_eq_true rfl), (Nat.le_of_ble_eq_true rfl)⟩) (k_preVX (q0 := 0) hK hG hP hD [16, 17, 18, 19, 20, 21, 24, 25] rfl rfl rfl rfl) rfl rfl hl.1 rfl (lv_room (Nat.le_of_ble_eq_true rfl)) d_law_239 ⟨(Nat.le_of_ble_eq_true rfl), (Nat.le_of_ble_eq_true rfl)⟩) hP hD hS hA [16, 17, 18, 19, 20, 21, 24, 25] rfl (Eq.trans (b := [w 0, w 1, w 2, w 3, w 4, w 5, w 8, w 9]) rfl rfl) ?_
    clear hP hD hS; intro H locs hP hD hS
    replace hP : va_P D k_cl (lX cI cR cG q w ro gr t K fi sc nn of se n np (max r (u + 1)) sd lm sf st pc tr fc cn t K of se n np kn ch le mf mt on ot nu ((mFA t K fi sc nn nu (u + 1) 0 (G, E0)).1) ((mFA t K fi sc nn nu (u + 1) 0 (G, E0)).2) mn ff pl ++ (k_pp cI ro en (rowsTo t K fi sc nn (u + 1 - r) r E) ++ k_p3 cI gr Pl)) H := hP
    replace hD : va_D (fun q => s.heap.size ≤ q) (lX cI cR cG q w ro gr t K fi sc nn of se n np (max r (u + 1)) sd lm sf st pc tr fc cn t K of se n np kn ch le mf mt on ot nu ((mFA t K fi sc nn nu (u + 1) 0 (G, E0)).1) ((mFA t K fi sc nn nu (u + 1) 0 (G, E0)).2) mn ff pl ++ (k_pp cI ro en (rowsTo t K fi sc nn (u + 1 - r) r E) ++ k_p3 cI gr Pl)) := hD
    refine k_sameI (tgt := 501) hx hb d_law_242 (by decide) (congrArg (fun z : Nat => (z : Int)) (rSize_congr 30 0 0 (fun j hj => (hrs.1 j (by omega)).symm))) ?_
    exact kk t K fi sc nn of se n np (max r (u + 1)) sd lm sf st pc tr fc cn (rowsTo t K fi sc nn (u + 1 - r) r E) Pl kn ch le mf mt on ot nu ((mFA t K fi sc nn nu (u + 1) 0 (G, E0)).1) ((mFA t K fi sc nn nu (u + 1) 0 (G, E0)).2) mn ff pl ⟨⟨ht, hn, hok, hmo, hK0, hnu⟩, ⟨rowsTo_le hE, hru.1, hru.2, hmf.1, hmf.2⟩, ⟨hnp, hof, hse⟩, ⟨hsd, hset, hph⟩, ⟨hkn, hpl, hgo, hkno⟩⟩ _ _ _ hP hD hS hl
  · refine lv_aload_n hx hb d_law_224 rfl (lv_at hl 1 rfl) ?_
    refine lv_aload_n hx hb d_law_225 rfl (lv_at hl 0 rfl) ?_
    refine lv_iload_n hx hb d_law_226 rfl (lv_at hl 3 rfl) ?_
    refine lv_iconst (v := zI 1) hx hb d_law_227 (by decide) ?_
    refine k_iadd hx hb d_law_228 rfl ?_
    refine k_sld hx hb hX hbl hbA hS (j := i + 1) (by omega) (by omega) hL d_law_229 ?_
    refine k_beIX (va_runV (As := [.int (zI (xz xs (i + 1)))]) (rest := []) ⟨hx, hb, hml, hown, hts⟩ (c_Pm_count_1 l D cI cR cG q n r (xz xs (i + 1)) (xz_sm _ _) hn h1 _) (cwV 1 hts (k_gVL ll_32 rfl kw_instanceMethod_Pm_count kw_selects_Pm_count kw_initialized_Pm kw_code_Pm_count) rfl rfl rfl (by decide +kernel) ⟨(Nat.le_of_ble_eq_true rfl), (Nat.le_of_ble_eq_true rfl)⟩) (k_preVX (q0 := 0) hK hG hP hD [0, 2] rfl rfl rfl rfl) rfl rfl hl.1 rfl (lv_room (Nat.le_of_ble_eq_true rfl)) d_law_230 ⟨(Nat.le_of_ble_eq_true rfl), (Nat.le_of_ble_eq_true rfl)⟩) hP hD hS hA [0, 2] rfl (Eq.trans (b := [q 0, q 2]) rfl rfl) ?_
    clear hP hD hS; intro H locs hP hD hS
    replace hP : va_P D k_cl (lX cI cR cG q w ro gr t K fi sc nn of se n np r sd lm sf st pc tr fc cn t K of se n np kn ch le mf mt on ot nu G E0 mn ff pl ++ (k_pp cI ro en E ++ k_p3 cI gr Pl)) H := hP
    replace hD : va_D (fun q => s.heap.size ≤ q) (lX cI cR cG q w ro gr t K fi sc nn of se n np r sd lm sf st pc tr fc cn t K of se n np kn ch le mf mt on ot nu G E0 mn ff pl ++ (k_pp cI ro en E ++ k_p3 cI gr Pl)) := hD
    refine lv_aload_n hx hb d_law_233 rfl (lv_at hl 2 rfl) ?_
    refine lv_aload_n hx hb d_law_234 rfl (lv_at hl 0 rfl) ?_
    refine lv_iload_n hx hb d_law_235 rfl (lv_at hl 3 rfl) ?_
    refine lv_iconst (v := zI 1) hx hb d_law_236 (by decide) ?_
    refine k_iadd hx hb d_law_237 rfl ?_
    refine k_sld hx hb hX hbl hbA hS (j := i + 1) (by omega) (by omega) hL d_law_238 ?_
    refine k_beIX (va_runV (As := [.int (zI (xz xs (i + 1)))]) (rest := [.int (zI (-1))]) ⟨hx, hb, hml, hown, hts⟩ (c_Mo_count_1 l D cI cR cG w n np kn ch le mf mt (xz xs (i + 1)) (xz_sm _ _) hn h1 _) (cwV 1 hts (k_gVL ll_36 rfl kw_instanceMethod_Mo_count kw_selects_Mo_count kw_initialized_Mo kw_code_Mo_count) rfl rfl rfl (by decide +kernel) ⟨(Nat.le_of_ble_eq_true rfl), (Nat.le_of_ble_eq_true rfl)⟩) (k_preVX (q0 := 0) hK hG hP hD [16] rfl rfl rfl rfl) rfl rfl hl.1 rfl (lv_room (Nat.le_of_ble_eq_true rfl)) d_law_239 ⟨(Nat.le_of_ble_eq_true rfl), (Nat.le_of_ble_eq_true rfl)⟩) hP hD hS hA [16] rfl (Eq.trans (b := [w 0]) rfl rfl) ?_
    clear hP hD hS; intro H locs hP hD hS
    replace hP : va_P D k_cl (lX cI cR cG q w ro gr t K fi sc nn of se n np r sd lm sf st pc tr fc cn t K of se n np kn ch le mf mt on ot nu G E0 mn ff pl ++ (k_pp cI ro en E ++ k_p3 cI gr Pl)) H := hP
    replace hD : va_D (fun q => s.heap.size ≤ q) (lX cI cR cG q w ro gr t K fi sc nn of se n np r sd lm sf st pc tr fc cn t K of se n np kn ch le mf mt on ot nu G E0 mn ff pl ++ (k_pp cI ro en E ++ k_p3 cI gr Pl)) := hD
    refine k_sameI (tgt := 501) hx hb d_law_242 (by decide) rfl ?_
    exact kk t K fi sc nn of se n np r sd lm sf st pc tr fc cn E Pl kn ch le mf mt on ot nu G E0 mn ff pl hI0 _ _ _ hP hD hS hl
set_option maxHeartbeats 4000000 in
set_option maxRecDepth 100000 in
theorem lc_begin {p : Program} {e : Env} {s : State} {m : MethodId} {below : List Frame} {meth : Method} {c : Code} {Qf : State → Prop} (l : Launch) {b L : Nat} {xs : Nat → Int32} (hL : L ≤ 2560) (C0 : lw_At p s m meth c b L xs) {D : va_G} {cI cR cG : ClassId} (hK : va_K D k_cl (k_ty cI cR cG) s) (hG : k_G k_ns s) {q w ro en gr : Nat → Nat} {i : Nat} (hi : i + 5 ≤ L) (kk : lK p l e s m below meth c b Qf D cI cR cG q w ro en gr i 501) : lK p l e s m below meth c b Qf D cI cR cG q w ro en gr i 247 := by
  obtain ⟨hx, hb, hr, hml, hown, hts, hX, hbl, hlocks, -⟩ := C0
  intro t K fi sc nn of se n np r sd lm sf st pc tr fc cn E Pl kn ch le mf mt on ot nu G E0 mn ff pl hI H locs ls hP hD hS hl
  have hA : ∀ q, s.heap.size ≤ q → (fun q => s.heap.size ≤ q) q := fun _ h => h
  have hbA : ¬ (fun q => s.heap.size ≤ q) b := Nat.not_le.mpr hbl
  have hI0 := hI
  obtain ⟨⟨ht, hn, hok, hmo, hK0, hnu⟩, ⟨hE, hrn, hrows, hG0, hE0⟩, ⟨hnp, hof, hse⟩, ⟨hsd, hset, hph⟩, ⟨hkn, hpl, hgo, hkno⟩⟩ := hI
  by_cases h1 : 0 ≤ (xz xs (i + 1)) ∧ (xz xs (i + 1)) < ↑n
  · obtain ⟨u, hu⟩ := k_zero_le h1.1
    have hxn : u < n := by omega
    have hrs := row_same (G := G) (E0 := E0) hok hmo hxn hrn hrows
    have hru := rows_up hok hxn hrn hrows
    have hmf := mFA_le (t := t) (K := K) (fi := fi) (sc := sc) (nn := nn) (nu := nu) (c := u + 1) (k := 0) (S := (G, E0)) ⟨hG0, hE0⟩
    refine lv_aload_n hx hb d_law_247 rfl (lv_at hl 1 rfl) ?_
    refine lv_aload_n hx hb d_law_248 rfl (lv_at hl 0 rfl) ?_
    refine lv_iload_n hx hb d_law_249 rfl (lv_at hl 3 rfl) ?_
    refine lv_iconst (v := zI 1) hx hb d_law_250 (by decide) ?_
    refine k_iadd hx hb d_law_251 rfl ?_
    refine k_sld hx hb hX hbl hbA hS (j := i + 1) (by omega) (by omega) hL d_law_252 ?_
    refine lv_aload_n hx hb d_law_253 rfl (lv_at hl 0 rfl) ?_
    refine lv_iload_n hx hb d_law_254 rfl (lv_at hl 3 rfl) ?_
    refine lv_iconst (v := zI 2) hx hb d_law_255 (by decide) ?_
    refine k_iadd hx hb d_law_256 rfl ?_
    refine k_sld hx hb hX hbl hbA hS (j := i + 2) (by omega) (by omega) hL d_law_257 ?_
    refine k_stk (st2 := [.int (zI (xz xs (i + 2))), .int (zI ↑u), .ref (q 0)]) (by rw [hu]) ?_
    refine k_beIT (tn := k_pp cI ro en (rowsTo t K fi sc nn (u + 1 - r) r E)) (T1 := (k_pp cI ro en (rowsTo t K fi sc nn (u + 1 - r) r E) ++ k_p3 cI gr Pl)) (va_runV (As := [.int (zI ↑u), .int (zI (xz xs (i + 2)))]) (rest := []) ⟨hx, hb, hml, hown, hts⟩ (c_Pm_begin_2 l D cI cR cG q n r u (xz xs (i + 2)) ro en K fi sc nn t E (xz_sm _ _) hxn hn hok ht hE (Nat.le_trans hrn hn) _) (cwV 2 hts (k_gVL ll_37 rfl kw_instanceMethod_Pm_begin kw_selects_Pm_begin kw_initialized_Pm kw_code_Pm_begin) rfl rfl rfl (by decide +kernel) ⟨(Nat.le_of_ble_eq_true rfl), (Nat.le_of_ble_eq_true rfl)⟩) (k_preVT (tc := k_pp cI ro en E) (q0 := 0) hK hG hP hD [0, 1, 2, 3, 4, 5, 6, 7] rfl rfl (fun _ h => List.mem_append_left _ h) ((k_D_left (k_D_right hD)).weaken (fun _ _ _ _ => trivial)) rfl rfl) rfl rfl hl.1 rfl (lv_room (Nat.le_of_ble_eq_true rfl)) d_law_258 ⟨(Nat.le_of_ble_eq_true rfl), (Nat.le_of_ble_eq_true rfl)⟩) hP hD hS hA [0, 1, 2, 3, 4, 5, 6, 7] rfl (Eq.trans (b := [q 0, q 1, q 2, q 3, q 4, q 5, q 6, q 7]) rfl rfl) (fun _ h => List.mem_append_left _ h) (k_mapL k_pp_fst) (k_hU_l (k_D_right hD)) ?_
    clear hP hD hS; intro H locs hP hD hS
    replace hP : va_P D k_cl (lX cI cR cG q w ro gr t K fi sc nn of se n np (max r (u + 1)) sd lm sf st pc tr fc cn t K of se n np kn ch le mf mt on ot nu G E0 mn ff pl ++ (k_pp cI ro en (rowsTo t K fi sc nn (u + 1 - r) r E) ++ k_p3 cI gr Pl)) H := hP
    replace hD : va_D (fun q => s.heap.size ≤ q) (lX cI cR cG q w ro gr t K fi sc nn of se n np (max r (u + 1)) sd lm sf st pc tr fc cn t K of se n np kn ch le mf mt on ot nu G E0 mn ff pl ++ (k_pp cI ro en (rowsTo t K fi sc nn (u + 1 - r) r E) ++ k_p3 cI gr Pl)) := hD
    refine lv_aload_n hx hb d_law_261 rfl (lv_at hl 2 rfl) ?_
    refine lv_aload_n hx hb d_law_262 rfl (lv_at hl 0 rfl) ?_
    refine lv_iload_n hx hb d_law_263 rfl (lv_at hl 3 rfl) ?_
    refine lv_iconst (v := zI 1) hx hb d_law_264 (by decide) ?_
    refine k_iadd hx hb d_law_265 rfl ?_
    refine k_sld hx hb hX hbl hbA hS (j := i + 1) (by omega) (by omega) hL d_law_266 ?_
    refine lv_aload_n hx hb d_law_267 rfl (lv_at hl 0 rfl) ?_
    refine lv_iload_n hx hb d_law_268 rfl (lv_at hl 3 rfl) ?_
    refine lv_iconst (v := zI 2) hx hb d_law_269 (by decide) ?_
    refine k_iadd hx hb d_law_270 rfl ?_
    refine k_sld hx hb hX hbl hbA hS (j := i + 2) (by omega) (by omega) hL d_law_271 ?_
    refine k_stk (st2 := [.int (zI (xz xs (i + 2))), .int (zI ↑u), .ref (w 0), .int (zI (rBegin (rowsTo t K fi sc nn (u + 1 - r) r E u) (xz xs (i + 2)) 30 0 0))]) (by rw [hu]) ?_
    refine k_beIX (va_runV (As := [.int (zI ↑u), .int (zI (xz xs (i + 2)))]) (rest := [.int (zI (rBegin (rowsTo t K fi sc nn (u + 1 - r) r E u) (xz xs (i + 2)) 30 0 0))]) ⟨hx, hb, hml, hown, hts⟩ (c_Mo_begin_2 l D cI cR cG w n np kn ch le mf mt u (xz xs (i + 2)) t K fi sc nn on ot nu G E0 (xz_sm _ _) hxn hn hok hmo hK0 hnu ht hG0 hE0 _) (cwV 2 hts (k_gVL ll_40 rfl kw_instanceMethod_Mo_begin kw_selects_Mo_begin kw_initialized_Mo kw_code_Mo_begin) rfl rfl rfl (by decide +kernel) ⟨(Nat.le_of_ble_eq_true rfl), (Nat.le_of_ble_eq_true rfl)⟩) (k_preVX (q0 := 0) hK hG hP hD [16, 17, 18, 19, 20, 21, 24, 25] rfl rfl rfl rfl) rfl rfl hl.1 rfl (lv_room (Nat.le_of_ble_eq_true rfl)) d_law_272 ⟨(Nat.le_of_ble_eq_true rfl), (Nat.le_of_ble_eq_true rfl)⟩) hP hD hS hA [16, 17, 18, 19, 20, 21, 24, 25] rfl (Eq.trans (b := [w 0, w 1, w 2, w 3, w 4, w 5, w 8, w 9]) rfl rfl) ?_
    clear hP hD hS; intro H locs hP hD hS
    replace hP : va_P D k_cl (lX cI cR cG q w ro gr t K fi sc nn of se n np (max r (u + 1)) sd lm sf st pc tr fc cn t K of se n np kn ch le mf mt on ot nu ((mFA t K fi sc nn nu (u + 1) 0 (G, E0)).1) ((mFA t K fi sc nn nu (u + 1) 0 (G, E0)).2) mn ff pl ++ (k_pp cI ro en (rowsTo t K fi sc nn (u + 1 - r) r E) ++ k_p3 cI gr Pl)) H := hP
    replace hD : va_D (fun q => s.heap.size ≤ q) (lX cI cR cG q w ro gr t K fi sc nn of se n np (max r (u + 1)) sd lm sf st pc tr fc cn t K of se n np kn ch le mf mt on ot nu ((mFA t K fi sc nn nu (u + 1) 0 (G, E0)).1) ((mFA t K fi sc nn nu (u + 1) 0 (G, E0)).2) mn ff pl ++ (k_pp cI ro en (rowsTo t K fi sc nn (u + 1 - r) r E) ++ k_p3 cI gr Pl)) := hD
    refine k_sameI (tgt := 501) hx hb d_law_275 (by decide) (rBegin_congr 30 0 0 (fun j hj => (hrs.1 j (by omega)).symm)) ?_
    exact kk t K fi sc nn of se n np (max r (u + 1)) sd lm sf st pc tr fc cn (rowsTo t K fi sc nn (u + 1 - r) r E) Pl kn ch le mf mt on ot nu ((mFA t K fi sc nn nu (u + 1) 0 (G, E0)).1) ((mFA t K fi sc nn nu (u + 1) 0 (G, E0)).2) mn ff pl ⟨⟨ht, hn, hok, hmo, hK0, hnu⟩, ⟨rowsTo_le hE, hru.1, hru.2, hmf.1, hmf.2⟩, ⟨hnp, hof, hse⟩, ⟨hsd, hset, hph⟩, ⟨hkn, hpl, hgo, hkno⟩⟩ _ _ _ hP hD hS hl
  · refine lv_aload_n hx hb d_law_247 rfl (lv_at hl 1 rfl) ?_
    refine lv_aload_n hx hb d_law_248 rfl (lv_at hl 0 rfl) ?_
    refine lv_iload_n hx hb d_law_249 rfl (lv_at hl 3 rfl) ?_
    refine lv_iconst (v := zI 1) hx hb d_law_250 (by decide) ?_
    refine k_iadd hx hb d_law_251 rfl ?_
    refine k_sld hx hb hX hbl hbA hS (j := i + 1) (by omega) (by omega) hL d_law_252 ?_
    refine lv_aload_n hx hb d_law_253 rfl (lv_at hl 0 rfl) ?_
    refine lv_iload_n hx hb d_law_254 rfl (lv_at hl 3 rfl) ?_
    refine lv_iconst (v := zI 2) hx hb d_law_255 (by decide) ?_
    refine k_iadd hx hb d_law_256 rfl ?_
    refine k_sld hx hb hX hbl hbA hS (j := i + 2) (by omega) (by omega) hL d_law_257 ?_
    refine k_beIX (va_runV (As := [.int (zI (xz xs (i + 1))), .int (zI (xz xs (i + 2)))]) (rest := []) ⟨hx, hb, hml, hown, hts⟩ (c_Pm_begin_1 l D cI cR cG q n r (xz xs (i + 1)) (xz xs (i + 2)) (xz_sm _ _) (xz_sm _ _) hn h1 _) (cwV 2 hts (k_gVL ll_37 rfl kw_instanceMethod_Pm_begin kw_selects_Pm_begin kw_initialized_Pm kw_code_Pm_begin) rfl rfl rfl (by decide +kernel) ⟨(Nat.le_of_ble_eq_true rfl), (Nat.le_of_ble_eq_true rfl)⟩) (k_preVX (q0 := 0) hK hG hP hD [0, 2] rfl rfl rfl rfl) rfl rfl hl.1 rfl (lv_room (Nat.le_of_ble_eq_true rfl)) d_law_258 ⟨(Nat.le_of_ble_eq_true rfl), (Nat.le_of_ble_eq_true rfl)⟩) hP hD hS hA [0, 2] rfl (Eq.trans (b := [q 0, q 2]) rfl rfl) ?_
    clear hP hD hS; intro H locs hP hD hS
    replace hP : va_P D k_cl (lX cI cR cG q w ro gr t K fi sc nn of se n np r sd lm sf st pc tr fc cn t K of se n np kn ch le mf mt on ot nu G E0 mn ff pl ++ (k_pp cI ro en E ++ k_p3 cI gr Pl)) H := hP
    replace hD : va_D (fun q => s.heap.size ≤ q) (lX cI cR cG q w ro gr t K fi sc nn of se n np r sd lm sf st pc tr fc cn t K of se n np kn ch le mf mt on ot nu G E0 mn ff pl ++ (k_pp cI ro en E ++ k_p3 cI gr Pl)) := hD
    refine lv_aload_n hx hb d_law_261 rfl (lv_at hl 2 rfl) ?_
    refine lv_aload_n hx hb d_law_262 rfl (lv_at hl 0 rfl) ?_
    refine lv_iload_n hx hb d_law_263 rfl (lv_at hl 3 rfl) ?_
    refine lv_iconst (v := zI 1) hx hb d_law_264 (by decide) ?_
    refine k_iadd hx hb d_law_265 rfl ?_
    refine k_sld hx hb hX hbl hbA hS (j := i + 1) (by omega) (by omega) hL d_law_266 ?_
    refine lv_aload_n hx hb d_law_267 rfl (lv_at hl 0 rfl) ?_
    refine lv_iload_n hx hb d_law_268 rfl (lv_at hl 3 rfl) ?_
    refine lv_iconst (v := zI 2) hx hb d_law_269 (by decide) ?_
    refine k_iadd hx hb d_law_270 rfl ?_
    refine k_sld hx hb hX hbl hbA hS (j := i + 2) (by omega) (by omega) hL d_law_271 ?_
    refine k_beIX (va_runV (As := [.int (zI (xz xs (i + 1))), .int (zI (xz xs (i + 2)))]) (rest := [.int (zI (-1))]) ⟨hx, hb, hml, hown, hts⟩ (c_Mo_begin_1 l D cI cR cG w n np kn ch le mf mt (xz xs (i + 1)) (xz xs (i + 2)) (xz_sm _ _) (xz_sm _ _) hn h1 _) (cwV 2 hts (k_gVL ll_40 rfl kw_instanceMethod_Mo_begin kw_selects_Mo_begin kw_initialized_Mo kw_code_Mo_begin) rfl rfl rfl (by decide +kernel) ⟨(Nat.le_of_ble_eq_true rfl), (Nat.le_of_ble_eq_true rfl)⟩) (k_preVX (q0 := 0) hK hG hP hD [16] rfl rfl rfl rfl) rfl rfl hl.1 rfl (lv_room (Nat.le_of_ble_eq_true rfl)) d_law_272 ⟨(Nat.le_of_ble_eq_true rfl), (Nat.le_of_ble_eq_true rfl)⟩) hP hD hS hA [16] rfl (Eq.trans (b := [w 0]) rfl rfl) ?_
    clear hP hD hS; intro H locs hP hD hS
    replace hP : va_P D k_cl (lX cI cR cG q w ro gr t K fi sc nn of se n np r sd lm sf st pc tr fc cn t K of se n np kn ch le mf mt on ot nu G E0 mn ff pl ++ (k_pp cI ro en E ++ k_p3 cI gr Pl)) H := hP
    replace hD : va_D (fun q => s.heap.size ≤ q) (lX cI cR cG q w ro gr t K fi sc nn of se n np r sd lm sf st pc tr fc cn t K of se n np kn ch le mf mt on ot nu G E0 mn ff pl ++ (k_pp cI ro en E ++ k_p3 cI gr Pl)) := hD
    refine k_sameI (tgt := 501) hx hb d_law_275 (by decide) rfl ?_
    exact kk t K fi sc nn of se n np r sd lm sf st pc tr fc cn E Pl kn ch le mf mt on ot nu G E0 mn ff pl hI0 _ _ _ hP hD hS hl
set_option maxHeartbeats 4000000 in
set_option maxRecDepth 100000 in
theorem lc_end {p : Program} {e : Env} {s : State} {m : MethodId} {below : List Frame} {meth : Method} {c : Code} {Qf : State → Prop} (l : Launch) {b L : Nat} {xs : Nat → Int32} (hL : L ≤ 2560) (C0 : lw_At p s m meth c b L xs) {D : va_G} {cI cR cG : ClassId} (hK : va_K D k_cl (k_ty cI cR cG) s) (hG : k_G k_ns s) {q w ro en gr : Nat → Nat} {i : Nat} (hi : i + 5 ≤ L) (kk : lK p l e s m below meth c b Qf D cI cR cG q w ro en gr i 501) : lK p l e s m below meth c b Qf D cI cR cG q w ro en gr i 280 := by
  obtain ⟨hx, hb, hr, hml, hown, hts, hX, hbl, hlocks, -⟩ := C0
  intro t K fi sc nn of se n np r sd lm sf st pc tr fc cn E Pl kn ch le mf mt on ot nu G E0 mn ff pl hI H locs ls hP hD hS hl
  have hA : ∀ q, s.heap.size ≤ q → (fun q => s.heap.size ≤ q) q := fun _ h => h
  have hbA : ¬ (fun q => s.heap.size ≤ q) b := Nat.not_le.mpr hbl
  have hI0 := hI
  obtain ⟨⟨ht, hn, hok, hmo, hK0, hnu⟩, ⟨hE, hrn, hrows, hG0, hE0⟩, ⟨hnp, hof, hse⟩, ⟨hsd, hset, hph⟩, ⟨hkn, hpl, hgo, hkno⟩⟩ := hI
  by_cases h1 : 0 ≤ (xz xs (i + 1)) ∧ (xz xs (i + 1)) < ↑n
  · obtain ⟨u, hu⟩ := k_zero_le h1.1
    have hxn : u < n := by omega
    have hrs := row_same (G := G) (E0 := E0) hok hmo hxn hrn hrows
    have hru := rows_up hok hxn hrn hrows
    have hmf := mFA_le (t := t) (K := K) (fi := fi) (sc := sc) (nn := nn) (nu := nu) (c := u + 1) (k := 0) (S := (G, E0)) ⟨hG0, hE0⟩
    refine lv_aload_n hx hb d_law_280 rfl (lv_at hl 1 rfl) ?_
    refine lv_aload_n hx hb d_law_281 rfl (lv_at hl 0 rfl) ?_
    refine lv_iload_n hx hb d_law_282 rfl (lv_at hl 3 rfl) ?_
    refine lv_iconst (v := zI 1) hx hb d_law_283 (by decide) ?_
    refine k_iadd hx hb d_law_284 rfl ?_
    refine k_sld hx hb hX hbl hbA hS (j := i + 1) (by omega) (by omega) hL d_law_285 ?_
    refine lv_aload_n hx hb d_law_286 rfl (lv_at hl 0 rfl) ?_
    refine lv_iload_n hx hb d_law_287 rfl (lv_at hl 3 rfl) ?_
    refine lv_iconst (v := zI 2) hx hb d_law_288 (by decide) ?_
    refine k_iadd hx hb d_law_289 rfl ?_
    refine k_sld hx hb hX hbl hbA hS (j := i + 2) (by omega) (by omega) hL d_law_290 ?_
    refine k_stk (st2 := [.int (zI (xz xs (i + 2))), .int (zI ↑u), .ref (q 0)]) (by rw [hu]) ?_
    refine k_beIT (tn := k_pp cI ro en (rowsTo t K fi sc nn (u + 1 - r) r E)) (T1 := (k_pp cI ro en (rowsTo t K fi sc nn (u + 1 - r) r E) ++ k_p3 cI gr Pl)) (va_runV (As := [.int (zI ↑u), .int (zI (xz xs (i + 2)))]) (rest := []) ⟨hx, hb, hml, hown, hts⟩ (c_Pm_end_2 l D cI cR cG q n r u (xz xs (i + 2)) ro en K fi sc nn t E (xz_sm _ _) hxn hn hok ht hE (Nat.le_trans hrn hn) _) (cwV 2 hts (k_gVL ll_41 rfl kw_instanceMethod_Pm_end kw_selects_Pm_end kw_initialized_Pm kw_code_Pm_end) rfl rfl rfl (by decide +kernel) ⟨(Nat.le_of_ble_eq_true rfl), (Nat.le_of_ble_eq_true rfl)⟩) (k_preVT (tc := k_pp cI ro en E) (q0 := 0) hK hG hP hD [0, 1, 2, 3, 4, 5, 6, 7] rfl rfl (fun _ h => List.mem_append_left _ h) ((k_D_left (k_D_right hD)).weaken (fun _ _ _ _ => trivial)) rfl rfl) rfl rfl hl.1 rfl (lv_room (Nat.le_of_ble_eq_true rfl)) d_law_291 ⟨(Nat.le_of_ble_eq_true rfl), (Nat.le_of_ble_eq_true rfl)⟩) hP hD hS hA [0, 1, 2, 3, 4, 5, 6, 7] rfl (Eq.trans (b := [q 0, q 1, q 2, q 3, q 4, q 5, q 6, q 7]) rfl rfl) (fun _ h => List.mem_append_left _ h) (k_mapL k_pp_fst) (k_hU_l (k_D_right hD)) ?_
    clear hP hD hS; intro H locs hP hD hS
    replace hP : va_P D k_cl (lX cI cR cG q w ro gr t K fi sc nn of se n np (max r (u + 1)) sd lm sf st pc tr fc cn t K of se n np kn ch le mf mt on ot nu G E0 mn ff pl ++ (k_pp cI ro en (rowsTo t K fi sc nn (u + 1 - r) r E) ++ k_p3 cI gr Pl)) H := hP
    replace hD : va_D (fun q => s.heap.size ≤ q) (lX cI cR cG q w ro gr t K fi sc nn of se n np (max r (u + 1)) sd lm sf st pc tr fc cn t K of se n np kn ch le mf mt on ot nu G E0 mn ff pl ++ (k_pp cI ro en (rowsTo t K fi sc nn (u + 1 - r) r E) ++ k_p3 cI gr Pl)) := hD
    refine lv_aload_n hx hb d_law_294 rfl (lv_at hl 2 rfl) ?_
    refine lv_aload_n hx hb d_law_295 rfl (lv_at hl 0 rfl) ?_
    refine lv_iload_n hx hb d_law_296 rfl (lv_at hl 3 rfl) ?_
    refine lv_iconst (v := zI 1) hx hb d_law_297 (by decide) ?_
    refine k_iadd hx hb d_law_298 rfl ?_
    refine k_sld hx hb hX hbl hbA hS (j := i + 1) (by omega) (by omega) hL d_law_299 ?_
    refine lv_aload_n hx hb d_law_300 rfl (lv_at hl 0 rfl) ?_
    refine lv_iload_n hx hb d_law_301 rfl (lv_at hl 3 rfl) ?_
    refine lv_iconst (v := zI 2) hx hb d_law_302 (by decide) ?_
    refine k_iadd hx hb d_law_303 rfl ?_
    refine k_sld hx hb hX hbl hbA hS (j := i + 2) (by omega) (by omega) hL d_law_304 ?_
    refine k_stk (st2 := [.int (zI (xz xs (i + 2))), .int (zI ↑u), .ref (w 0), .int (zI (rEnd (rowsTo t K fi sc nn (u + 1 - r) r E u) (xz xs (i + 2))))]) (by rw [hu]) ?_
    refine k_beIX (va_runV (As := [.int (zI ↑u), .int (zI (xz xs (i + 2)))]) (rest := [.int (zI (rEnd (rowsTo t K fi sc nn (u + 1 - r) r E u) (xz xs (i + 2))))]) ⟨hx, hb, hml, hown, hts⟩ (c_Mo_end_2 l D cI cR cG w n np kn ch le mf mt u (xz xs (i + 2)) t K fi sc nn on ot nu G E0 (xz_sm _ _) hxn hn hok hmo hK0 hnu ht hG0 hE0 _) (cwV 2 hts (k_gVL ll_44 rfl kw_instanceMethod_Mo_end kw_selects_Mo_end kw_initialized_Mo kw_code_Mo_end) rfl rfl rfl (by decide +kernel) ⟨(Nat.le_of_ble_eq_true rfl), (Nat.le_of_ble_eq_true rfl)⟩) (k_preVX (q0 := 0) hK hG hP hD [16, 17, 18, 19, 20, 21, 24, 25] rfl rfl rfl rfl) rfl rfl hl.1 rfl (lv_room (Nat.le_of_ble_eq_true rfl)) d_law_305 ⟨(Nat.le_of_ble_eq_true rfl), (Nat.le_of_ble_eq_true rfl)⟩) hP hD hS hA [16, 17, 18, 19, 20, 21, 24, 25] rfl (Eq.trans (b := [w 0, w 1, w 2, w 3, w 4, w 5, w 8, w 9]) rfl rfl) ?_
    clear hP hD hS; intro H locs hP hD hS
    replace hP : va_P D k_cl (lX cI cR cG q w ro gr t K fi sc nn of se n np (max r (u + 1)) sd lm sf st pc tr fc cn t K of se n np kn ch le mf mt on ot nu ((mFA t K fi sc nn nu (u + 1) 0 (G, E0)).1) ((mFA t K fi sc nn nu (u + 1) 0 (G, E0)).2) mn ff pl ++ (k_pp cI ro en (rowsTo t K fi sc nn (u + 1 - r) r E) ++ k_p3 cI gr Pl)) H := hP
    replace hD : va_D (fun q => s.heap.size ≤ q) (lX cI cR cG q w ro gr t K fi sc nn of se n np (max r (u + 1)) sd lm sf st pc tr fc cn t K of se n np kn ch le mf mt on ot nu ((mFA t K fi sc nn nu (u + 1) 0 (G, E0)).1) ((mFA t K fi sc nn nu (u + 1) 0 (G, E0)).2) mn ff pl ++ (k_pp cI ro en (rowsTo t K fi sc nn (u + 1 - r) r E) ++ k_p3 cI gr Pl)) := hD
    refine k_sameI (tgt := 501) hx hb d_law_308 (by decide) (rEnd_congr (fun j hj => (hrs.1 j (by omega)).symm)) ?_
    exact kk t K fi sc nn of se n np (max r (u + 1)) sd lm sf st pc tr fc cn (rowsTo t K fi sc nn (u + 1 - r) r E) Pl kn ch le mf mt on ot nu ((mFA t K fi sc nn nu (u + 1) 0 (G, E0)).1) ((mFA t K fi sc nn nu (u + 1) 0 (G, E0)).2) mn ff pl ⟨⟨ht, hn, hok, hmo, hK0, hnu⟩, ⟨rowsTo_le hE, hru.1, hru.2, hmf.1, hmf.2⟩, ⟨hnp, hof, hse⟩, ⟨hsd, hset, hph⟩, ⟨hkn, hpl, hgo, hkno⟩⟩ _ _ _ hP hD hS hl
  · refine lv_aload_n hx hb d_law_280 rfl (lv_at hl 1 rfl) ?_
    refine lv_aload_n hx hb d_law_281 rfl (lv_at hl 0 rfl) ?_
    refine lv_iload_n hx hb d_law_282 rfl (lv_at hl 3 rfl) ?_
    refine lv_iconst (v := zI 1) hx hb d_law_283 (by decide) ?_
    refine k_iadd hx hb d_law_284 rfl ?_
    refine k_sld hx hb hX hbl hbA hS (j := i + 1) (by omega) (by omega) hL d_law_285 ?_
    refine lv_aload_n hx hb d_law_286 rfl (lv_at hl 0 rfl) ?_
    refine lv_iload_n hx hb d_law_287 rfl (lv_at hl 3 rfl) ?_
    refine lv_iconst (v := zI 2) hx hb d_law_288 (by decide) ?_
    refine k_iadd hx hb d_law_289 rfl ?_
    refine k_sld hx hb hX hbl hbA hS (j := i + 2) (by omega) (by omega) hL d_law_290 ?_
    refine k_beIX (va_runV (As := [.int (zI (xz xs (i + 1))), .int (zI (xz xs (i + 2)))]) (rest := []) ⟨hx, hb, hml, hown, hts⟩ (c_Pm_end_1 l D cI cR cG q n r (xz xs (i + 1)) (xz xs (i + 2)) (xz_sm _ _) (xz_sm _ _) hn h1 _) (cwV 2 hts (k_gVL ll_41 rfl kw_instanceMethod_Pm_end kw_selects_Pm_end kw_initialized_Pm kw_code_Pm_end) rfl rfl rfl (by decide +kernel) ⟨(Nat.le_of_ble_eq_true rfl), (Nat.le_of_ble_eq_true rfl)⟩) (k_preVX (q0 := 0) hK hG hP hD [0, 2] rfl rfl rfl rfl) rfl rfl hl.1 rfl (lv_room (Nat.le_of_ble_eq_true rfl)) d_law_291 ⟨(Nat.le_of_ble_eq_true rfl), (Nat.le_of_ble_eq_true rfl)⟩) hP hD hS hA [0, 2] rfl (Eq.trans (b := [q 0, q 2]) rfl rfl) ?_
    clear hP hD hS; intro H locs hP hD hS
    replace hP : va_P D k_cl (lX cI cR cG q w ro gr t K fi sc nn of se n np r sd lm sf st pc tr fc cn t K of se n np kn ch le mf mt on ot nu G E0 mn ff pl ++ (k_pp cI ro en E ++ k_p3 cI gr Pl)) H := hP
    replace hD : va_D (fun q => s.heap.size ≤ q) (lX cI cR cG q w ro gr t K fi sc nn of se n np r sd lm sf st pc tr fc cn t K of se n np kn ch le mf mt on ot nu G E0 mn ff pl ++ (k_pp cI ro en E ++ k_p3 cI gr Pl)) := hD
    refine lv_aload_n hx hb d_law_294 rfl (lv_at hl 2 rfl) ?_
    refine lv_aload_n hx hb d_law_295 rfl (lv_at hl 0 rfl) ?_
    refine lv_iload_n hx hb d_law_296 rfl (lv_at hl 3 rfl) ?_
    refine lv_iconst (v := zI 1) hx hb d_law_297 (by decide) ?_
    refine k_iadd hx hb d_law_298 rfl ?_
    refine k_sld hx hb hX hbl hbA hS (j := i + 1) (by omega) (by omega) hL d_law_299 ?_
    refine lv_aload_n hx hb d_law_300 rfl (lv_at hl 0 rfl) ?_
    refine lv_iload_n hx hb d_law_301 rfl (lv_at hl 3 rfl) ?_
    refine lv_iconst (v := zI 2) hx hb d_law_302 (by decide) ?_
    refine k_iadd hx hb d_law_303 rfl ?_
    refine k_sld hx hb hX hbl hbA hS (j := i + 2) (by omega) (by omega) hL d_law_304 ?_
    refine k_beIX (va_runV (As := [.int (zI (xz xs (i + 1))), .int (zI (xz xs (i + 2)))]) (rest := [.int (zI (-1))]) ⟨hx, hb, hml, hown, hts⟩ (c_Mo_end_1 l D cI cR cG w n np kn ch le mf mt (xz xs (i + 1)) (xz xs (i + 2)) (xz_sm _ _) (xz_sm _ _) hn h1 _) (cwV 2 hts (k_gVL ll_44 rfl kw_instanceMethod_Mo_end kw_selects_Mo_end kw_initialized_Mo kw_code_Mo_end) rfl rfl rfl (by decide +kernel) ⟨(Nat.le_of_ble_eq_true rfl), (Nat.le_of_ble_eq_true rfl)⟩) (k_preVX (q0 := 0) hK hG hP hD [16] rfl rfl rfl rfl) rfl rfl hl.1 rfl (lv_room (Nat.le_of_ble_eq_true rfl)) d_law_305 ⟨(Nat.le_of_ble_eq_true rfl), (Nat.le_of_ble_eq_true rfl)⟩) hP hD hS hA [16] rfl (Eq.trans (b := [w 0]) rfl rfl) ?_
    clear hP hD hS; intro H locs hP hD hS
    replace hP : va_P D k_cl (lX cI cR cG q w ro gr t K fi sc nn of se n np r sd lm sf st pc tr fc cn t K of se n np kn ch le mf mt on ot nu G E0 mn ff pl ++ (k_pp cI ro en E ++ k_p3 cI gr Pl)) H := hP
    replace hD : va_D (fun q => s.heap.size ≤ q) (lX cI cR cG q w ro gr t K fi sc nn of se n np r sd lm sf st pc tr fc cn t K of se n np kn ch le mf mt on ot nu G E0 mn ff pl ++ (k_pp cI ro en E ++ k_p3 cI gr Pl)) := hD
    refine k_sameI (tgt := 501) hx hb d_law_308 (by decide) rfl ?_
    exact kk t K fi sc nn of se n np r sd lm sf st pc tr fc cn E Pl kn ch le mf mt on ot nu G E0 mn ff pl hI0 _ _ _ hP hD hS hl
set_option maxHeartbeats 4000000 in
set_option maxRecDepth 100000 in
theorem lc_covered {p : Program} {e : Env} {s : State} {m : MethodId} {below : List Frame} {meth : Method} {c : Code} {Qf : State → Prop} (l : Launch) {b L : Nat} {xs : Nat → Int32} (hL : L ≤ 2560) (C0 : lw_At p s m meth c b L xs) {D : va_G} {cI cR cG : ClassId} (hK : va_K D k_cl (k_ty cI cR cG) s) (hG : k_G k_ns s) {q w ro en gr : Nat → Nat} {i : Nat} (hi : i + 5 ≤ L) (kk : lK p l e s m below meth c b Qf D cI cR cG q w ro en gr i 501) : lK p l e s m below meth c b Qf D cI cR cG q w ro en gr i 313 := by
  obtain ⟨hx, hb, hr, hml, hown, hts, hX, hbl, hlocks, -⟩ := C0
  intro t K fi sc nn of se n np r sd lm sf st pc tr fc cn E Pl kn ch le mf mt on ot nu G E0 mn ff pl hI H locs ls hP hD hS hl
  have hA : ∀ q, s.heap.size ≤ q → (fun q => s.heap.size ≤ q) q := fun _ h => h
  have hbA : ¬ (fun q => s.heap.size ≤ q) b := Nat.not_le.mpr hbl
  have hI0 := hI
  obtain ⟨⟨ht, hn, hok, hmo, hK0, hnu⟩, ⟨hE, hrn, hrows, hG0, hE0⟩, ⟨hnp, hof, hse⟩, ⟨hsd, hset, hph⟩, ⟨hkn, hpl, hgo, hkno⟩⟩ := hI
  by_cases h1 : 0 ≤ (xz xs (i + 1)) ∧ (xz xs (i + 1)) < ↑n
  · obtain ⟨u, hu⟩ := k_zero_le h1.1
    have hxn : u < n := by omega
    have hrs := row_same (G := G) (E0 := E0) hok hmo hxn hrn hrows
    have hru := rows_up hok hxn hrn hrows
    have hmf := mFA_le (t := t) (K := K) (fi := fi) (sc := sc) (nn := nn) (nu := nu) (c := u + 1) (k := 0) (S := (G, E0)) ⟨hG0, hE0⟩
    refine lv_aload_n hx hb d_law_313 rfl (lv_at hl 1 rfl) ?_
    refine lv_aload_n hx hb d_law_314 rfl (lv_at hl 0 rfl) ?_
    refine lv_iload_n hx hb d_law_315 rfl (lv_at hl 3 rfl) ?_
    refine lv_iconst (v := zI 1) hx hb d_law_316 (by decide) ?_
    refine k_iadd hx hb d_law_317 rfl ?_
    refine k_sld hx hb hX hbl hbA hS (j := i + 1) (by omega) (by omega) hL d_law_318 ?_
    refine k_stk (st2 := [.int (zI ↑u), .ref (q 0)]) (by rw [hu]) ?_
    refine k_beIT (tn := k_pp cI ro en (rowsTo t K fi sc nn (u + 1 - r) r E)) (T1 := (k_pp cI ro en (rowsTo t K fi sc nn (u + 1 - r) r E) ++ k_p3 cI gr Pl)) (va_runV (As := [.int (zI ↑u)]) (rest := []) ⟨hx, hb, hml, hown, hts⟩ (c_Pm_covered_2 l D cI cR cG q n r u ro en K fi sc nn t E hxn hn hok ht hE (Nat.le_trans hrn hn) _) (cwV 1 hts (k_gVL ll_45 rfl kw_instanceMethod_Pm_covered kw_selects_Pm_covered kw_initialized_Pm kw_code_Pm_covered) rfl rfl rfl (by decide +kernel) ⟨(Nat.le_of_ble_eq_true rfl), (Nat.le_of_ble_eq_true rfl)⟩) (k_preVT (tc := k_pp cI ro en E) (q0 := 0) hK hG hP hD [0, 1, 2, 3, 4, 5, 6, 7] rfl rfl (fun _ h => List.mem_append_left _ h) ((k_D_left (k_D_right hD)).weaken (fun _ _ _ _ => trivial)) rfl rfl) rfl rfl hl.1 rfl (lv_room (Nat.le_of_ble_eq_true rfl)) d_law_319 ⟨(Nat.le_of_ble_eq_true rfl), (Nat.le_of_ble_eq_true rfl)⟩) hP hD hS hA [0, 1, 2, 3, 4, 5, 6, 7] rfl (Eq.trans (b := [q 0, q 1, q 2, q 3, q 4, q 5, q 6, q 7]) rfl rfl) (fun _ h => List.mem_append_left _ h) (k_mapL k_pp_fst) (k_hU_l (k_D_right hD)) ?_
    clear hP hD hS; intro H locs hP hD hS
    replace hP : va_P D k_cl (lX cI cR cG q w ro gr t K fi sc nn of se n np (max r (u + 1)) sd lm sf st pc tr fc cn t K of se n np kn ch le mf mt on ot nu G E0 mn ff pl ++ (k_pp cI ro en (rowsTo t K fi sc nn (u + 1 - r) r E) ++ k_p3 cI gr Pl)) H := hP
    replace hD : va_D (fun q => s.heap.size ≤ q) (lX cI cR cG q w ro gr t K fi sc nn of se n np (max r (u + 1)) sd lm sf st pc tr fc cn t K of se n np kn ch le mf mt on ot nu G E0 mn ff pl ++ (k_pp cI ro en (rowsTo t K fi sc nn (u + 1 - r) r E) ++ k_p3 cI gr Pl)) := hD
    refine lv_aload_n hx hb d_law_322 rfl (lv_at hl 2 rfl) ?_
    refine lv_aload_n hx hb d_law_323 rfl (lv_at hl 0 rfl) ?_
    refine lv_iload_n hx hb d_law_324 rfl (lv_at hl 3 rfl) ?_
    refine lv_iconst (v := zI 1) hx hb d_law_325 (by decide) ?_
    refine k_iadd hx hb d_law_326 rfl ?_
    refine k_sld hx hb hX hbl hbA hS (j := i + 1) (by omega) (by omega) hL d_law_327 ?_
    refine k_stk (st2 := [.int (zI ↑u), .ref (w 0), .int (zI (rCov (rowsTo t K fi sc nn (u + 1 - r) r E u) 30 0 0 (-1)))]) (by rw [hu]) ?_
    refine k_beIX (va_runV (As := [.int (zI ↑u)]) (rest := [.int (zI (rCov (rowsTo t K fi sc nn (u + 1 - r) r E u) 30 0 0 (-1)))]) ⟨hx, hb, hml, hown, hts⟩ (c_Mo_covered_2 l D cI cR cG w n np kn ch le mf mt u t K fi sc nn on ot nu G E0 hxn hn hok hmo hK0 hnu ht hG0 hE0 _) (cwV 1 hts (k_gVL ll_48 rfl kw_instanceMethod_Mo_covered kw_selects_Mo_covered kw_initialized_Mo kw_code_Mo_covered) rfl rfl rfl (by decide +kernel) ⟨(Nat.le_of_ble_eq_true rfl), (Nat.le_of_ble_eq_true rfl)⟩) (k_preVX (q0 := 0) hK hG hP hD [16, 17, 18, 19, 20, 21, 24, 25] rfl rfl rfl rfl) rfl rfl hl.1 rfl (lv_room (Nat.le_of_ble_eq_true rfl)) d_law_328 ⟨(Nat.le_of_ble_eq_true rfl), (Nat.le_of_ble_eq_true rfl)⟩) hP hD hS hA [16, 17, 18, 19, 20, 21, 24, 25] rfl (Eq.trans (b := [w 0, w 1, w 2, w 3, w 4, w 5, w 8, w 9]) rfl rfl) ?_
    clear hP hD hS; intro H locs hP hD hS
    replace hP : va_P D k_cl (lX cI cR cG q w ro gr t K fi sc nn of se n np (max r (u + 1)) sd lm sf st pc tr fc cn t K of se n np kn ch le mf mt on ot nu ((mFA t K fi sc nn nu (u + 1) 0 (G, E0)).1) ((mFA t K fi sc nn nu (u + 1) 0 (G, E0)).2) mn ff pl ++ (k_pp cI ro en (rowsTo t K fi sc nn (u + 1 - r) r E) ++ k_p3 cI gr Pl)) H := hP
    replace hD : va_D (fun q => s.heap.size ≤ q) (lX cI cR cG q w ro gr t K fi sc nn of se n np (max r (u + 1)) sd lm sf st pc tr fc cn t K of se n np kn ch le mf mt on ot nu ((mFA t K fi sc nn nu (u + 1) 0 (G, E0)).1) ((mFA t K fi sc nn nu (u + 1) 0 (G, E0)).2) mn ff pl ++ (k_pp cI ro en (rowsTo t K fi sc nn (u + 1 - r) r E) ++ k_p3 cI gr Pl)) := hD
    refine k_sameI (tgt := 501) hx hb d_law_331 (by decide) ((cov_same hrs.2).trans (congrArg (fun z : Nat => (z : Int)) (mCov_congr (fun j hj => (hrs.1 j (by omega)).symm) 30 0 0 (by omega)))) ?_
    exact kk t K fi sc nn of se n np (max r (u + 1)) sd lm sf st pc tr fc cn (rowsTo t K fi sc nn (u + 1 - r) r E) Pl kn ch le mf mt on ot nu ((mFA t K fi sc nn nu (u + 1) 0 (G, E0)).1) ((mFA t K fi sc nn nu (u + 1) 0 (G, E0)).2) mn ff pl ⟨⟨ht, hn, hok, hmo, hK0, hnu⟩, ⟨rowsTo_le hE, hru.1, hru.2, hmf.1, hmf.2⟩, ⟨hnp, hof, hse⟩, ⟨hsd, hset, hph⟩, ⟨hkn, hpl, hgo, hkno⟩⟩ _ _ _ hP hD hS hl
  · refine lv_aload_n hx hb d_law_313 rfl (lv_at hl 1 rfl) ?_
    refine lv_aload_n hx hb d_law_314 rfl (lv_at hl 0 rfl) ?_
    refine lv_iload_n hx hb d_law_315 rfl (lv_at hl 3 rfl) ?_
    refine lv_iconst (v := zI 1) hx hb d_law_316 (by decide) ?_
    refine k_iadd hx hb d_law_317 rfl ?_
    refine k_sld hx hb hX hbl hbA hS (j := i + 1) (by omega) (by omega) hL d_law_318 ?_
    refine k_beIX (va_runV (As := [.int (zI (xz xs (i + 1)))]) (rest := []) ⟨hx, hb, hml, hown, hts⟩ (c_Pm_covered_1 l D cI cR cG q n r (xz xs (i + 1)) (xz_sm _ _) hn h1 _) (cwV 1 hts (k_gVL ll_45 rfl kw_instanceMethod_Pm_covered kw_selects_Pm_covered kw_initialized_Pm kw_code_Pm_covered) rfl rfl rfl (by decide +kernel) ⟨(Nat.le_of_ble_eq_true rfl), (Nat.le_of_ble_eq_true rfl)⟩) (k_preVX (q0 := 0) hK hG hP hD [0, 2] rfl rfl rfl rfl) rfl rfl hl.1 rfl (lv_room (Nat.le_of_ble_eq_true rfl)) d_law_319 ⟨(Nat.le_of_ble_eq_true rfl), (Nat.le_of_ble_eq_true rfl)⟩) hP hD hS hA [0, 2] rfl (Eq.trans (b := [q 0, q 2]) rfl rfl) ?_
    clear hP hD hS; intro H locs hP hD hS
    replace hP : va_P D k_cl (lX cI cR cG q w ro gr t K fi sc nn of se n np r sd lm sf st pc tr fc cn t K of se n np kn ch le mf mt on ot nu G E0 mn ff pl ++ (k_pp cI ro en E ++ k_p3 cI gr Pl)) H := hP
    replace hD : va_D (fun q => s.heap.size ≤ q) (lX cI cR cG q w ro gr t K fi sc nn of se n np r sd lm sf st pc tr fc cn t K of se n np kn ch le mf mt on ot nu G E0 mn ff pl ++ (k_pp cI ro en E ++ k_p3 cI gr Pl)) := hD
    refine lv_aload_n hx hb d_law_322 rfl (lv_at hl 2 rfl) ?_
    refine lv_aload_n hx hb d_law_323 rfl (lv_at hl 0 rfl) ?_
    refine lv_iload_n hx hb d_law_324 rfl (lv_at hl 3 rfl) ?_
    refine lv_iconst (v := zI 1) hx hb d_law_325 (by decide) ?_
    refine k_iadd hx hb d_law_326 rfl ?_
    refine k_sld hx hb hX hbl hbA hS (j := i + 1) (by omega) (by omega) hL d_law_327 ?_
    refine k_beIX (va_runV (As := [.int (zI (xz xs (i + 1)))]) (rest := [.int (zI (-1))]) ⟨hx, hb, hml, hown, hts⟩ (c_Mo_covered_1 l D cI cR cG w n np kn ch le mf mt (xz xs (i + 1)) (xz_sm _ _) hn h1 _) (cwV 1 hts (k_gVL ll_48 rfl kw_instanceMethod_Mo_covered kw_selects_Mo_covered kw_initialized_Mo kw_code_Mo_covered) rfl rfl rfl (by decide +kernel) ⟨(Nat.le_of_ble_eq_true rfl), (Nat.le_of_ble_eq_true rfl)⟩) (k_preVX (q0 := 0) hK hG hP hD [16] rfl rfl rfl rfl) rfl rfl hl.1 rfl (lv_room (Nat.le_of_ble_eq_true rfl)) d_law_328 ⟨(Nat.le_of_ble_eq_true rfl), (Nat.le_of_ble_eq_true rfl)⟩) hP hD hS hA [16] rfl (Eq.trans (b := [w 0]) rfl rfl) ?_
    clear hP hD hS; intro H locs hP hD hS
    replace hP : va_P D k_cl (lX cI cR cG q w ro gr t K fi sc nn of se n np r sd lm sf st pc tr fc cn t K of se n np kn ch le mf mt on ot nu G E0 mn ff pl ++ (k_pp cI ro en E ++ k_p3 cI gr Pl)) H := hP
    replace hD : va_D (fun q => s.heap.size ≤ q) (lX cI cR cG q w ro gr t K fi sc nn of se n np r sd lm sf st pc tr fc cn t K of se n np kn ch le mf mt on ot nu G E0 mn ff pl ++ (k_pp cI ro en E ++ k_p3 cI gr Pl)) := hD
    refine k_sameI (tgt := 501) hx hb d_law_331 (by decide) rfl ?_
    exact kk t K fi sc nn of se n np r sd lm sf st pc tr fc cn E Pl kn ch le mf mt on ot nu G E0 mn ff pl hI0 _ _ _ hP hD hS hl
