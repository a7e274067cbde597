def lX (cI cR cG : ClassId) (q w ro gr : Nat → Nat) (t : Nat → Nat) (K : Nat → Nat) (fi : Nat → Nat) (sc : Nat → Nat) (nn : Nat → Nat) (of : Nat → Nat) (se : Nat → Nat) (n : Nat) (np : Nat) (r : Nat) (sd : Nat) (lm : Nat) (sf : Int) (st : Int) (pc : Nat → Nat) (tr : Nat → Nat) (fc : Nat → Nat) (cn : Nat → Nat) (tM : Nat → Nat) (KM : Nat → Nat) (oM : Nat → Nat) (sM : Nat → Nat) (nM : Nat) (pM : Nat) (kn : Nat) (ch : Nat) (le : Int) (mf : Int) (mt : Int) (on : Nat → Int) (ot : Nat → Int) (nu : Nat → Int) (G : Nat → Nat) (E0 : Nat → Nat) (mn : Nat → Nat) (ff : Nat → Int) (pl : Nat → Int) : va_W := [(q 0, .inr (3, [.ref (q 1), .ref (q 2), .ref (q 8)])), (q 1, .inl (cI, 30, .inl (kA t))), (q 2, .inr (0, [.ref (q 3), .ref (q 4), .ref (q 5), .ref (q 6), .ref (q 7), .int (zI ↑n), .int (zI ↑r)])), (q 3, .inl (cI, 30, .inl (kA K))), (q 4, .inl (cI, 30, .inl (kA fi))), (q 5, .inl (cI, 30, .inl (kA sc))), (q 6, .inl (cI, 30, .inl (kA nn))), (q 7, .inl (cR, 30, .inr (.inr (.inr (.inr (fun i => some (ro i))))))), (q 8, .inr (1, [.ref (q 9), .ref (q 10), .int (zI ↑np), .int (zI ↑sd), .ref (q 11), .ref (q 12), .ref (q 13), .ref (q 14), .ref (q 15), .int (zI ↑lm), .int (zI sf), .int (zI st)])), (q 9, .inl (cI, 4, .inl (kA of))), (q 10, .inl (cI, 4, .inl (kA se))), (q 11, .inl (cG, 4, .inr (.inr (.inr (.inr (fun i => some (gr i))))))), (q 12, .inl (cI, 4, .inl (kA pc))), (q 13, .inl (cI, 4, .inl (kA tr))), (q 14, .inl (cI, 4, .inl (kA fc))), (q 15, .inl (cI, 77, .inl (kA cn))), (w 0, .inr (4, [.ref (w 1), .int (zI ↑nM), .ref (w 2), .ref (w 3), .ref (w 4), .ref (w 5), .int (zI ↑pM), .ref (w 6), .ref (w 7), .int (zI ↑kn), .ref (w 8), .ref (w 9), .ref (w 10), .int (zI ↑ch), .int (zI le), .ref (w 11), .int (zI mf), .int (zI mt), .ref (w 12)])), (w 1, .inl (cI, 30, .inl (kA tM))), (w 2, .inl (cI, 30, .inl (kA KM))), (w 3, .inl (cI, 30, .inl (kZ on))), (w 4, .inl (cI, 30, .inl (kZ ot))), (w 5, .inl (cI, 30, .inl (kZ nu))), (w 6, .inl (cI, 4, .inl (kA oM))), (w 7, .inl (cI, 4, .inl (kA sM))), (w 8, .inl (cI, 900, .inl (kM G))), (w 9, .inl (cI, 30, .inl (kM E0))), (w 10, .inl (cI, 200, .inl (kA mn))), (w 11, .inl (cI, 4, .inl (kZ ff))), (w 12, .inl (cI, 4, .inl (kZ pl)))]
def lK (p : Program) (l : Launch) (e : Env) (s : State) (m : MethodId) (below : List Frame) (meth : Method) (c : Code) (b : Nat) (Qf : State → Prop) (D : va_G) (cI cR cG : ClassId) (q w ro en gr : Nat → Nat) (i PC : Nat) : Prop := ∀ (t K fi sc nn of se : Nat → Nat) (n np r sd lm : Nat) (sf st : Int) (pc tr fc cn : Nat → Nat) (E Pl : Nat → Nat → Nat) (kn ch : Nat) (le mf mt : Int) (on ot nu : Nat → Int) (G E0 mn : Nat → Nat) (ff pl : Nat → Int), LI t K fi sc nn of se n np r sd lm sf st pc tr fc cn E Pl kn ch le mf mt on ot nu G E0 mn ff pl → ∀ (H : Heap) (locs : List Loc) (ls : Array Slot), va_P D k_cl (lX cI cR cG q w ro gr t K fi sc nn of se n np r sd lm sf st pc tr fc cn t K of se n np kn ch le mf mt on ot nu G E0 mn ff pl ++ (k_pp cI ro en E ++ k_p3 cI gr Pl)) H → va_D (fun q => s.heap.size ≤ q) (lX cI cR cG q w ro gr t K fi sc nn of se n np r sd lm sf st pc tr fc cn t K of se n np kn ch le mf mt on ot nu G E0 mn ff pl ++ (k_pp cI ro en E ++ k_p3 cI gr Pl)) → va_S (fun q => s.heap.size ≤ q) s.heap H locs → lv_has ls 4 [(0, .ref b), (1, .ref (q 0)), (2, .ref (w 0)), (3, .int (zI ↑i))] → W p l e room_1 s m #[Value.ref b] below meth c H locs 600000 7302250 Qf (F0 m PC ls [])
theorem k_mapL {P P' Q : va_W} (h : P'.map (·.1) = P.map (·.1)) : (P' ++ Q).map (·.1) = (P ++ Q).map (·.1) := by rw [List.map_append, List.map_append, h]
theorem k_mapR {P Q Q' : va_W} (h : Q'.map (·.1) = Q.map (·.1)) : (P ++ Q').map (·.1) = (P ++ Q).map (·.1) := by rw [List.map_append, List.map_append, h]
section KLX
variable {p : Program} {l : Launch} {e : Env} {R : Room} {s : State} {m : MethodId} {args : Array Value} {below : List Frame} {meth : Method} {c : Code} {H : Heap} {locs : List Loc} {cells slots : Nat} {Q : State → Prop}
variable {cc : ByteArray} {pc : Nat} {ls : Array Slot} {rest : List Value} {D : va_G} {cl : List vw_C} {A : Nat → Prop} {a : Nat} {tys : List (ClassId × FieldType)} {X T px nx : va_W} {H0 : Heap}
theorem k_preVX {C : String} {b ci q0 : Nat} {As fs : List Value} {Tq : u_T} {Nq : Nat} (hK : va_K D cl tys s) (hG : k_G k_ns s) (hP : va_P D cl (X ++ T) H) (hD : va_D A (X ++ T)) (is : List Nat) (hC : is.map (fun i => X[i]?) = px.map some) (hni : va_nd is = true) (hq : cl[ci]? = some (C, Tq, Nq)) (he : px[q0]? = some (b, .inr (ci, fs))) : PreV s H C b (va_Pc (.ref b :: As) (k_In D cl tys px H.size)) As := by
  have h := k_preVT (tc := []) (As := As) hK hG hP hD is hC hni k_noT k_noD hq (by rw [List.append_nil]; exact he)
  rw [List.append_nil] at h
  exact h
theorem k_beIX {rr : Int32} {aa : Array Value} {st0 : List Value} (hr : va_Run p l e R s m args below meth c H locs cells slots 0 0 (F0 m pc ls st0) rest (k_Qi D cl rr nx (va_A px H.size) aa) (va_A px H.size)) (hP : va_P D cl (X ++ T) H) (hD : va_D A (X ++ T)) (hS : va_S A H0 H locs) (hA : ∀ q, H0.size ≤ q → A q) (is : List Nat) (hC : is.map (fun i => X[i]?) = px.map some) (hE : nx.map (·.1) = px.map (·.1))
    (kk : ∀ (H1 : Heap) (locs1 : List Loc), va_P D cl (k_put X is nx ++ T) H1 → va_D A (k_put X is nx ++ T) → va_S A H0 H1 locs1 → W p l e R s m args below meth c H1 locs1 cells slots Q (F0 m (pc + 3) ls (.int rr :: rest))) : W p l e R s m args below meth c H locs cells slots Q (F0 m pc ls st0) :=
  k_beIT (nx := nx) (tn := []) (T1 := T) (px := px) (tc := []) (by rw [List.append_nil, List.append_nil]; exact hr) hP hD hS hA is hC hE k_noT rfl k_noU kk
theorem k_beLX {rr : Int64} {aa : Array Value} {st0 : List Value} (hr : va_Run p l e R s m args below meth c H locs cells slots 0 0 (F0 m pc ls st0) rest (k_Ql D cl rr nx (va_A px H.size) aa) (va_A px H.size)) (hP : va_P D cl (X ++ T) H) (hD : va_D A (X ++ T)) (hS : va_S A H0 H locs) (hA : ∀ q, H0.size ≤ q → A q) (is : List Nat) (hC : is.map (fun i => X[i]?) = px.map some) (hE : nx.map (·.1) = px.map (·.1))
    (kk : ∀ (H1 : Heap) (locs1 : List Loc), va_P D cl (k_put X is nx ++ T) H1 → va_D A (k_put X is nx ++ T) → va_S A H0 H1 locs1 → W p l e R s m args below meth c H1 locs1 cells slots Q (F0 m (pc + 3) ls (.long rr :: rest))) : W p l e R s m args below meth c H locs cells slots Q (F0 m pc ls st0) :=
  k_beLT (nx := nx) (tn := []) (T1 := T) (px := px) (tc := []) (by rw [List.append_nil, List.append_nil]; exact hr) hP hD hS hA is hC hE k_noT rfl k_noU kk
end KLX

set_option maxHeartbeats 4000000 in
set_option maxRecDepth 100000 in
theorem lc_put {p : Program} {e : Env} {s : State} {m : MethodId} {below : List Frame} {meth : Method} {c : Code} {Qf : State → Prop} (l : Launch) {b L : Nat} {xs : Nat → Int32} (hL : L ≤ 2560) (C0 : lw_At p s m meth c b L xs) {D : va_G} {cI cR cG : ClassId} (hK : va_K D k_cl (k_ty cI cR cG) s) (hG : k_G k_ns s) {q w ro en gr : Nat → Nat} {i : Nat} (hi : i + 5 ≤ L) (kk : lK p l e s m below meth c b Qf D cI cR cG q w ro en gr i 501) : lK p l e s m below meth c b Qf D cI cR cG q w ro en gr i 112 := by
  obtain ⟨hx, hb, hr, hml, hown, hts, hX, hbl, hlocks, -⟩ := C0
  intro t K fi sc nn of se n np r sd lm sf st pc tr fc cn E Pl kn ch le mf mt on ot nu G E0 mn ff pl hI H locs ls hP hD hS hl
  have hA : ∀ q, s.heap.size ≤ q → (fun q => s.heap.size ≤ q) q := fun _ h => h
  have hbA : ¬ (fun q => s.heap.size ≤ q) b := Nat.not_le.mpr hbl
  have hI0 := hI
  obtain ⟨⟨ht, hn, hok, hmo, hK0, hnu⟩, ⟨hE, hrn, hrows, hG0, hE0⟩, ⟨hnp, hof, hse⟩, ⟨hsd, hset, hph⟩, ⟨hkn, hpl, hgo, hkno⟩⟩ := hI
  by_cases h1 : 0 ≤ (xz xs (i + 1)) ∧ (xz xs (i + 1)) < 30
  · by_cases h2 : 0 ≤ (xz xs (i + 2)) ∧ (xz xs (i + 2)) ≤ 1023
    · obtain ⟨u, hu⟩ := k_zero_le h1.1
      obtain ⟨v, hv⟩ := k_zero_le h2.1
      refine lv_aload_n hx hb d_law_112 rfl (lv_at hl 1 rfl) ?_
      refine lv_aload_n hx hb d_law_113 rfl (lv_at hl 0 rfl) ?_
      refine lv_iload_n hx hb d_law_114 rfl (lv_at hl 3 rfl) ?_
      refine lv_iconst (v := zI 1) hx hb d_law_115 (by decide) ?_
      refine k_iadd hx hb d_law_116 rfl ?_
      refine k_sld hx hb hX hbl hbA hS (j := i + 1) (by omega) (by omega) hL d_law_117 ?_
      refine lv_aload_n hx hb d_law_118 rfl (lv_at hl 0 rfl) ?_
      refine lv_iload_n hx hb d_law_119 rfl (lv_at hl 3 rfl) ?_
      refine lv_iconst (v := zI 2) hx hb d_law_120 (by decide) ?_
      refine k_iadd hx hb d_law_121 rfl ?_
      refine k_sld hx hb hX hbl hbA hS (j := i + 2) (by omega) (by omega) hL d_law_122 ?_
      refine k_stk (st2 := [.int (zI ↑v), .int (zI ↑u), .ref (q 0)]) (by rw [hu, hv]) ?_
      refine k_beIX (va_runV (As := [.int (zI ↑u), .int (zI ↑v)]) (rest := []) ⟨hx, hb, hml, hown, hts⟩ (c_Pm_put_3 l D cI cR cG q n r np sd lm sf st t u v (by omega) (by omega) _) (cwV 2 hts (k_gVL ll_13 rfl kw_instanceMethod_Pm_put kw_selects_Pm_put kw_initialized_Pm kw_code_Pm_put) rfl rfl rfl (by decide +kernel) ⟨(Nat.le_of_ble_eq_true rfl), (Nat.le_of_ble_eq_true rfl)⟩) (k_preVX (q0 := 0) hK hG hP hD [0, 1, 2, 8] rfl rfl rfl rfl) rfl rfl hl.1 rfl (lv_room (Nat.le_of_ble_eq_true rfl)) d_law_123 ⟨(Nat.le_of_ble_eq_true rfl), (Nat.le_of_ble_eq_true rfl)⟩) hP hD hS hA [0, 1, 2, 8] rfl (Eq.trans (b := [q 0, q 1, q 2, q 8]) rfl rfl) ?_
      clear hP hD hS; intro H locs hP hD hS
      replace hP : va_P D k_cl (lX cI cR cG q w ro gr (va_up t u v) K fi sc nn of se n np 0 0 lm sf st pc tr fc cn t K of se n np kn ch le mf mt on ot nu G E0 mn ff pl ++ (k_pp cI ro en E ++ k_p3 cI gr Pl)) H := hP
      replace hD : va_D (fun q => s.heap.size ≤ q) (lX cI cR cG q w ro gr (va_up t u v) K fi sc nn of se n np 0 0 lm sf st pc tr fc cn t K of se n np kn ch le mf mt on ot nu G E0 mn ff pl ++ (k_pp cI ro en E ++ k_p3 cI gr Pl)) := hD
      refine lv_aload_n hx hb d_law_126 rfl (lv_at hl 2 rfl) ?_
      refine lv_aload_n hx hb d_law_127 rfl (lv_at hl 0 rfl) ?_
      refine lv_iload_n hx hb d_law_128 rfl (lv_at hl 3 rfl) ?_
      refine lv_iconst (v := zI 1) hx hb d_law_129 (by decide) ?_
      refine k_iadd hx hb d_law_130 rfl ?_
      refine k_sld hx hb hX hbl hbA hS (j := i + 1) (by omega) (by omega) hL d_law_131 ?_
      refine lv_aload_n hx hb d_law_132 rfl (lv_at hl 0 rfl) ?_
      refine lv_iload_n hx hb d_law_133 rfl (lv_at hl 3 rfl) ?_
      refine lv_iconst (v := zI 2) hx hb d_law_134 (by decide) ?_
      refine k_iadd hx hb d_law_135 rfl ?_
      refine k_sld hx hb hX hbl hbA hS (j := i + 2) (by omega) (by omega) hL d_law_136 ?_
      refine k_stk (st2 := [.int (zI ↑v), .int (zI ↑u), .ref (w 0), .int (zI (↑(t u)))]) (by rw [hu, hv]) ?_
      refine k_beIX (va_runV (As := [.int (zI ↑u), .int (zI ↑v)]) (rest := [.int (zI (↑(t u)))]) ⟨hx, hb, hml, hown, hts⟩ (c_Mo_put_3 l D cI cR cG w n np kn ch le mf mt t u v (by omega) (by omega) _) (cwV 2 hts (k_gVL ll_17 rfl kw_instanceMethod_Mo_put kw_selects_Mo_put kw_initialized_Mo kw_code_Mo_put) rfl rfl rfl (by decide +kernel) ⟨(Nat.le_of_ble_eq_true rfl), (Nat.le_of_ble_eq_true rfl)⟩) (k_preVX (q0 := 0) hK hG hP hD [16, 17] rfl rfl rfl rfl) rfl rfl hl.1 rfl (lv_room (Nat.le_of_ble_eq_true rfl)) d_law_137 ⟨(Nat.le_of_ble_eq_true rfl), (Nat.le_of_ble_eq_true rfl)⟩) hP hD hS hA [16, 17] rfl (Eq.trans (b := [w 0, w 1]) rfl rfl) ?_
      clear hP hD hS; intro H locs hP hD hS
      replace hP : va_P D k_cl (lX cI cR cG q w ro gr (va_up t u v) K fi sc nn of se n np 0 0 lm sf st pc tr fc cn (va_up t u v) K of se n np 0 ch le mf mt on ot nu G E0 mn ff pl ++ (k_pp cI ro en E ++ k_p3 cI gr Pl)) H := hP
      replace hD : va_D (fun q => s.heap.size ≤ q) (lX cI cR cG q w ro gr (va_up t u v) K fi sc nn of se n np 0 0 lm sf st pc tr fc cn (va_up t u v) K of se n np 0 ch le mf mt on ot nu G E0 mn ff pl ++ (k_pp cI ro en E ++ k_p3 cI gr Pl)) := hD
      refine k_sameI (tgt := 501) hx hb d_law_140 (by decide) rfl ?_
      exact kk (va_up t u v) K fi sc nn of se n np 0 0 lm sf st pc tr fc cn E Pl 0 ch le mf mt on ot nu G E0 mn ff pl ⟨⟨k_upB ht (by omega), hn, hok, hmo, hK0, hnu⟩, ⟨hE, Nat.zero_le _, isRows0, hG0, hE0⟩, ⟨hnp, hof, hse⟩, ⟨Nat.zero_le _, hset, ph0⟩, ⟨Nat.zero_le _, hpl, hgo, kn0⟩⟩ _ _ _ hP hD hS hl
    · refine lv_aload_n hx hb d_law_112 rfl (lv_at hl 1 rfl) ?_
      refine lv_aload_n hx hb d_law_113 rfl (lv_at hl 0 rfl) ?_
      refine lv_iload_n hx hb d_law_114 rfl (lv_at hl 3 rfl) ?_
      refine lv_iconst (v := zI 1) hx hb d_law_115 (by decide) ?_
      refine k_iadd hx hb d_law_116 rfl ?_
      refine k_sld hx hb hX hbl hbA hS (j := i + 1) (by omega) (by omega) hL d_law_117 ?_
      refine lv_aload_n hx hb d_law_118 rfl (lv_at hl 0 rfl) ?_
      refine lv_iload_n hx hb d_law_119 rfl (lv_at hl 3 rfl) ?_
      refine lv_iconst (v := zI 2) hx hb d_law_120 (by decide) ?_
      refine k_iadd hx hb d_law_121 rfl ?_
      refine k_sld hx hb hX hbl hbA hS (j := i + 2) (by omega) (by omega) hL d_law_122 ?_
      refine k_beIX (va_runV (As := [.int (zI (xz xs (i + 1))), .int (zI (xz xs (i + 2)))]) (rest := []) ⟨hx, hb, hml, hown, hts⟩ (c_Pm_put_2 l D cI cR cG q (xz xs (i + 1)) (xz xs (i + 2)) (xz_sm _ _) (xz_sm _ _) h1 h2 _) (cwV 2 hts (k_gVL ll_13 rfl kw_instanceMethod_Pm_put kw_selects_Pm_put kw_initialized_Pm kw_code_Pm_put) rfl rfl rfl (by decide +kernel) ⟨(Nat.le_of_ble_eq_true rfl), (Nat.le_of_ble_eq_true rfl)⟩) (k_preVX (q0 := 0) hK hG hP hD [0] rfl rfl rfl rfl) rfl rfl hl.1 rfl (lv_room (Nat.le_of_ble_eq_true rfl)) d_law_123 ⟨(Nat.le_of_ble_eq_true rfl), (Nat.le_of_ble_eq_true rfl)⟩) hP hD hS hA [0] rfl (Eq.trans (b := [q 0]) rfl rfl) ?_
      clear hP hD hS; intro H locs hP hD hS
      replace hP : va_P D k_cl (lX cI cR cG q w ro gr t K fi sc nn of se n np r sd lm sf st pc tr fc cn t K of se n np kn ch le mf mt on ot nu G E0 mn ff pl ++ (k_pp cI ro en E ++ k_p3 cI gr Pl)) H := hP
      replace hD : va_D (fun q => s.heap.size ≤ q) (lX cI cR cG q w ro gr t K fi sc nn of se n np r sd lm sf st pc tr fc cn t K of se n np kn ch le mf mt on ot nu G E0 mn ff pl ++ (k_pp cI ro en E ++ k_p3 cI gr Pl)) := hD
      refine lv_aload_n hx hb d_law_126 rfl (lv_at hl 2 rfl) ?_
      refine lv_aload_n hx hb d_law_127 rfl (lv_at hl 0 rfl) ?_
      refine lv_iload_n hx hb d_law_128 rfl (lv_at hl 3 rfl) ?_
      refine lv_iconst (v := zI 1) hx hb d_law_129 (by decide) ?_
      refine k_iadd hx hb d_law_130 rfl ?_
      refine k_sld hx hb hX hbl hbA hS (j := i + 1) (by omega) (by omega) hL d_law_131 ?_
      refine lv_aload_n hx hb d_law_132 rfl (lv_at hl 0 rfl) ?_
      refine lv_iload_n hx hb d_law_133 rfl (lv_at hl 3 rfl) ?_
      refine lv_iconst (v := zI 2) hx hb d_law_134 (by decide) ?_
      refine k_iadd hx hb d_law_135 rfl ?_
      refine k_sld hx hb hX hbl hbA hS (j := i + 2) (by omega) (by omega) hL d_law_136 ?_
      refine k_beIX (va_runV (As := [.int (zI (xz xs (i + 1))), .int (zI (xz xs (i + 2)))]) (rest := [.int (zI (-2))]) ⟨hx, hb, hml, hown, hts⟩ (c_Mo_put_2 l D cI cR cG w n np kn ch le mf mt (xz xs (i + 1)) (xz xs (i + 2)) (xz_sm _ _) (xz_sm _ _) h1 h2 _) (cwV 2 hts (k_gVL ll_17 rfl kw_instanceMethod_Mo_put kw_selects_Mo_put kw_initialized_Mo kw_code_Mo_put) rfl rfl rfl (by decide +kernel) ⟨(Nat.le_of_ble_eq_true rfl), (Nat.le_of_ble_eq_true rfl)⟩) (k_preVX (q0 := 0) hK hG hP hD [16] rfl rfl rfl rfl) rfl rfl hl.1 rfl (lv_room (Nat.le_of_ble_eq_true rfl)) d_law_137 ⟨(Nat.le_of_ble_eq_true rfl), (Nat.le_of_ble_eq_true rfl)⟩) hP hD hS hA [16] rfl (Eq.trans (b := [w 0]) rfl rfl) ?_
      clear hP hD hS; intro H locs hP hD hS
      replace hP : va_P D k_cl (lX cI cR cG q w ro gr t K fi sc nn of se n np r sd lm sf st pc tr fc cn t K of se n np kn ch le mf mt on ot nu G E0 mn ff pl ++ (k_pp cI ro en E ++ k_p3 cI gr Pl)) H := hP
      replace hD : va_D (fun q => s.heap.size ≤ q) (lX cI cR cG q w ro gr t K fi sc nn of se n np r sd lm sf st pc tr fc cn t K of se n np kn ch le mf mt on ot nu G E0 mn ff pl ++ (k_pp cI ro en E ++ k_p3 cI gr Pl)) := hD
      refine k_sameI (tgt := 501) hx hb d_law_140 (by decide) rfl ?_
      exact kk t K fi sc nn of se n np r sd lm sf st pc tr fc cn E Pl kn ch le mf mt on ot nu G E0 mn ff pl hI0 _ _ _ hP hD hS hl
  · refine lv_aload_n hx hb d_law_112 rfl (lv_at hl 1 rfl) ?_
    refine lv_aload_n hx hb d_law_113 rfl (lv_at hl 0 rfl) ?_
    refine lv_iload_n hx hb d_law_114 rfl (lv_at hl 3 rfl) ?_
    refine lv_iconst (v := zI 1) hx hb d_law_115 (by decide) ?_
    refine k_iadd hx hb d_law_116 rfl ?_
    refine k_sld hx hb hX hbl hbA hS (j := i + 1) (by omega) (by omega) hL d_law_117 ?_
    refine lv_aload_n hx hb d_law_118 rfl (lv_at hl 0 rfl) ?_
    refine lv_iload_n hx hb d_law_119 rfl (lv_at hl 3 rfl) ?_
    refine lv_iconst (v := zI 2) hx hb d_law_120 (by decide) ?_
    refine k_iadd hx hb d_law_121 rfl ?_
    refine k_sld hx hb hX hbl hbA hS (j := i + 2) (by omega) (by omega) hL d_law_122 ?_
    refine k_beIX (va_runV (As := [.int (zI (xz xs (i + 1))), .int (zI (xz xs (i + 2)))]) (rest := []) ⟨hx, hb, hml, hown, hts⟩ (c_Pm_put_1 l D cI cR cG q (xz xs (i + 1)) (xz xs (i + 2)) (xz_sm _ _) (xz_sm _ _) h1 _) (cwV 2 hts (k_gVL ll_13 rfl kw_instanceMethod_Pm_put kw_selects_Pm_put kw_initialized_Pm kw_code_Pm_put) rfl rfl rfl (by decide +kernel) ⟨(Nat.le_of_ble_eq_true rfl), (Nat.le_of_ble_eq_true rfl)⟩) (k_preVX (q0 := 0) hK hG hP hD [0] rfl rfl rfl rfl) rfl rfl hl.1 rfl (lv_room (Nat.le_of_ble_eq_true rfl)) d_law_123 ⟨(Nat.le_of_ble_eq_true rfl), (Nat.le_of_ble_eq_true rfl)⟩) hP hD hS hA [0] rfl (Eq.trans (b := [q 0]) rfl rfl) ?_
    clear hP hD hS; intro H locs hP hD hS
    replace hP : va_P D k_cl (lX cI cR cG q w ro gr t K fi sc nn of se n np r sd lm sf st pc tr fc cn t K of se n np kn ch le mf mt on ot nu G E0 mn ff pl ++ (k_pp cI ro en E ++ k_p3 cI gr Pl)) H := hP
    replace hD : va_D (fun q => s.heap.size ≤ q) (lX cI cR cG q w ro gr t K fi sc nn of se n np r sd lm sf st pc tr fc cn t K of se n np kn ch le mf mt on ot nu G E0 mn ff pl ++ (k_pp cI ro en E ++ k_p3 cI gr Pl)) := hD
    refine lv_aload_n hx hb d_law_126 rfl (lv_at hl 2 rfl) ?_
    refine lv_aload_n hx hb d_law_127 rfl (lv_at hl 0 rfl) ?_
    refine lv_iload_n hx hb d_law_128 rfl (lv_at hl 3 rfl) ?_
    refine lv_iconst (v := zI 1) hx hb d_law_129 (by decide) ?_
    refine k_iadd hx hb d_law_130 rfl ?_
    refine k_sld hx hb hX hbl hbA hS (j := i + 1) (by omega) (by omega) hL d_law_131 ?_
    refine lv_aload_n hx hb d_law_132 rfl (lv_at hl 0 rfl) ?_
    refine lv_iload_n hx hb d_law_133 rfl (lv_at hl 3 rfl) ?_
    refine lv_iconst (v := zI 2) hx hb d_law_134 (by decide) ?_
    refine k_iadd hx hb d_law_135 rfl ?_
    refine k_sld hx hb hX hbl hbA hS (j := i + 2) (by omega) (by omega) hL d_law_136 ?_
    refine k_beIX (va_runV (As := [.int (zI (xz xs (i + 1))), .int (zI (xz xs (i + 2)))]) (rest := [.int (zI (-1))]) ⟨hx, hb, hml, hown, hts⟩ (c_Mo_put_1 l D cI cR cG w n np kn ch le mf mt (xz xs (i + 1)) (xz xs (i + 2)) (xz_sm _ _) (xz_sm _ _) h1 _) (cwV 2 hts (k_gVL ll_17 rfl kw_instanceMethod_Mo_put kw_selects_Mo_put kw_initialized_Mo kw_code_Mo_put) rfl rfl rfl (by decide +kernel) ⟨(Nat.le_of_ble_eq_true rfl), (Nat.le_of_ble_eq_true rfl)⟩) (k_preVX (q0 := 0) hK hG hP hD [16] rfl rfl rfl rfl) rfl rfl hl.1 rfl (lv_room (Nat.le_of_ble_eq_true rfl)) d_law_137 ⟨(Nat.le_of_ble_eq_true rfl), (Nat.le_of_ble_eq_true rfl)⟩) hP hD hS hA [16] rfl (Eq.trans (b := [w 0]) rfl rfl) ?_
    clear hP hD hS; intro H locs hP hD hS
    replace hP : va_P D k_cl (lX cI cR cG q w ro gr t K fi sc nn of se n np r sd lm sf st pc tr fc cn t K of se n np kn ch le mf mt on ot nu G E0 mn ff pl ++ (k_pp cI ro en E ++ k_p3 cI gr Pl)) H := hP
    replace hD : va_D (fun q => s.heap.size ≤ q) (lX cI cR cG q w ro gr t K fi sc nn of se n np r sd lm sf st pc tr fc cn t K of se n np kn ch le mf mt on ot nu G E0 mn ff pl ++ (k_pp cI ro en E ++ k_p3 cI gr Pl)) := hD
    refine k_sameI (tgt := 501) hx hb d_law_140 (by decide) rfl ?_
    exact kk t K fi sc nn of se n np r sd lm sf st pc tr fc cn E Pl kn ch le mf mt on ot nu G E0 mn ff pl hI0 _ _ _ hP hD hS hl
set_option maxHeartbeats 4000000 in
set_option maxRecDepth 100000 in
theorem lc_clear {p : Program} {e : Env} {s : State} {m : MethodId} {below : List Frame} {meth : Method} {c : Code} {Qf : State → Prop} (l : Launch) {b L : Nat} {xs : Nat → Int32} (hL : L ≤ 2560) (C0 : lw_At p s m meth c b L xs) {D : va_G} {cI cR cG : ClassId} (hK : va_K D k_cl (k_ty cI cR cG) s) (hG : k_G k_ns s) {q w ro en gr : Nat → Nat} {i : Nat} (hi : i + 5 ≤ L) (kk : lK p l e s m below meth c b Qf D cI cR cG q w ro en gr i 501) : lK p l e s m below meth c b Qf D cI cR cG q w ro en gr i 145 := by
  obtain ⟨hx, hb, hr, hml, hown, hts, hX, hbl, hlocks, -⟩ := C0
  intro t K fi sc nn of se n np r sd lm sf st pc tr fc cn E Pl kn ch le mf mt on ot nu G E0 mn ff pl hI H locs ls hP hD hS hl
  have hA : ∀ q, s.heap.size ≤ q → (fun q => s.heap.size ≤ q) q := fun _ h => h
  have hbA : ¬ (fun q => s.heap.size ≤ q) b := Nat.not_le.mpr hbl
  have hI0 := hI
  obtain ⟨⟨ht, hn, hok, hmo, hK0, hnu⟩, ⟨hE, hrn, hrows, hG0, hE0⟩, ⟨hnp, hof, hse⟩, ⟨hsd, hset, hph⟩, ⟨hkn, hpl, hgo, hkno⟩⟩ := hI
  refine lv_aload_n hx hb d_law_145 rfl (lv_at hl 1 rfl) ?_
  refine k_beIX (va_runV (As := []) (rest := []) ⟨hx, hb, hml, hown, hts⟩ (c_Pm_clear l D cI cR cG q n r np sd lm sf st t ht _) (cwV 0 hts (k_gVL ll_18 rfl kw_instanceMethod_Pm_clear kw_selects_Pm_clear kw_initialized_Pm kw_code_Pm_clear) rfl rfl rfl (by decide +kernel) ⟨(Nat.le_of_ble_eq_true rfl), (Nat.le_of_ble_eq_true rfl)⟩) (k_preVX (q0 := 0) hK hG hP hD [0, 1, 2, 8] rfl rfl rfl rfl) rfl rfl hl.1 rfl (lv_room (Nat.le_of_ble_eq_true rfl)) d_law_146 ⟨(Nat.le_of_ble_eq_true rfl), (Nat.le_of_ble_eq_true rfl)⟩) hP hD hS hA [0, 1, 2, 8] rfl (Eq.trans (b := [q 0, q 1, q 2, q 8]) rfl rfl) ?_
  clear hP hD hS; intro H locs hP hD hS
  replace hP : va_P D k_cl (lX cI cR cG q w ro gr (fun _ => 0) K fi sc nn of se n np 0 0 lm sf st pc tr fc cn t K of se n np kn ch le mf mt on ot nu G E0 mn ff pl ++ (k_pp cI ro en E ++ k_p3 cI gr Pl)) H := hP
  replace hD : va_D (fun q => s.heap.size ≤ q) (lX cI cR cG q w ro gr (fun _ => 0) K fi sc nn of se n np 0 0 lm sf st pc tr fc cn t K of se n np kn ch le mf mt on ot nu G E0 mn ff pl ++ (k_pp cI ro en E ++ k_p3 cI gr Pl)) := hD
  refine lv_aload_n hx hb d_law_149 rfl (lv_at hl 2 rfl) ?_
  refine k_beIX (va_runV (As := []) (rest := [.int (zI (↑(cFil t 30 0 0)))]) ⟨hx, hb, hml, hown, hts⟩ (c_Mo_clear l D cI cR cG w n np kn ch le mf mt t ht _) (cwV 0 hts (k_gVL ll_22 rfl kw_instanceMethod_Mo_clear kw_selects_Mo_clear kw_initialized_Mo kw_code_Mo_clear) rfl rfl rfl (by decide +kernel) ⟨(Nat.le_of_ble_eq_true rfl), (Nat.le_of_ble_eq_true rfl)⟩) (k_preVX (q0 := 0) hK hG hP hD [16, 17] rfl rfl rfl rfl) rfl rfl hl.1 rfl (lv_room (Nat.le_of_ble_eq_true rfl)) d_law_150 ⟨(Nat.le_of_ble_eq_true rfl), (Nat.le_of_ble_eq_true rfl)⟩) hP hD hS hA [16, 17] rfl (Eq.trans (b := [w 0, w 1]) rfl rfl) ?_
  clear hP hD hS; intro H locs hP hD hS
  replace hP : va_P D k_cl (lX cI cR cG q w ro gr (fun _ => 0) K fi sc nn of se n np 0 0 lm sf st pc tr fc cn (fun _ => 0) K of se n np 0 ch le mf mt on ot nu G E0 mn ff pl ++ (k_pp cI ro en E ++ k_p3 cI gr Pl)) H := hP
  replace hD : va_D (fun q => s.heap.size ≤ q) (lX cI cR cG q w ro gr (fun _ => 0) K fi sc nn of se n np 0 0 lm sf st pc tr fc cn (fun _ => 0) K of se n np 0 ch le mf mt on ot nu G E0 mn ff pl ++ (k_pp cI ro en E ++ k_p3 cI gr Pl)) := hD
  refine k_sameI (tgt := 501) hx hb d_law_153 (by decide) rfl ?_
  exact kk (fun _ => 0) K fi sc nn of se n np 0 0 lm sf st pc tr fc cn E Pl 0 ch le mf mt on ot nu G E0 mn ff pl ⟨⟨fun _ => Nat.zero_le _, hn, hok, hmo, hK0, hnu⟩, ⟨hE, Nat.zero_le _, isRows0, hG0, hE0⟩, ⟨hnp, hof, hse⟩, ⟨Nat.zero_le _, hset, ph0⟩, ⟨Nat.zero_le _, hpl, hgo, kn0⟩⟩ _ _ _ hP hD hS hl
set_option maxHeartbeats 4000000 in
set_option maxRecDepth 100000 in
theorem lc_ask {p : Program} {e : Env} {s : State} {m : MethodId} {below : List Frame} {meth : Method} {c : Code} {Qf : State → Prop} (l : Launch) {b L : Nat} {xs : Nat → Int32} (hL : L ≤ 2560) (C0 : lw_At p s m meth c b L xs) {D : va_G} {cI cR cG : ClassId} (hK : va_K D k_cl (k_ty cI cR cG) s) (hG : k_G k_ns s) {q w ro en gr : Nat → Nat} {i : Nat} (hi : i + 5 ≤ L) (kk : lK p l e s m below meth c b Qf D cI cR cG q w ro en gr i 501) : lK p l e s m below meth c b Qf D cI cR cG q w ro en gr i 158 := by
  obtain ⟨hx, hb, hr, hml, hown, hts, hX, hbl, hlocks, -⟩ := C0
  intro t K fi sc nn of se n np r sd lm sf st pc tr fc cn E Pl kn ch le mf mt on ot nu G E0 mn ff pl hI H locs ls hP hD hS hl
  have hA : ∀ q, s.heap.size ≤ q → (fun q => s.heap.size ≤ q) q := fun _ h => h
  have hbA : ¬ (fun q => s.heap.size ≤ q) b := Nat.not_le.mpr hbl
  have hI0 := hI
  obtain ⟨⟨ht, hn, hok, hmo, hK0, hnu⟩, ⟨hE, hrn, hrows, hG0, hE0⟩, ⟨hnp, hof, hse⟩, ⟨hsd, hset, hph⟩, ⟨hkn, hpl, hgo, hkno⟩⟩ := hI
  by_cases h1 : (0 ≤ (xz xs (i + 1)) ∧ (xz xs (i + 1)) ≤ 10) ∧ (((xz xs (i + 1)) ≠ 1 ∧ (xz xs (i + 1)) ≠ 5 ∧ (xz xs (i + 1)) ≠ 6 ∧ (xz xs (i + 1)) ≠ 7) → (0 ≤ (xz xs (i + 4)) ∧ ((xz xs (i + 1)) = 0 ∧ (xz xs (i + 4)) < 10 ∨ (xz xs (i + 1)) ≠ 0 ∧ (xz xs (i + 4)) ≤ 30))) ∧ ((xz xs (i + 1)) ≠ 0 → (0 ≤ (xz xs (i + 2)) ∧ (xz xs (i + 2)) < ↑n)) ∧ ((1 ≤ (xz xs (i + 1)) ∧ (xz xs (i + 1)) ≤ 8) → (0 ≤ (xz xs (i + 3)) ∧ (xz xs (i + 3)) < ↑n)) ∧ n < 30
  · obtain ⟨hk0, hnum, hha, hhb, hn3⟩ := h1
    obtain ⟨o1, o2⟩ := ask_ok hk0 hnum hha hhb hok hmo
    refine lv_aload_n hx hb d_law_158 rfl (lv_at hl 1 rfl) ?_
    refine lv_aload_n hx hb d_law_159 rfl (lv_at hl 0 rfl) ?_
    refine lv_iload_n hx hb d_law_160 rfl (lv_at hl 3 rfl) ?_
    refine lv_iconst (v := zI 1) hx hb d_law_161 (by decide) ?_
    refine k_iadd hx hb d_law_162 rfl ?_
    refine k_sld hx hb hX hbl hbA hS (j := i + 1) (by omega) (by omega) hL d_law_163 ?_
    refine lv_aload_n hx hb d_law_164 rfl (lv_at hl 0 rfl) ?_
    refine lv_iload_n hx hb d_law_165 rfl (lv_at hl 3 rfl) ?_
    refine lv_iconst (v := zI 2) hx hb d_law_166 (by decide) ?_
    refine k_iadd hx hb d_law_167 rfl ?_
    refine k_sld hx hb hX hbl hbA hS (j := i + 2) (by omega) (by omega) hL d_law_168 ?_
    refine lv_aload_n hx hb d_law_169 rfl (lv_at hl 0 rfl) ?_
    refine lv_iload_n hx hb d_law_170 rfl (lv_at hl 3 rfl) ?_
    refine lv_iconst (v := zI 3) hx hb d_law_171 (by decide) ?_
    refine k_iadd hx hb d_law_172 rfl ?_
    refine k_sld hx hb hX hbl hbA hS (j := i + 3) (by omega) (by omega) hL d_law_173 ?_
    refine lv_aload_n hx hb d_law_174 rfl (lv_at hl 0 rfl) ?_
    refine lv_iload_n hx hb d_law_175 rfl (lv_at hl 3 rfl) ?_
    refine lv_iconst (v := zI 4) hx hb d_law_176 (by decide) ?_
    refine k_iadd hx hb d_law_177 rfl ?_
    refine k_sld hx hb hX hbl hbA hS (j := i + 4) (by omega) (by omega) hL d_law_178 ?_
    refine k_beIX (va_runV (As := [.int (zI (xz xs (i + 1))), .int (zI (xz xs (i + 2))), .int (zI (xz xs (i + 3))), .int (zI (xz xs (i + 4)))]) (rest := []) ⟨hx, hb, hml, hown, hts⟩ (c_Pm_ask_2 l D cI cR cG q n r K fi sc nn (xz xs (i + 1)) (xz xs (i + 2)) (xz xs (i + 3)) (xz xs (i + 4)) (xz_sm _ _) (xz_sm _ _) (xz_sm _ _) (xz_sm _ _) hn hk0 hnum hha hhb hn3 _) (cwV 4 hts (k_gVL ll_23 rfl kw_instanceMethod_Pm_ask kw_selects_Pm_ask kw_initialized_Pm kw_code_Pm_ask) rfl rfl rfl (by decide +kernel) ⟨(Nat.le_of_ble_eq_true rfl), (Nat.le_of_ble_eq_true rfl)⟩) (k_preVX (q0 := 0) hK hG hP hD [0, 2, 3, 4, 5, 6] rfl rfl rfl rfl) rfl rfl hl.1 rfl (lv_room (Nat.le_of_ble_eq_true rfl)) d_law_179 ⟨(Nat.le_of_ble_eq_true rfl), (Nat.le_of_ble_eq_true rfl)⟩) hP hD hS hA [0, 2, 3, 4, 5, 6] rfl (Eq.trans (b := [q 0, q 2, q 3, q 4, q 5, q 6]) rfl rfl) ?_
    clear hP hD hS; intro H locs hP hD hS
    replace hP : va_P D k_cl (lX cI cR cG q w ro gr t (va_up K n (xz xs (i + 1)).toNat) (va_up fi n (if (xz xs (i + 1)) ≠ 0 then (xz xs (i + 2)).toNat else 0)) (va_up sc n (if 1 ≤ (xz xs (i + 1)) ∧ (xz xs (i + 1)) ≤ 8 then (xz xs (i + 3)).toNat else 0)) (va_up nn n (if (xz xs (i + 1)) ≠ 1 ∧ (xz xs (i + 1)) ≠ 5 ∧ (xz xs (i + 1)) ≠ 6 ∧ (xz xs (i + 1)) ≠ 7 then (xz xs (i + 4)).toNat else 0)) of se (n + 1) np r sd lm sf st pc tr fc cn t K of se n np kn ch le mf mt on ot nu G E0 mn ff pl ++ (k_pp cI ro en E ++ k_p3 cI gr Pl)) H := hP
    replace hD : va_D (fun q => s.heap.size ≤ q) (lX cI cR cG q w ro gr t (va_up K n (xz xs (i + 1)).toNat) (va_up fi n (if (xz xs (i + 1)) ≠ 0 then (xz xs (i + 2)).toNat else 0)) (va_up sc n (if 1 ≤ (xz xs (i + 1)) ∧ (xz xs (i + 1)) ≤ 8 then (xz xs (i + 3)).toNat else 0)) (va_up nn n (if (xz xs (i + 1)) ≠ 1 ∧ (xz xs (i + 1)) ≠ 5 ∧ (xz xs (i + 1)) ≠ 6 ∧ (xz xs (i + 1)) ≠ 7 then (xz xs (i + 4)).toNat else 0)) of se (n + 1) np r sd lm sf st pc tr fc cn t K of se n np kn ch le mf mt on ot nu G E0 mn ff pl ++ (k_pp cI ro en E ++ k_p3 cI gr Pl)) := hD
    refine lv_aload_n hx hb d_law_182 rfl (lv_at hl 2 rfl) ?_
    refine lv_aload_n hx hb d_law_183 rfl (lv_at hl 0 rfl) ?_
    refine lv_iload_n hx hb d_law_184 rfl (lv_at hl 3 rfl) ?_
    refine lv_iconst (v := zI 1) hx hb d_law_185 (by decide) ?_
    refine k_iadd hx hb d_law_186 rfl ?_
    refine k_sld hx hb hX hbl hbA hS (j := i + 1) (by omega) (by omega) hL d_law_187 ?_
    refine lv_aload_n hx hb d_law_188 rfl (lv_at hl 0 rfl) ?_
    refine lv_iload_n hx hb d_law_189 rfl (lv_at hl 3 rfl) ?_
    refine lv_iconst (v := zI 2) hx hb d_law_190 (by decide) ?_
    refine k_iadd hx hb d_law_191 rfl ?_
    refine k_sld hx hb hX hbl hbA hS (j := i + 2) (by omega) (by omega) hL d_law_192 ?_
    refine lv_aload_n hx hb d_law_193 rfl (lv_at hl 0 rfl) ?_
    refine lv_iload_n hx hb d_law_194 rfl (lv_at hl 3 rfl) ?_
    refine lv_iconst (v := zI 3) hx hb d_law_195 (by decide) ?_
    refine k_iadd hx hb d_law_196 rfl ?_
    refine k_sld hx hb hX hbl hbA hS (j := i + 3) (by omega) (by omega) hL d_law_197 ?_
    refine lv_aload_n hx hb d_law_198 rfl (lv_at hl 0 rfl) ?_
    refine lv_iload_n hx hb d_law_199 rfl (lv_at hl 3 rfl) ?_
    refine lv_iconst (v := zI 4) hx hb d_law_200 (by decide) ?_
    refine k_iadd hx hb d_law_201 rfl ?_
    refine k_sld hx hb hX hbl hbA hS (j := i + 4) (by omega) (by omega) hL d_law_202 ?_
    refine k_beIX (va_runV (As := [.int (zI (xz xs (i + 1))), .int (zI (xz xs (i + 2))), .int (zI (xz xs (i + 3))), .int (zI (xz xs (i + 4)))]) (rest := [.int (zI ↑n)]) ⟨hx, hb, hml, hown, hts⟩ (c_Mo_ask_2 l D cI cR cG w n np kn ch le mf mt K on ot nu (xz xs (i + 1)) (xz xs (i + 2)) (xz xs (i + 3)) (xz xs (i + 4)) (xz_sm _ _) (xz_sm _ _) (xz_sm _ _) (xz_sm _ _) hn hk0 hnum hha hhb hn3 _) (cwV 4 hts (k_gVL ll_27 rfl kw_instanceMethod_Mo_ask kw_selects_Mo_ask kw_initialized_Mo kw_code_Mo_ask) rfl rfl rfl (by decide +kernel) ⟨(Nat.le_of_ble_eq_true rfl), (Nat.le_of_ble_eq_true rfl)⟩) (k_preVX (q0 := 0) hK hG hP hD [16, 18, 19, 20, 21] rfl rfl rfl rfl) rfl rfl hl.1 rfl (lv_room (Nat.le_of_ble_eq_true rfl)) d_law_203 ⟨(Nat.le_of_ble_eq_true rfl), (Nat.le_of_ble_eq_true rfl)⟩) hP hD hS hA [16, 18, 19, 20, 21] rfl (Eq.trans (b := [w 0, w 2, w 3, w 4, w 5]) rfl rfl) ?_
    clear hP hD hS; intro H locs hP hD hS
    replace hP : va_P D k_cl (lX cI cR cG q w ro gr t (va_up K n (xz xs (i + 1)).toNat) (va_up fi n (if (xz xs (i + 1)) ≠ 0 then (xz xs (i + 2)).toNat else 0)) (va_up sc n (if 1 ≤ (xz xs (i + 1)) ∧ (xz xs (i + 1)) ≤ 8 then (xz xs (i + 3)).toNat else 0)) (va_up nn n (if (xz xs (i + 1)) ≠ 1 ∧ (xz xs (i + 1)) ≠ 5 ∧ (xz xs (i + 1)) ≠ 6 ∧ (xz xs (i + 1)) ≠ 7 then (xz xs (i + 4)).toNat else 0)) of se (n + 1) np r sd lm sf st pc tr fc cn t (va_up K n (xz xs (i + 1)).toNat) of se (n + 1) np kn ch le mf mt (va_up on n (xz xs (i + 2))) (va_up ot n (xz xs (i + 3))) (va_up nu n (xz xs (i + 4))) G E0 mn ff pl ++ (k_pp cI ro en E ++ k_p3 cI gr Pl)) H := hP
    replace hD : va_D (fun q => s.heap.size ≤ q) (lX cI cR cG q w ro gr t (va_up K n (xz xs (i + 1)).toNat) (va_up fi n (if (xz xs (i + 1)) ≠ 0 then (xz xs (i + 2)).toNat else 0)) (va_up sc n (if 1 ≤ (xz xs (i + 1)) ∧ (xz xs (i + 1)) ≤ 8 then (xz xs (i + 3)).toNat else 0)) (va_up nn n (if (xz xs (i + 1)) ≠ 1 ∧ (xz xs (i + 1)) ≠ 5 ∧ (xz xs (i + 1)) ≠ 6 ∧ (xz xs (i + 1)) ≠ 7 then (xz xs (i + 4)).toNat else 0)) of se (n + 1) np r sd lm sf st pc tr fc cn t (va_up K n (xz xs (i + 1)).toNat) of se (n + 1) np kn ch le mf mt (va_up on n (xz xs (i + 2))) (va_up ot n (xz xs (i + 3))) (va_up nu n (xz xs (i + 4))) G E0 mn ff pl ++ (k_pp cI ro en E ++ k_p3 cI gr Pl)) := hD
    refine k_sameI (tgt := 501) hx hb d_law_206 (by decide) rfl ?_
    exact kk t (va_up K n (xz xs (i + 1)).toNat) (va_up fi n (if (xz xs (i + 1)) ≠ 0 then (xz xs (i + 2)).toNat else 0)) (va_up sc n (if 1 ≤ (xz xs (i + 1)) ∧ (xz xs (i + 1)) ≤ 8 then (xz xs (i + 3)).toNat else 0)) (va_up nn n (if (xz xs (i + 1)) ≠ 1 ∧ (xz xs (i + 1)) ≠ 5 ∧ (xz xs (i + 1)) ≠ 6 ∧ (xz xs (i + 1)) ≠ 7 then (xz xs (i + 4)).toNat else 0)) of se (n + 1) np r sd lm sf st pc tr fc cn E Pl kn ch le mf mt (va_up on n (xz xs (i + 2))) (va_up ot n (xz xs (i + 3))) (va_up nu n (xz xs (i + 4))) G E0 mn ff pl ⟨⟨ht, hn3, o1, o2, k_upB hK0 (by omega), k_smUp hnu (xz_sm _ _)⟩, ⟨hE, Nat.le_succ_of_le hrn, ask_rows hrn hrows, hG0, hE0⟩, ⟨hnp, hof, hse⟩, ⟨hsd, hset, hph⟩, ⟨hkn, hpl, hgo, hkno⟩⟩ _ _ _ hP hD hS hl
  · refine lv_aload_n hx hb d_law_158 rfl (lv_at hl 1 rfl) ?_
    refine lv_aload_n hx hb d_law_159 rfl (lv_at hl 0 rfl) ?_
    refine lv_iload_n hx hb d_law_160 rfl (lv_at hl 3 rfl) ?_
    refine lv_iconst (v := zI 1) hx hb d_law_161 (by decide) ?_
    refine k_iadd hx hb d_law_162 rfl ?_
    refine k_sld hx hb hX hbl hbA hS (j := i + 1) (by omega) (by omega) hL d_law_163 ?_
    refine lv_aload_n hx hb d_law_164 rfl (lv_at hl 0 rfl) ?_
    refine lv_iload_n hx hb d_law_165 rfl (lv_at hl 3 rfl) ?_
    refine lv_iconst (v := zI 2) hx hb d_law_166 (by decide) ?_
    refine k_iadd hx hb d_law_167 rfl ?_
    refine k_sld hx hb hX hbl hbA hS (j := i + 2) (by omega) (by omega) hL d_law_168 ?_
    refine lv_aload_n hx hb d_law_169 rfl (lv_at hl 0 rfl) ?_
    refine lv_iload_n hx hb d_law_170 rfl (lv_at hl 3 rfl) ?_
    refine lv_iconst (v := zI 3) hx hb d_law_171 (by decide) ?_
    refine k_iadd hx hb d_law_172 rfl ?_
    refine k_sld hx hb hX hbl hbA hS (j := i + 3) (by omega) (by omega) hL d_law_173 ?_
    refine lv_aload_n hx hb d_law_174 rfl (lv_at hl 0 rfl) ?_
    refine lv_iload_n hx hb d_law_175 rfl (lv_at hl 3 rfl) ?_
    refine lv_iconst (v := zI 4) hx hb d_law_176 (by decide) ?_
    refine k_iadd hx hb d_law_177 rfl ?_
    refine k_sld hx hb hX hbl hbA hS (j := i + 4) (by omega) (by omega) hL d_law_178 ?_
    refine k_beIX (va_runV (As := [.int (zI (xz xs (i + 1))), .int (zI (xz xs (i + 2))), .int (zI (xz xs (i + 3))), .int (zI (xz xs (i + 4)))]) (rest := []) ⟨hx, hb, hml, hown, hts⟩ (c_Pm_ask_1 l D cI cR cG q n r K fi sc nn (xz xs (i + 1)) (xz xs (i + 2)) (xz xs (i + 3)) (xz xs (i + 4)) (xz_sm _ _) (xz_sm _ _) (xz_sm _ _) (xz_sm _ _) hn h1 _) (cwV 4 hts (k_gVL ll_23 rfl kw_instanceMethod_Pm_ask kw_selects_Pm_ask kw_initialized_Pm kw_code_Pm_ask) rfl rfl rfl (by decide +kernel) ⟨(Nat.le_of_ble_eq_true rfl), (Nat.le_of_ble_eq_true rfl)⟩) (k_preVX (q0 := 0) hK hG hP hD [0, 2, 3, 4, 5, 6] rfl rfl rfl rfl) rfl rfl hl.1 rfl (lv_room (Nat.le_of_ble_eq_true rfl)) d_law_179 ⟨(Nat.le_of_ble_eq_true rfl), (Nat.le_of_ble_eq_true rfl)⟩) hP hD hS hA [0, 2, 3, 4, 5, 6] rfl (Eq.trans (b := [q 0, q 2, q 3, q 4, q 5, q 6]) rfl rfl) ?_
    clear hP hD hS; intro H locs hP hD hS
    replace hP : va_P D k_cl (lX cI cR cG q w ro gr t K fi sc nn of se n np r sd lm sf st pc tr fc cn t K of se n np kn ch le mf mt on ot nu G E0 mn ff pl ++ (k_pp cI ro en E ++ k_p3 cI gr Pl)) H := hP
    replace hD : va_D (fun q => s.heap.size ≤ q) (lX cI cR cG q w ro gr t K fi sc nn of se n np r sd lm sf st pc tr fc cn t K of se n np kn ch le mf mt on ot nu G E0 mn ff pl ++ (k_pp cI ro en E ++ k_p3 cI gr Pl)) := hD
    refine lv_aload_n hx hb d_law_182 rfl (lv_at hl 2 rfl) ?_
    refine lv_aload_n hx hb d_law_183 rfl (lv_at hl 0 rfl) ?_
    refine lv_iload_n hx hb d_law_184 rfl (lv_at hl 3 rfl) ?_
    refine lv_iconst (v := zI 1) hx hb d_law_185 (by decide) ?_
    refine k_iadd hx hb d_law_186 rfl ?_
    refine k_sld hx hb hX hbl hbA hS (j := i + 1) (by omega) (by omega) hL d_law_187 ?_
    refine lv_aload_n hx hb d_law_188 rfl (lv_at hl 0 rfl) ?_
    refine lv_iload_n hx hb d_law_189 rfl (lv_at hl 3 rfl) ?_
    refine lv_iconst (v := zI 2) hx hb d_law_190 (by decide) ?_
    refine k_iadd hx hb d_law_191 rfl ?_
    refine k_sld hx hb hX hbl hbA hS (j := i + 2) (by omega) (by omega) hL d_law_192 ?_
    refine lv_aload_n hx hb d_law_193 rfl (lv_at hl 0 rfl) ?_
    refine lv_iload_n hx hb d_law_194 rfl (lv_at hl 3 rfl) ?_
    refine lv_iconst (v := zI 3) hx hb d_law_195 (by decide) ?_
    refine k_iadd hx hb d_law_196 rfl ?_
    refine k_sld hx hb hX hbl hbA hS (j := i + 3) (by omega) (by omega) hL d_law_197 ?_
    refine lv_aload_n hx hb d_law_198 rfl (lv_at hl 0 rfl) ?_
    refine lv_iload_n hx hb d_law_199 rfl (lv_at hl 3 rfl) ?_
    refine lv_iconst (v := zI 4) hx hb d_law_200 (by decide) ?_
    refine k_iadd hx hb d_law_201 rfl ?_
    refine k_sld hx hb hX hbl hbA hS (j := i + 4) (by omega) (by omega) hL d_law_202 ?_
    refine k_beIX (va_runV (As := [.int (zI (xz xs (i + 1))), .int (zI (xz xs (i + 2))), .int (zI (xz xs (i + 3))), .int (zI (xz xs (i + 4)))]) (rest := [.int (zI (askR n (xz xs (i + 1)) (xz xs (i + 2)) (xz xs (i + 3)) (xz xs (i + 4))))]) ⟨hx, hb, hml, hown, hts⟩ (c_Mo_ask_1 l D cI cR cG w n np kn ch le mf mt (xz xs (i + 1)) (xz xs (i + 2)) (xz xs (i + 3)) (xz xs (i + 4)) (xz_sm _ _) (xz_sm _ _) (xz_sm _ _) (xz_sm _ _) hn h1 _) (cwV 4 hts (k_gVL ll_27 rfl kw_instanceMethod_Mo_ask kw_selects_Mo_ask kw_initialized_Mo kw_code_Mo_ask) rfl rfl rfl (by decide +kernel) ⟨(Nat.le_of_ble_eq_true rfl), (Nat.le_of_ble_eq_true rfl)⟩) (k_preVX (q0 := 0) hK hG hP hD [16] rfl rfl rfl rfl) rfl rfl hl.1 rfl (lv_room (Nat.le_of_ble_eq_true rfl)) d_law_203 ⟨(Nat.le_of_ble_eq_true rfl), (Nat.le_of_ble_eq_true rfl)⟩) hP hD hS hA [16] rfl (Eq.trans (b := [w 0]) rfl rfl) ?_
    clear hP hD hS; intro H locs hP hD hS
    replace hP : va_P D k_cl (lX cI cR cG q w ro gr t K fi sc nn of se n np r sd lm sf st pc tr fc cn t K of se n np kn ch le mf mt on ot nu G E0 mn ff pl ++ (k_pp cI ro en E ++ k_p3 cI gr Pl)) H := hP
    replace hD : va_D (fun q => s.heap.size ≤ q) (lX cI cR cG q w ro gr t K fi sc nn of se n np r sd lm sf st pc tr fc cn t K of se n np kn ch le mf mt on ot nu G E0 mn ff pl ++ (k_pp cI ro en E ++ k_p3 cI gr Pl)) := hD
    refine k_sameI (tgt := 501) hx hb d_law_206 (by decide) rfl ?_
    exact kk t K fi sc nn of se n np r sd lm sf st pc tr fc cn E Pl kn ch le mf mt on ot nu G E0 mn ff pl hI0 _ _ _ hP hD hS hl
set_option maxHeartbeats 4000000 in
set_option maxRecDepth 100000 in
theorem lc_forget {p : Program} {e : Env} {s : State} {m : MethodId} {below : List Frame} {meth : Method} {c : Code} {Qf : State → Prop} (l : Launch) {b L : Nat} {xs : Nat → Int32} (hL : L ≤ 2560) (C0 : lw_At p s m meth c b L xs) {D : va_G} {cI cR cG : ClassId} (hK : va_K D k_cl (k_ty cI cR cG) s) (hG : k_G k_ns s) {q w ro en gr : Nat → Nat} {i : Nat} (hi : i + 5 ≤ L) (kk : lK p l e s m below meth c b Qf D cI cR cG q w ro en gr i 501) : lK p l e s m below meth c b Qf D cI cR cG q w ro en gr i 211 := by
  obtain ⟨hx, hb, hr, hml, hown, hts, hX, hbl, hlocks, -⟩ := C0
  intro t K fi sc nn of se n np r sd lm sf st pc tr fc cn E Pl kn ch le mf mt on ot nu G E0 mn ff pl hI H locs ls hP hD hS hl
  have hA : ∀ q, s.heap.size ≤ q → (fun q => s.heap.size ≤ q) q := fun _ h => h
  have hbA : ¬ (fun q => s.heap.size ≤ q) b := Nat.not_le.mpr hbl
  have hI0 := hI
  obtain ⟨⟨ht, hn, hok, hmo, hK0, hnu⟩, ⟨hE, hrn, hrows, hG0, hE0⟩, ⟨hnp, hof, hse⟩, ⟨hsd, hset, hph⟩, ⟨hkn, hpl, hgo, hkno⟩⟩ := hI
  refine lv_aload_n hx hb d_law_211 rfl (lv_at hl 1 rfl) ?_
  refine k_beIX (va_runV (As := []) (rest := []) ⟨hx, hb, hml, hown, hts⟩ (c_Pm_forget l D cI cR cG q n r  _) (cwV 0 hts (k_gVL ll_28 rfl kw_instanceMethod_Pm_forget kw_selects_Pm_forget kw_initialized_Pm kw_code_Pm_forget) rfl rfl rfl (by decide +kernel) ⟨(Nat.le_of_ble_eq_true rfl), (Nat.le_of_ble_eq_true rfl)⟩) (k_preVX (q0 := 0) hK hG hP hD [0, 2] rfl rfl rfl rfl) rfl rfl hl.1 rfl (lv_room (Nat.le_of_ble_eq_true rfl)) d_law_212 ⟨(Nat.le_of_ble_eq_true rfl), (Nat.le_of_ble_eq_true rfl)⟩) hP hD hS hA [0, 2] rfl (Eq.trans (b := [q 0, q 2]) rfl rfl) ?_
  clear hP hD hS; intro H locs hP hD hS
  replace hP : va_P D k_cl (lX cI cR cG q w ro gr t K fi sc nn of se 0 np 0 sd lm sf st pc tr fc cn t K of se n np kn ch le mf mt on ot nu G E0 mn ff pl ++ (k_pp cI ro en E ++ k_p3 cI gr Pl)) H := hP
  replace hD : va_D (fun q => s.heap.size ≤ q) (lX cI cR cG q w ro gr t K fi sc nn of se 0 np 0 sd lm sf st pc tr fc cn t K of se n np kn ch le mf mt on ot nu G E0 mn ff pl ++ (k_pp cI ro en E ++ k_p3 cI gr Pl)) := hD
  refine lv_aload_n hx hb d_law_215 rfl (lv_at hl 2 rfl) ?_
  refine k_beIX (va_runV (As := []) (rest := [.int (zI ↑n)]) ⟨hx, hb, hml, hown, hts⟩ (c_Mo_forget l D cI cR cG w n np kn ch le mf mt  _) (cwV 0 hts (k_gVL ll_31 rfl kw_instanceMethod_Mo_forget kw_selects_Mo_forget kw_initialized_Mo kw_code_Mo_forget) rfl rfl rfl (by decide +kernel) ⟨(Nat.le_of_ble_eq_true rfl), (Nat.le_of_ble_eq_true rfl)⟩) (k_preVX (q0 := 0) hK hG hP hD [16] rfl rfl rfl rfl) rfl rfl hl.1 rfl (lv_room (Nat.le_of_ble_eq_true rfl)) d_law_216 ⟨(Nat.le_of_ble_eq_true rfl), (Nat.le_of_ble_eq_true rfl)⟩) hP hD hS hA [16] rfl (Eq.trans (b := [w 0]) rfl rfl) ?_
  clear hP hD hS; intro H locs hP hD hS
  replace hP : va_P D k_cl (lX cI cR cG q w ro gr t K fi sc nn of se 0 np 0 sd lm sf st pc tr fc cn t K of se 0 np kn ch le mf mt on ot nu G E0 mn ff pl ++ (k_pp cI ro en E ++ k_p3 cI gr Pl)) H := hP
  replace hD : va_D (fun q => s.heap.size ≤ q) (lX cI cR cG q w ro gr t K fi sc nn of se 0 np 0 sd lm sf st pc tr fc cn t K of se 0 np kn ch le mf mt on ot nu G E0 mn ff pl ++ (k_pp cI ro en E ++ k_p3 cI gr Pl)) := hD
  refine k_sameI (tgt := 501) hx hb d_law_219 (by decide) rfl ?_
  exact kk t K fi sc nn of se 0 np 0 sd lm sf st pc tr fc cn E Pl kn ch le mf mt on ot nu G E0 mn ff pl ⟨⟨ht, Nat.zero_le _, fun j hj => by omega, fun j hj => by omega, hK0, hnu⟩, ⟨hE, Nat.le_refl _, isRows0, hG0, hE0⟩, ⟨hnp, hof, hse⟩, ⟨hsd, hset, hph⟩, ⟨hkn, hpl, hgo, hkno⟩⟩ _ _ _ hP hD hS hl
