theorem lk_next {p : Program} {e : Env} {s : State} {m : MethodId} {below : List Frame} {meth : Method} {c : Code} {Qf : State → Prop} (l : Launch) {b L : Nat} {xs : Nat → Int32} (hL : L ≤ 2560) (C0 : lw_At p s m meth c b L xs) {D : va_G} {cI cR cG : ClassId} (hK : va_K D k_cl (k_ty cI cR cG) s) (hG : k_G k_ns s) {q w ro en gr : Nat → Nat} {i : Nat} (kk : lK p l e s m below meth c b Qf D cI cR cG q w ro en gr (i + 5) 18) : lK p l e s m below meth c b Qf D cI cR cG q w ro en gr i 501 := by
  obtain ⟨hx, hb, hr, hml, hown, hts, hX, hbl, hlocks, -⟩ := C0
  intro t K fi sc nn of se n np r sd lm sf st pc tr fc cn E Pl kn ch le mf mt on ot nu G E0 mn ff pl hI H locs ls hP hD hS hl
  refine k_iinc (v := ↑(i + 5)) (lv' := [(3, .int (zI ↑(i + 5))), (0, .ref b), (1, .ref (q 0)), (2, .ref (w 0))]) hx hb d_law_501 hl (k := 3) rfl (by omega) (by decide) rfl ?_
  clear hl; intro ls hl
  refine lv_goto (tgt := 18) hx hb d_law_504 (by decide) ?_
  exact kk t K fi sc nn of se n np r sd lm sf st pc tr fc cn E Pl kn ch le mf mt on ot nu G E0 mn ff pl hI _ _ _ hP hD hS (lv_sub hl [1, 2, 3, 0] rfl)
set_option maxHeartbeats 4000000 in
theorem lk_26 {p : Program} {e : Env} {s : State} {m : MethodId} {below : List Frame} {meth : Method} {c : Code} {Qf : State → Prop} (l : Launch) {b L : Nat} {xs : Nat → Int32} (hL : L ≤ 2560) (C0 : lw_At p s m meth c b L xs) {D : va_G} {cI cR cG : ClassId} (hK : va_K D k_cl (k_ty cI cR cG) s) (hG : k_G k_ns s) {q w ro en gr : Nat → Nat} {i : Nat} (hi : i + 5 ≤ L) (kk : lK p l e s m below meth c b Qf D cI cR cG q w ro en gr i 501) : lK p l e s m below meth c b Qf D cI cR cG q w ro en gr i 26 := by
  have C1 := C0
  obtain ⟨hx, hb, hr, hml, hown, hts, hX, hbl, hlocks, -⟩ := C0
  have k_put := lc_put l hL C1 hK hG hi kk
  have k_clear := lc_clear l hL C1 hK hG hi kk
  have k_ask := lc_ask l hL C1 hK hG hi kk
  have k_forget := lc_forget l hL C1 hK hG hi kk
  have k_count := lc_count l hL C1 hK hG hi kk
  have k_begin := lc_begin l hL C1 hK hG hi kk
  have k_end := lc_end l hL C1 hK hG hi kk
  have k_covered := lc_covered l hL C1 hK hG hi kk
  have k_slot := lc_slot l hL C1 hK hG hi kk
  have k_unslot := lc_unslot l hL C1 hK hG hi kk
  have k_matches := lc_matches l hL C1 hK hG hi kk
  have k_weight := lc_weight l hL C1 hK hG hi kk
  have k_least := lc_least l hL C1 hK hG hi kk
  have k_chosen := lc_chosen l hL C1 hK hG hi kk
  have k_ties := lc_ties l hL C1 hK hG hi kk
  have k_shortest := lc_shortest l hL C1 hK hG hi kk
  intro t K fi sc nn of se n np r sd lm sf st pc tr fc cn E Pl kn ch le mf mt on ot nu G E0 mn ff pl hI H locs ls hP hD hS hl
  have hbA : ¬ (fun q => s.heap.size ≤ q) b := Nat.not_le.mpr hbl
  refine lv_aload_n hx hb d_law_26 rfl (lv_at hl 0 rfl) ?_
  refine lv_iload_n hx hb d_law_27 rfl (lv_at hl 3 rfl) ?_
  refine k_sld hx hb hX hbl hbA hS (j := i) rfl (by omega) hL d_law_28 ?_
  refine lv_bipush (v := zI 15) hx hb d_law_29 (by decide) ?_
  refine lv_iand hx hb d_law_31 ?_
  obtain ⟨v, hv, ev⟩ := k_and15 (xz xs i)
  rw [ev]
  rcases (show v = 0 ∨ v = 1 ∨ v = 2 ∨ v = 3 ∨ v = 4 ∨ v = 5 ∨ v = 6 ∨ v = 7 ∨ v = 8 ∨ v = 9 ∨ v = 10 ∨ v = 11 ∨ v = 12 ∨ v = 13 ∨ v = 14 ∨ v = 15 by omega) with rfl | rfl | rfl | rfl | rfl | rfl | rfl | rfl | rfl | rfl | rfl | rfl | rfl | rfl | rfl | rfl
  · exact lv_tableIn (off := 80) (tgt := 112) hx hb d_law_32 (by decide +kernel) (by decide +kernel) (by decide +kernel) (by decide) (k_put t K fi sc nn of se n np r sd lm sf st pc tr fc cn E Pl kn ch le mf mt on ot nu G E0 mn ff pl hI _ _ _ hP hD hS hl)
  · exact lv_tableIn (off := 113) (tgt := 145) hx hb d_law_32 (by decide +kernel) (by decide +kernel) (by decide +kernel) (by decide) (k_clear t K fi sc nn of se n np r sd lm sf st pc tr fc cn E Pl kn ch le mf mt on ot nu G E0 mn ff pl hI _ _ _ hP hD hS hl)
  · exact lv_tableIn (off := 126) (tgt := 158) hx hb d_law_32 (by decide +kernel) (by decide +kernel) (by decide +kernel) (by decide) (k_ask t K fi sc nn of se n np r sd lm sf st pc tr fc cn E Pl kn ch le mf mt on ot nu G E0 mn ff pl hI _ _ _ hP hD hS hl)
  · exact lv_tableIn (off := 179) (tgt := 211) hx hb d_law_32 (by decide +kernel) (by decide +kernel) (by decide +kernel) (by decide) (k_forget t K fi sc nn of se n np r sd lm sf st pc tr fc cn E Pl kn ch le mf mt on ot nu G E0 mn ff pl hI _ _ _ hP hD hS hl)
  · exact lv_tableIn (off := 192) (tgt := 224) hx hb d_law_32 (by decide +kernel) (by decide +kernel) (by decide +kernel) (by decide) (k_count t K fi sc nn of se n np r sd lm sf st pc tr fc cn E Pl kn ch le mf mt on ot nu G E0 mn ff pl hI _ _ _ hP hD hS hl)
  · exact lv_tableIn (off := 215) (tgt := 247) hx hb d_law_32 (by decide +kernel) (by decide +kernel) (by decide +kernel) (by decide) (k_begin t K fi sc nn of se n np r sd lm sf st pc tr fc cn E Pl kn ch le mf mt on ot nu G E0 mn ff pl hI _ _ _ hP hD hS hl)
  · exact lv_tableIn (off := 248) (tgt := 280) hx hb d_law_32 (by decide +kernel) (by decide +kernel) (by decide +kernel) (by decide) (k_end t K fi sc nn of se n np r sd lm sf st pc tr fc cn E Pl kn ch le mf mt on ot nu G E0 mn ff pl hI _ _ _ hP hD hS hl)
  · exact lv_tableIn (off := 281) (tgt := 313) hx hb d_law_32 (by decide +kernel) (by decide +kernel) (by decide +kernel) (by decide) (k_covered t K fi sc nn of se n np r sd lm sf st pc tr fc cn E Pl kn ch le mf mt on ot nu G E0 mn ff pl hI _ _ _ hP hD hS hl)
  · exact lv_tableIn (off := 304) (tgt := 336) hx hb d_law_32 (by decide +kernel) (by decide +kernel) (by decide +kernel) (by decide) (k_slot t K fi sc nn of se n np r sd lm sf st pc tr fc cn E Pl kn ch le mf mt on ot nu G E0 mn ff pl hI _ _ _ hP hD hS hl)
  · exact lv_tableIn (off := 337) (tgt := 369) hx hb d_law_32 (by decide +kernel) (by decide +kernel) (by decide +kernel) (by decide) (k_unslot t K fi sc nn of se n np r sd lm sf st pc tr fc cn E Pl kn ch le mf mt on ot nu G E0 mn ff pl hI _ _ _ hP hD hS hl)
  · exact lv_tableIn (off := 350) (tgt := 382) hx hb d_law_32 (by decide +kernel) (by decide +kernel) (by decide +kernel) (by decide) (k_matches t K fi sc nn of se n np r sd lm sf st pc tr fc cn E Pl kn ch le mf mt on ot nu G E0 mn ff pl hI _ _ _ hP hD hS hl)
  · exact lv_tableIn (off := 373) (tgt := 405) hx hb d_law_32 (by decide +kernel) (by decide +kernel) (by decide +kernel) (by decide) (k_weight t K fi sc nn of se n np r sd lm sf st pc tr fc cn E Pl kn ch le mf mt on ot nu G E0 mn ff pl hI _ _ _ hP hD hS hl)
  · exact lv_tableIn (off := 397) (tgt := 429) hx hb d_law_32 (by decide +kernel) (by decide +kernel) (by decide +kernel) (by decide) (k_least t K fi sc nn of se n np r sd lm sf st pc tr fc cn E Pl kn ch le mf mt on ot nu G E0 mn ff pl hI _ _ _ hP hD hS hl)
  · exact lv_tableIn (off := 410) (tgt := 442) hx hb d_law_32 (by decide +kernel) (by decide +kernel) (by decide +kernel) (by decide) (k_chosen t K fi sc nn of se n np r sd lm sf st pc tr fc cn E Pl kn ch le mf mt on ot nu G E0 mn ff pl hI _ _ _ hP hD hS hl)
  · exact lv_tableIn (off := 433) (tgt := 465) hx hb d_law_32 (by decide +kernel) (by decide +kernel) (by decide +kernel) (by decide) (k_ties t K fi sc nn of se n np r sd lm sf st pc tr fc cn E Pl kn ch le mf mt on ot nu G E0 mn ff pl hI _ _ _ hP hD hS hl)
  · exact lv_tableIn (off := 446) (tgt := 478) hx hb d_law_32 (by decide +kernel) (by decide +kernel) (by decide +kernel) (by decide) (k_shortest t K fi sc nn of se n np r sd lm sf st pc tr fc cn E Pl kn ch le mf mt on ot nu G E0 mn ff pl hI _ _ _ hP hD hS hl)
theorem lk_18 {p : Program} {e : Env} {s : State} {m : MethodId} {below : List Frame} {meth : Method} {c : Code} {Qf : State → Prop} (l : Launch) {b L : Nat} {xs : Nat → Int32} (hL : L ≤ 2560) (C0 : lw_At p s m meth c b L xs) {D : va_G} {cI cR cG : ClassId} (hK : va_K D k_cl (k_ty cI cR cG) s) (hG : k_G k_ns s) {q w ro en gr : Nat → Nat} (fin : ∀ i, lK p l e s m below meth c b Qf D cI cR cG q w ro en gr i 507) : ∀ (d i : Nat), i ≤ 2560 → L < i + 5 + d → lK p l e s m below meth c b Qf D cI cR cG q w ro en gr i 18 := by
  have C1 := C0
  obtain ⟨hx, hb, hr, hml, hown, hts, hX, hbl, hlocks, -⟩ := C0
  intro d
  induction d with
  | zero =>
    intro i hi0 hd
    intro t K fi sc nn of se n np r sd lm sf st pc tr fc cn E Pl kn ch le mf mt on ot nu G E0 mn ff pl hI H locs ls hP hD hS hl
    have hbA : ¬ (fun q => s.heap.size ≤ q) b := Nat.not_le.mpr hbl
    refine lv_iload_n hx hb d_law_18 rfl (lv_at hl 3 rfl) ?_
    refine lv_aload_n hx hb d_law_19 rfl (lv_at hl 0 rfl) ?_
    refine k_slen hx hb hX hbl hbA hS d_law_20 ?_
    refine lv_iconst (v := zI 5) hx hb d_law_21 (by decide) ?_
    refine k_isub hx hb d_law_22 rfl ?_
    refine k_icmp_gt (tgt := 507) hx hb d_law_23 (by decide) ⟨by omega, by omega⟩ ⟨by omega, by omega⟩ (fun c_23 => ?_) (fun c_23 => ?_)
    · exact fin i t K fi sc nn of se n np r sd lm sf st pc tr fc cn E Pl kn ch le mf mt on ot nu G E0 mn ff pl hI _ _ _ hP hD hS hl
    · exfalso; omega
  | succ d ih =>
    intro i hi0 hd
    have hgo : i + 5 ≤ L → lK p l e s m below meth c b Qf D cI cR cG q w ro en gr i 26 := fun h5 => lk_26 l hL C1 hK hG h5 (lk_next l hL C1 hK hG (ih (i + 5) (by omega) (by omega)))
    intro t K fi sc nn of se n np r sd lm sf st pc tr fc cn E Pl kn ch le mf mt on ot nu G E0 mn ff pl hI H locs ls hP hD hS hl
    have hbA : ¬ (fun q => s.heap.size ≤ q) b := Nat.not_le.mpr hbl
    refine lv_iload_n hx hb d_law_18 rfl (lv_at hl 3 rfl) ?_
    refine lv_aload_n hx hb d_law_19 rfl (lv_at hl 0 rfl) ?_
    refine k_slen hx hb hX hbl hbA hS d_law_20 ?_
    refine lv_iconst (v := zI 5) hx hb d_law_21 (by decide) ?_
    refine k_isub hx hb d_law_22 rfl ?_
    refine k_icmp_gt (tgt := 507) hx hb d_law_23 (by decide) ⟨by omega, by omega⟩ ⟨by omega, by omega⟩ (fun c_23 => ?_) (fun c_23 => ?_)
    · exact fin i t K fi sc nn of se n np r sd lm sf st pc tr fc cn E Pl kn ch le mf mt on ot nu G E0 mn ff pl hI _ _ _ hP hD hS hl
    · exact hgo (by omega) t K fi sc nn of se n np r sd lm sf st pc tr fc cn E Pl kn ch le mf mt on ot nu G E0 mn ff pl hI _ _ _ hP hD hS hl
theorem lk_end {p : Program} {e : Env} {s : State} {m : MethodId} {below : List Frame} {meth : Method} {c : Code} (l : Launch) {b L : Nat} {xs : Nat → Int32} (C0 : lw_At p s m meth c b L xs) {D : va_G} {cI cR cG : ClassId} {q w ro en gr : Nat → Nat} (i : Nat) : lK p l e s m below meth c b (lw_Z below #[Value.ref b] s) D cI cR cG q w ro en gr i 507 := by
  obtain ⟨hx, hb, hr, hml, hown, hts, hX, hbl, hlocks, -⟩ := C0
  intro t K fi sc nn of se n np r sd lm sf st pc tr fc cn E Pl kn ch le mf mt on ot nu G E0 mn ff pl hI H locs ls hP hD hS hl
  refine lv_iconst (v := 1) hx hb d_law_507 (by decide) ?_
  refine va_forget (fun q hq => hS.2.2 q hq) ?_
  exact lw_ret hx hb hr hlocks d_law_508
