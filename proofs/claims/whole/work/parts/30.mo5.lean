abbrev rm_Mo_matches_1 : Room := { frames := 0, cells := 0, slots := 0, locals := 0 }
set_option maxHeartbeats 4000000 in
set_option maxRecDepth 100000 in
theorem c_Mo_matches_1 (l : Launch) (D : va_G) (cI cR cG : ClassId) (w : Nat → Nat) (n np kn ch : Nat) (le sf st : Int) (x : Int) (hx1 : k_sm x) (hb : ¬ (0 ≤ x ∧ x ≤ 9)) : k_M l y_Mo_matches (.code y_Mo_matches b_Mo_matches 4 (some .int) :: kW) rm_Mo_matches_1 D k_cl (k_ty cI cR cG) [.ref (w 0), .int (zI x)] ([(w 0, .inr (4, [.ref (w 1), .int (zI ↑n), .ref (w 2), .ref (w 3), .ref (w 4), .ref (w 5), .int (zI ↑np), .ref (w 6), .ref (w 7), .int (zI ↑kn), .ref (w 8), .ref (w 9), .ref (w 10), .int (zI ↑ch), .int (zI le), .ref (w 11), .int (zI sf), .int (zI st), .ref (w 12)]))]) (k_Qi D k_cl (zI (-2)) [(w 0, .inr (4, [.ref (w 1), .int (zI ↑n), .ref (w 2), .ref (w 3), .ref (w 4), .ref (w 5), .int (zI ↑np), .ref (w 6), .ref (w 7), .int (zI ↑kn), .ref (w 8), .ref (w 9), .ref (w 10), .int (zI ↑ch), .int (zI le), .ref (w 11), .int (zI sf), .int (zI st), .ref (w 12)]))]) := by
  refine k_start (cc := b_Mo_matches) (maxL := 4) (ret := (some .int)) (by decide) rfl (Nat.le_of_ble_eq_true rfl) ?_
  intro p ev s m ar below meth c A ls Qf hQf hx hb hr hml hts hown hlocks hin hK hG hA hP hD hS hl
  replace hown : s.vm.findClass R_Mo = some m.cls := hown
  replace hl : lv_has ls 4 [(0, .ref (w 0)), (1, .int (zI x))] := hl
  have hkw : ∀ w ∈ kW, w.before ar s = true := fun w h => hts w (List.mem_cons_of_mem _ h)
  replace hP : va_P D k_cl ([(w 0, .inr (4, [.ref (w 1), .int (zI ↑n), .ref (w 2), .ref (w 3), .ref (w 4), .ref (w 5), .int (zI ↑np), .ref (w 6), .ref (w 7), .int (zI ↑kn), .ref (w 8), .ref (w 9), .ref (w 10), .int (zI ↑ch), .int (zI le), .ref (w 11), .int (zI sf), .int (zI st), .ref (w 12)]))]) s.heap := hP
  replace hD : va_D A ([(w 0, .inr (4, [.ref (w 1), .int (zI ↑n), .ref (w 2), .ref (w 3), .ref (w 4), .ref (w 5), .int (zI ↑np), .ref (w 6), .ref (w 7), .int (zI ↑kn), .ref (w 8), .ref (w 9), .ref (w 10), .int (zI ↑ch), .int (zI le), .ref (w 11), .int (zI sf), .int (zI st), .ref (w 12)]))]) := hD
  have hx2 := hx1.1
  have hx3 := hx1.2
  refine lv_iload_n hx hb d_Mo_matches_0 rfl (lv_at hl 1 rfl) ?_
  refine k_if_lt (tgt := 10) hx hb d_Mo_matches_1 (by decide) ⟨by omega, by omega⟩ (fun c_1 => ?_) (fun c_1 => ?_)
  · refine lv_bipush (v := zI (-2)) hx hb d_Mo_matches_10 (by decide) ?_
    rw [← hQf]
    exact k_iret hx hb hr hlocks hP hS rfl d_Mo_matches_12
  · refine lv_iload_n hx hb d_Mo_matches_4 rfl (lv_at hl 1 rfl) ?_
    refine lv_bipush (v := zI 9) hx hb d_Mo_matches_5 (by decide) ?_
    refine k_icmp_le (tgt := 13) hx hb d_Mo_matches_7 (by decide) ⟨by omega, by omega⟩ ⟨by omega, by omega⟩ (fun c_7 => ?_) (fun c_7 => ?_)
    · exfalso; omega
    · refine lv_bipush (v := zI (-2)) hx hb d_Mo_matches_10 (by decide) ?_
      rw [← hQf]
      exact k_iret hx hb hr hlocks hP hS rfl d_Mo_matches_12

abbrev rm_Mo_matches_2 : Room := { frames := 5, cells := 0, slots := 0, locals := 122 }
set_option maxHeartbeats 4000000 in
set_option maxRecDepth 100000 in
theorem c_Mo_matches_2 (l : Launch) (D : va_G) (cI cR cG : ClassId) (w : Nat → Nat) (n np kn ch : Nat) (le sf st : Int) (t of se mn : Nat → Nat) (fi pl : Nat → Int) (N : Nat) (sl : Nat) (hsl : sl ≤ 9) (hkn : kn ≤ 1) (hnp : np ≤ 4) (ht : ∀ j, t j ≤ 1023) (hof : ∀ j, of j ≤ 9) (hse : ∀ j, se j ≤ 1023) (hpl : ∀ j, -1 ≤ pl j ∧ pl j ≤ 30) (hok : gOK (mn, ch, le, fi, sf, st)) (hN : N ≤ 1000000) (hfin : kn = 0 → 1 ≤ np → (gRun t of se np N (0, va_up pl 0 (-1), (fun _ => 0), 0, le, fi, sf, st)).1 < 0) : k_M l y_Mo_matches (.code y_Mo_matches b_Mo_matches 4 (some .int) :: kW) rm_Mo_matches_2 D k_cl (k_ty cI cR cG) [.ref (w 0), .int (zI ↑sl)] ([(w 0, .inr (4, [.ref (w 1), .int (zI ↑n), .ref (w 2), .ref (w 3), .ref (w 4), .ref (w 5), .int (zI ↑np), .ref (w 6), .ref (w 7), .int (zI ↑kn), .ref (w 8), .ref (w 9), .ref (w 10), .int (zI ↑ch), .int (zI le), .ref (w 11), .int (zI sf), .int (zI st), .ref (w 12)])), (w 1, .inl (cI, 30, .inl (kA t))), (w 6, .inl (cI, 4, .inl (kA of))), (w 7, .inl (cI, 4, .inl (kA se))), (w 10, .inl (cI, 200, .inl (kA mn))), (w 11, .inl (cI, 4, .inl (kZ fi))), (w 12, .inl (cI, 4, .inl (kZ pl)))]) (k_Qi D k_cl (zI ↑(cSum ((knowF kn np t of se N (pl, mn, ch, le, fi, sf, st)).2.1) (sl + 1) 0 0)) [(w 0, .inr (4, [.ref (w 1), .int (zI ↑n), .ref (w 2), .ref (w 3), .ref (w 4), .ref (w 5), .int (zI ↑np), .ref (w 6), .ref (w 7), .int (zI 1), .ref (w 8), .ref (w 9), .ref (w 10), .int (zI (↑((knowF kn np t of se N (pl, mn, ch, le, fi, sf, st)).2.2.1))), .int (zI ((knowF kn np t of se N (pl, mn, ch, le, fi, sf, st)).2.2.2.1)), .ref (w 11), .int (zI ((knowF kn np t of se N (pl, mn, ch, le, fi, sf, st)).2.2.2.2.2.1)), .int (zI ((knowF kn np t of se N (pl, mn, ch, le, fi, sf, st)).2.2.2.2.2.2)), .ref (w 12)])), (w 1, .inl (cI, 30, .inl (kA t))), (w 6, .inl (cI, 4, .inl (kA of))), (w 7, .inl (cI, 4, .inl (kA se))), (w 10, .inl (cI, 200, .inl (kA ((knowF kn np t of se N (pl, mn, ch, le, fi, sf, st)).2.1)))), (w 11, .inl (cI, 4, .inl (kZ ((knowF kn np t of se N (pl, mn, ch, le, fi, sf, st)).2.2.2.2.1)))), (w 12, .inl (cI, 4, .inl (kZ ((knowF kn np t of se N (pl, mn, ch, le, fi, sf, st)).1))))]) := by
  refine k_start (cc := b_Mo_matches) (maxL := 4) (ret := (some .int)) (by decide) rfl (Nat.le_of_ble_eq_true rfl) ?_
  intro p ev s m ar below meth c A ls Qf hQf hx hb hr hml hts hown hlocks hin hK hG hA hP hD hS hl
  replace hown : s.vm.findClass R_Mo = some m.cls := hown
  replace hl : lv_has ls 4 [(0, .ref (w 0)), (1, .int (zI ↑sl))] := hl
  have hkw : ∀ w ∈ kW, w.before ar s = true := fun w h => hts w (List.mem_cons_of_mem _ h)
  replace hP : va_P D k_cl ([(w 0, .inr (4, [.ref (w 1), .int (zI ↑n), .ref (w 2), .ref (w 3), .ref (w 4), .ref (w 5), .int (zI ↑np), .ref (w 6), .ref (w 7), .int (zI ↑kn), .ref (w 8), .ref (w 9), .ref (w 10), .int (zI ↑ch), .int (zI le), .ref (w 11), .int (zI sf), .int (zI st), .ref (w 12)])), (w 1, .inl (cI, 30, .inl (kA t))), (w 6, .inl (cI, 4, .inl (kA of))), (w 7, .inl (cI, 4, .inl (kA se))), (w 10, .inl (cI, 200, .inl (kA mn))), (w 11, .inl (cI, 4, .inl (kZ fi))), (w 12, .inl (cI, 4, .inl (kZ pl)))]) s.heap := hP
  replace hD : va_D A ([(w 0, .inr (4, [.ref (w 1), .int (zI ↑n), .ref (w 2), .ref (w 3), .ref (w 4), .ref (w 5), .int (zI ↑np), .ref (w 6), .ref (w 7), .int (zI ↑kn), .ref (w 8), .ref (w 9), .ref (w 10), .int (zI ↑ch), .int (zI le), .ref (w 11), .int (zI sf), .int (zI st), .ref (w 12)])), (w 1, .inl (cI, 30, .inl (kA t))), (w 6, .inl (cI, 4, .inl (kA of))), (w 7, .inl (cI, 4, .inl (kA se))), (w 10, .inl (cI, 200, .inl (kA mn))), (w 11, .inl (cI, 4, .inl (kZ fi))), (w 12, .inl (cI, 4, .inl (kZ pl)))]) := hD
  refine lv_iload_n hx hb d_Mo_matches_0 rfl (lv_at hl 1 rfl) ?_
  refine k_if_lt (tgt := 10) hx hb d_Mo_matches_1 (by decide) ⟨by omega, by omega⟩ (fun c_1 => ?_) (fun c_1 => ?_)
  · exfalso; omega
  · refine lv_iload_n hx hb d_Mo_matches_4 rfl (lv_at hl 1 rfl) ?_
    refine lv_bipush (v := zI 9) hx hb d_Mo_matches_5 (by decide) ?_
    refine k_icmp_le (tgt := 13) hx hb d_Mo_matches_7 (by decide) ⟨by omega, by omega⟩ ⟨by omega, by omega⟩ (fun c_7 => ?_) (fun c_7 => ?_)
    · refine lv_aload_n hx hb d_Mo_matches_13 rfl (lv_at hl 0 rfl) ?_
      refine k_beV (va_runV (As := []) (rest := []) ⟨hx, hb, hml, hown, hkw⟩ (c_Mo_know l D cI cR cG w n np kn ch le sf st t of se mn fi pl N hkn hnp ht hof hse hpl hok hN hfin _) (cwV 0 hkw (k_gV kw_methodLink_Mo_122 kw_instanceMethod_Mo_know kw_selects_Mo_know kw_initialized_Mo kw_code_Mo_know) rfl rfl rfl (by decide +kernel) ⟨Nat.le_of_ble_eq_true rfl, Nat.le_of_ble_eq_true rfl⟩) (k_preV (q0 := 0) hK hG hP hD [0, 1, 2, 3, 4, 5, 6] rfl rfl rfl rfl) rfl rfl hl.1 rfl (lv_room (Nat.le_of_ble_eq_true rfl)) d_Mo_matches_14 ⟨Nat.zero_le _, Nat.zero_le _⟩) hP hD hS hA [0, 1, 2, 3, 4, 5, 6] rfl (Eq.trans (b := [w 0, w 1, w 6, w 7, w 10, w 11, w 12]) rfl rfl) ?_
      clear hP hD hS; intro H locs hP hD hS
      replace hP : va_P D k_cl ([(w 0, .inr (4, [.ref (w 1), .int (zI ↑n), .ref (w 2), .ref (w 3), .ref (w 4), .ref (w 5), .int (zI ↑np), .ref (w 6), .ref (w 7), .int (zI 1), .ref (w 8), .ref (w 9), .ref (w 10), .int (zI (↑((knowF kn np t of se N (pl, mn, ch, le, fi, sf, st)).2.2.1))), .int (zI ((knowF kn np t of se N (pl, mn, ch, le, fi, sf, st)).2.2.2.1)), .ref (w 11), .int (zI ((knowF kn np t of se N (pl, mn, ch, le, fi, sf, st)).2.2.2.2.2.1)), .int (zI ((knowF kn np t of se N (pl, mn, ch, le, fi, sf, st)).2.2.2.2.2.2)), .ref (w 12)])), (w 1, .inl (cI, 30, .inl (kA t))), (w 6, .inl (cI, 4, .inl (kA of))), (w 7, .inl (cI, 4, .inl (kA se))), (w 10, .inl (cI, 200, .inl (kA ((knowF kn np t of se N (pl, mn, ch, le, fi, sf, st)).2.1)))), (w 11, .inl (cI, 4, .inl (kZ ((knowF kn np t of se N (pl, mn, ch, le, fi, sf, st)).2.2.2.2.1)))), (w 12, .inl (cI, 4, .inl (kZ ((knowF kn np t of se N (pl, mn, ch, le, fi, sf, st)).1))))]) H := hP
      replace hD : va_D A ([(w 0, .inr (4, [.ref (w 1), .int (zI ↑n), .ref (w 2), .ref (w 3), .ref (w 4), .ref (w 5), .int (zI ↑np), .ref (w 6), .ref (w 7), .int (zI 1), .ref (w 8), .ref (w 9), .ref (w 10), .int (zI (↑((knowF kn np t of se N (pl, mn, ch, le, fi, sf, st)).2.2.1))), .int (zI ((knowF kn np t of se N (pl, mn, ch, le, fi, sf, st)).2.2.2.1)), .ref (w 11), .int (zI ((knowF kn np t of se N (pl, mn, ch, le, fi, sf, st)).2.2.2.2.2.1)), .int (zI ((knowF kn np t of se N (pl, mn, ch, le, fi, sf, st)).2.2.2.2.2.2)), .ref (w 12)])), (w 1, .inl (cI, 30, .inl (kA t))), (w 6, .inl (cI, 4, .inl (kA of))), (w 7, .inl (cI, 4, .inl (kA se))), (w 10, .inl (cI, 200, .inl (kA ((knowF kn np t of se N (pl, mn, ch, le, fi, sf, st)).2.1)))), (w 11, .inl (cI, 4, .inl (kZ ((knowF kn np t of se N (pl, mn, ch, le, fi, sf, st)).2.2.2.2.1)))), (w 12, .inl (cI, 4, .inl (kZ ((knowF kn np t of se N (pl, mn, ch, le, fi, sf, st)).1))))]) := hD
      obtain ⟨p2, hp2⟩ : ∃ p2 : Nat → Int, p2 = (knowF kn np t of se N (pl, mn, ch, le, fi, sf, st)).1 := ⟨_, rfl⟩
      obtain ⟨m2, hm2⟩ : ∃ m2 : Nat → Nat, m2 = (knowF kn np t of se N (pl, mn, ch, le, fi, sf, st)).2.1 := ⟨_, rfl⟩
      obtain ⟨c2, hc2⟩ : ∃ c2 : Nat, c2 = (knowF kn np t of se N (pl, mn, ch, le, fi, sf, st)).2.2.1 := ⟨_, rfl⟩
      obtain ⟨l2, hl2⟩ : ∃ l2 : Int, l2 = (knowF kn np t of se N (pl, mn, ch, le, fi, sf, st)).2.2.2.1 := ⟨_, rfl⟩
      obtain ⟨f2, hf2⟩ : ∃ f2 : Nat → Int, f2 = (knowF kn np t of se N (pl, mn, ch, le, fi, sf, st)).2.2.2.2.1 := ⟨_, rfl⟩
      obtain ⟨a2, ha2⟩ : ∃ a2 : Int, a2 = (knowF kn np t of se N (pl, mn, ch, le, fi, sf, st)).2.2.2.2.2.1 := ⟨_, rfl⟩
      obtain ⟨b2, hb2⟩ : ∃ b2 : Int, b2 = (knowF kn np t of se N (pl, mn, ch, le, fi, sf, st)).2.2.2.2.2.2 := ⟨_, rfl⟩
      replace hP : va_P D k_cl ([(w 0, .inr (4, [.ref (w 1), .int (zI ↑n), .ref (w 2), .ref (w 3), .ref (w 4), .ref (w 5), .int (zI ↑np), .ref (w 6), .ref (w 7), .int (zI 1), .ref (w 8), .ref (w 9), .ref (w 10), .int (zI ↑c2), .int (zI l2), .ref (w 11), .int (zI a2), .int (zI b2), .ref (w 12)])), (w 1, .inl (cI, 30, .inl (kA t))), (w 6, .inl (cI, 4, .inl (kA of))), (w 7, .inl (cI, 4, .inl (kA se))), (w 10, .inl (cI, 200, .inl (kA m2))), (w 11, .inl (cI, 4, .inl (kZ f2))), (w 12, .inl (cI, 4, .inl (kZ p2)))]) H := by rw [hp2, hm2, hc2, hl2, hf2, ha2, hb2]; exact hP
      replace hD : va_D A ([(w 0, .inr (4, [.ref (w 1), .int (zI ↑n), .ref (w 2), .ref (w 3), .ref (w 4), .ref (w 5), .int (zI ↑np), .ref (w 6), .ref (w 7), .int (zI 1), .ref (w 8), .ref (w 9), .ref (w 10), .int (zI ↑c2), .int (zI l2), .ref (w 11), .int (zI a2), .int (zI b2), .ref (w 12)])), (w 1, .inl (cI, 30, .inl (kA t))), (w 6, .inl (cI, 4, .inl (kA of))), (w 7, .inl (cI, 4, .inl (kA se))), (w 10, .inl (cI, 200, .inl (kA m2))), (w 11, .inl (cI, 4, .inl (kZ f2))), (w 12, .inl (cI, 4, .inl (kZ p2)))]) := by rw [hp2, hm2, hc2, hl2, hf2, ha2, hb2]; exact hD
      refine lv_iconst (v := zI 0) hx hb d_Mo_matches_17 (by decide) ?_
      refine lv_istore_n (lv' := [(2, .int (zI 0)), (0, .ref (w 0)), (1, .int (zI ↑sl))]) hx hb d_Mo_matches_18 rfl hl (by decide) rfl ?_
      clear hl; intro ls hl
      refine lv_iconst (v := zI 0) hx hb d_Mo_matches_19 (by decide) ?_
      refine lv_istore_n (lv' := [(3, .int (zI 0)), (2, .int (zI 0)), (0, .ref (w 0)), (1, .int (zI ↑sl))]) hx hb d_Mo_matches_20 rfl hl (by decide) rfl ?_
      clear hl; intro ls hl
      have loop_21 : ∀ (u : Nat) (i : Nat) (acc : Nat), (i + u = sl + 1) → (cSum m2 u i acc = cSum m2 (sl + 1) 0 0) → ∀ (H : Heap) (locs : List Loc) (ls : Array Slot), va_P D k_cl ([(w 0, .inr (4, [.ref (w 1), .int (zI ↑n), .ref (w 2), .ref (w 3), .ref (w 4), .ref (w 5), .int (zI ↑np), .ref (w 6), .ref (w 7), .int (zI 1), .ref (w 8), .ref (w 9), .ref (w 10), .int (zI ↑c2), .int (zI l2), .ref (w 11), .int (zI a2), .int (zI b2), .ref (w 12)])), (w 1, .inl (cI, 30, .inl (kA t))), (w 6, .inl (cI, 4, .inl (kA of))), (w 7, .inl (cI, 4, .inl (kA se))), (w 10, .inl (cI, 200, .inl (kA m2))), (w 11, .inl (cI, 4, .inl (kZ f2))), (w 12, .inl (cI, 4, .inl (kZ p2)))]) H → va_D A ([(w 0, .inr (4, [.ref (w 1), .int (zI ↑n), .ref (w 2), .ref (w 3), .ref (w 4), .ref (w 5), .int (zI ↑np), .ref (w 6), .ref (w 7), .int (zI 1), .ref (w 8), .ref (w 9), .ref (w 10), .int (zI ↑c2), .int (zI l2), .ref (w 11), .int (zI a2), .int (zI b2), .ref (w 12)])), (w 1, .inl (cI, 30, .inl (kA t))), (w 6, .inl (cI, 4, .inl (kA of))), (w 7, .inl (cI, 4, .inl (kA se))), (w 10, .inl (cI, 200, .inl (kA m2))), (w 11, .inl (cI, 4, .inl (kZ f2))), (w 12, .inl (cI, 4, .inl (kZ p2)))]) → va_S A s.heap H locs → lv_has ls 4 [(0, .ref (w 0)), (1, .int (zI ↑sl)), (2, .int (zI ↑acc)), (3, .int (zI ↑i))] → W p l ev rm_Mo_matches_2 s m ar below meth c H locs 0 0 Qf (F0 m 21 ls []) := by
        intro u
        induction u with
        | zero =>
          intro i acc hin hgo H locs ls hP hD hS hl
          refine lv_iload_n hx hb d_Mo_matches_21 rfl (lv_at hl 3 rfl) ?_
          refine lv_iload_n hx hb d_Mo_matches_22 rfl (lv_at hl 1 rfl) ?_
          refine k_icmp_gt (tgt := 41) hx hb d_Mo_matches_23 (by decide) ⟨by omega, by omega⟩ ⟨by omega, by omega⟩ (fun c_23 => ?_) (fun c_23 => ?_)
          · refine lv_iload_n hx hb d_Mo_matches_41 rfl (lv_at hl 2 rfl) ?_
            subst hp2 hm2 hc2 hl2 hf2 ha2 hb2
            rw [← hQf]
            exact k_iret hx hb hr hlocks hP hS (by rw [← hgo]; rfl) d_Mo_matches_42
          · exfalso; omega
        | succ u ih_21 =>
          intro i acc hin hgo H locs ls hP hD hS hl
          refine lv_iload_n hx hb d_Mo_matches_21 rfl (lv_at hl 3 rfl) ?_
          refine lv_iload_n hx hb d_Mo_matches_22 rfl (lv_at hl 1 rfl) ?_
          refine k_icmp_gt (tgt := 41) hx hb d_Mo_matches_23 (by decide) ⟨by omega, by omega⟩ ⟨by omega, by omega⟩ (fun c_23 => ?_) (fun c_23 => ?_)
          · exfalso; omega
          · refine lv_iload_n hx hb d_Mo_matches_26 rfl (lv_at hl 2 rfl) ?_
            refine lv_aload_n hx hb d_Mo_matches_27 rfl (lv_at hl 0 rfl) ?_
            refine va_get (D := D) (ci := 4) (v := .ref (w 10)) (C := R_Mo) (T := T_Mo) (N := 19) hx hb hkw kin_Mo hown hK hP 0 rfl rfl 12 (by decide) (hkw _ kw_fieldLink_Mo_37) (fun _ h9 => h9) rfl d_Mo_matches_28 ?_
            refine lv_iload_n hx hb d_Mo_matches_31 rfl (lv_at hl 3 rfl) ?_
            refine k_ald hx hb hK hP 4 0 rfl rfl (i := i) (by omega) (by omega) (by omega) d_Mo_matches_32 ?_
            refine k_iadd (v := ↑(acc + m2 i)) hx hb d_Mo_matches_33 (by omega) ?_
            refine lv_istore_n (lv' := [(2, .int (zI (↑(acc + m2 i)))), (0, .ref (w 0)), (1, .int (zI ↑sl)), (3, .int (zI ↑i))]) hx hb d_Mo_matches_34 rfl hl (by decide) rfl ?_
            clear hl; intro ls hl
            refine k_iinc (v := ↑(i + 1)) (lv' := [(3, .int (zI (↑(i + 1)))), (2, .int (zI (↑(acc + m2 i)))), (0, .ref (w 0)), (1, .int (zI ↑sl))]) hx hb d_Mo_matches_35 hl (k := 3) rfl (by omega) (by decide) rfl ?_
            clear hl; intro ls hl
            refine lv_goto (tgt := 21) hx hb d_Mo_matches_38 (by decide) ?_
            exact ih_21 (i + 1) _ (by omega) hgo _ _ _ hP hD hS (lv_sub hl [2, 3, 1, 0] rfl)
      exact loop_21 (sl + 1) 0 0 (by omega) rfl _ _ _ hP hD hS (lv_sub hl [2, 3, 1, 0] rfl)
    · exfalso; omega

abbrev rm_Mo_weight_1 : Room := { frames := 0, cells := 0, slots := 0, locals := 0 }
set_option maxHeartbeats 4000000 in
set_option maxRecDepth 100000 in
theorem c_Mo_weight_1 (l : Launch) (D : va_G) (cI cR cG : ClassId) (w : Nat → Nat) (n np kn ch : Nat) (le sf st : Int) (x : Int) (hx1 : k_sm x) (hb : ¬ (0 ≤ x ∧ x ≤ 9)) : k_M l y_Mo_weight (.code y_Mo_weight b_Mo_weight 5 (some .long) :: kW) rm_Mo_weight_1 D k_cl (k_ty cI cR cG) [.ref (w 0), .int (zI x)] ([(w 0, .inr (4, [.ref (w 1), .int (zI ↑n), .ref (w 2), .ref (w 3), .ref (w 4), .ref (w 5), .int (zI ↑np), .ref (w 6), .ref (w 7), .int (zI ↑kn), .ref (w 8), .ref (w 9), .ref (w 10), .int (zI ↑ch), .int (zI le), .ref (w 11), .int (zI sf), .int (zI st), .ref (w 12)]))]) (k_Ql D k_cl ((-2)) [(w 0, .inr (4, [.ref (w 1), .int (zI ↑n), .ref (w 2), .ref (w 3), .ref (w 4), .ref (w 5), .int (zI ↑np), .ref (w 6), .ref (w 7), .int (zI ↑kn), .ref (w 8), .ref (w 9), .ref (w 10), .int (zI ↑ch), .int (zI le), .ref (w 11), .int (zI sf), .int (zI st), .ref (w 12)]))]) := by
  refine k_start (cc := b_Mo_weight) (maxL := 5) (ret := (some .long)) (by decide) rfl (Nat.le_of_ble_eq_true rfl) ?_
  intro p ev s m ar below meth c A ls Qf hQf hx hb hr hml hts hown hlocks hin hK hG hA hP hD hS hl
  replace hown : s.vm.findClass R_Mo = some m.cls := hown
  replace hl : lv_has ls 5 [(0, .ref (w 0)), (1, .int (zI x))] := hl
  have hkw : ∀ w ∈ kW, w.before ar s = true := fun w h => hts w (List.mem_cons_of_mem _ h)
  replace hP : va_P D k_cl ([(w 0, .inr (4, [.ref (w 1), .int (zI ↑n), .ref (w 2), .ref (w 3), .ref (w 4), .ref (w 5), .int (zI ↑np), .ref (w 6), .ref (w 7), .int (zI ↑kn), .ref (w 8), .ref (w 9), .ref (w 10), .int (zI ↑ch), .int (zI le), .ref (w 11), .int (zI sf), .int (zI st), .ref (w 12)]))]) s.heap := hP
  replace hD : va_D A ([(w 0, .inr (4, [.ref (w 1), .int (zI ↑n), .ref (w 2), .ref (w 3), .ref (w 4), .ref (w 5), .int (zI ↑np), .ref (w 6), .ref (w 7), .int (zI ↑kn), .ref (w 8), .ref (w 9), .ref (w 10), .int (zI ↑ch), .int (zI le), .ref (w 11), .int (zI sf), .int (zI st), .ref (w 12)]))]) := hD
  have hx2 := hx1.1
  have hx3 := hx1.2
  refine lv_iload_n hx hb d_Mo_weight_0 rfl (lv_at hl 1 rfl) ?_
  refine k_if_lt (tgt := 10) hx hb d_Mo_weight_1 (by decide) ⟨by omega, by omega⟩ (fun c_1 => ?_) (fun c_1 => ?_)
  · refine lv_ldc2 (v := (-2)) hx hb hown (hkw _ kw_constantLong_Mo_125) d_Mo_weight_10 ?_
    rw [← hQf]
    exact k_lret hx hb hr hlocks hP hS rfl d_Mo_weight_13
  · refine lv_iload_n hx hb d_Mo_weight_4 rfl (lv_at hl 1 rfl) ?_
    refine lv_bipush (v := zI 9) hx hb d_Mo_weight_5 (by decide) ?_
    refine k_icmp_le (tgt := 14) hx hb d_Mo_weight_7 (by decide) ⟨by omega, by omega⟩ ⟨by omega, by omega⟩ (fun c_7 => ?_) (fun c_7 => ?_)
    · exfalso; omega
    · refine lv_ldc2 (v := (-2)) hx hb hown (hkw _ kw_constantLong_Mo_125) d_Mo_weight_10 ?_
      rw [← hQf]
      exact k_lret hx hb hr hlocks hP hS rfl d_Mo_weight_13

abbrev rm_Mo_weight_2 : Room := { frames := 5, cells := 0, slots := 0, locals := 122 }
set_option maxHeartbeats 4000000 in
set_option maxRecDepth 100000 in
theorem c_Mo_weight_2 (l : Launch) (D : va_G) (cI cR cG : ClassId) (w : Nat → Nat) (n np kn ch : Nat) (le sf st : Int) (t of se mn : Nat → Nat) (fi pl : Nat → Int) (N : Nat) (sl : Nat) (hsl : sl ≤ 9) (hcn : ∀ j, (knowF kn np t of se N (pl, mn, ch, le, fi, sf, st)).2.1 j ≤ 1000000) (hkn : kn ≤ 1) (hnp : np ≤ 4) (ht : ∀ j, t j ≤ 1023) (hof : ∀ j, of j ≤ 9) (hse : ∀ j, se j ≤ 1023) (hpl : ∀ j, -1 ≤ pl j ∧ pl j ≤ 30) (hok : gOK (mn, ch, le, fi, sf, st)) (hN : N ≤ 1000000) (hfin : kn = 0 → 1 ≤ np → (gRun t of se np N (0, va_up pl 0 (-1), (fun _ => 0), 0, le, fi, sf, st)).1 < 0) : k_M l y_Mo_weight (.code y_Mo_weight b_Mo_weight 5 (some .long) :: kW) rm_Mo_weight_2 D k_cl (k_ty cI cR cG) [.ref (w 0), .int (zI ↑sl)] ([(w 0, .inr (4, [.ref (w 1), .int (zI ↑n), .ref (w 2), .ref (w 3), .ref (w 4), .ref (w 5), .int (zI ↑np), .ref (w 6), .ref (w 7), .int (zI ↑kn), .ref (w 8), .ref (w 9), .ref (w 10), .int (zI ↑ch), .int (zI le), .ref (w 11), .int (zI sf), .int (zI st), .ref (w 12)])), (w 1, .inl (cI, 30, .inl (kA t))), (w 6, .inl (cI, 4, .inl (kA of))), (w 7, .inl (cI, 4, .inl (kA se))), (w 10, .inl (cI, 200, .inl (kA mn))), (w 11, .inl (cI, 4, .inl (kZ fi))), (w 12, .inl (cI, 4, .inl (kZ pl)))]) (k_Ql D k_cl (lN (wSum ((knowF kn np t of se N (pl, mn, ch, le, fi, sf, st)).2.1) (sl + 1) 0 0)) [(w 0, .inr (4, [.ref (w 1), .int (zI ↑n), .ref (w 2), .ref (w 3), .ref (w 4), .ref (w 5), .int (zI ↑np), .ref (w 6), .ref (w 7), .int (zI 1), .ref (w 8), .ref (w 9), .ref (w 10), .int (zI (↑((knowF kn np t of se N (pl, mn, ch, le, fi, sf, st)).2.2.1))), .int (zI ((knowF kn np t of se N (pl, mn, ch, le, fi, sf, st)).2.2.2.1)), .ref (w 11), .int (zI ((knowF kn np t of se N (pl, mn, ch, le, fi, sf, st)).2.2.2.2.2.1)), .int (zI ((knowF kn np t of se N (pl, mn, ch, le, fi, sf, st)).2.2.2.2.2.2)), .ref (w 12)])), (w 1, .inl (cI, 30, .inl (kA t))), (w 6, .inl (cI, 4, .inl (kA of))), (w 7, .inl (cI, 4, .inl (kA se))), (w 10, .inl (cI, 200, .inl (kA ((knowF kn np t of se N (pl, mn, ch, le, fi, sf, st)).2.1)))), (w 11, .inl (cI, 4, .inl (kZ ((knowF kn np t of se N (pl, mn, ch, le, fi, sf, st)).2.2.2.2.1)))), (w 12, .inl (cI, 4, .inl (kZ ((knowF kn np t of se N (pl, mn, ch, le, fi, sf, st)).1))))]) := by
  refine k_start (cc := b_Mo_weight) (maxL := 5) (ret := (some .long)) (by decide) rfl (Nat.le_of_ble_eq_true rfl) ?_
  intro p ev s m ar below meth c A ls Qf hQf hx hb hr hml hts hown hlocks hin hK hG hA hP hD hS hl
  replace hown : s.vm.findClass R_Mo = some m.cls := hown
  replace hl : lv_has ls 5 [(0, .ref (w 0)), (1, .int (zI ↑sl))] := hl
  have hkw : ∀ w ∈ kW, w.before ar s = true := fun w h => hts w (List.mem_cons_of_mem _ h)
  replace hP : va_P D k_cl ([(w 0, .inr (4, [.ref (w 1), .int (zI ↑n), .ref (w 2), .ref (w 3), .ref (w 4), .ref (w 5), .int (zI ↑np), .ref (w 6), .ref (w 7), .int (zI ↑kn), .ref (w 8), .ref (w 9), .ref (w 10), .int (zI ↑ch), .int (zI le), .ref (w 11), .int (zI sf), .int (zI st), .ref (w 12)])), (w 1, .inl (cI, 30, .inl (kA t))), (w 6, .inl (cI, 4, .inl (kA of))), (w 7, .inl (cI, 4, .inl (kA se))), (w 10, .inl (cI, 200, .inl (kA mn))), (w 11, .inl (cI, 4, .inl (kZ fi))), (w 12, .inl (cI, 4, .inl (kZ pl)))]) s.heap := hP
  replace hD : va_D A ([(w 0, .inr (4, [.ref (w 1), .int (zI ↑n), .ref (w 2), .ref (w 3), .ref (w 4), .ref (w 5), .int (zI ↑np), .ref (w 6), .ref (w 7), .int (zI ↑kn), .ref (w 8), .ref (w 9), .ref (w 10), .int (zI ↑ch), .int (zI le), .ref (w 11), .int (zI sf), .int (zI st), .ref (w 12)])), (w 1, .inl (cI, 30, .inl (kA t))), (w 6, .inl (cI, 4, .inl (kA of))), (w 7, .inl (cI, 4, .inl (kA se))), (w 10, .inl (cI, 200, .inl (kA mn))), (w 11, .inl (cI, 4, .inl (kZ fi))), (w 12, .inl (cI, 4, .inl (kZ pl)))]) := hD
  refine lv_iload_n hx hb d_Mo_weight_0 rfl (lv_at hl 1 rfl) ?_
  refine k_if_lt (tgt := 10) hx hb d_Mo_weight_1 (by decide) ⟨by omega, by omega⟩ (fun c_1 => ?_) (fun c_1 => ?_)
  · exfalso; omega
  · refine lv_iload_n hx hb d_Mo_weight_4 rfl (lv_at hl 1 rfl) ?_
    refine lv_bipush (v := zI 9) hx hb d_Mo_weight_5 (by decide) ?_
    refine k_icmp_le (tgt := 14) hx hb d_Mo_weight_7 (by decide) ⟨by omega, by omega⟩ ⟨by omega, by omega⟩ (fun c_7 => ?_) (fun c_7 => ?_)
    · refine lv_aload_n hx hb d_Mo_weight_14 rfl (lv_at hl 0 rfl) ?_
      refine k_beV (va_runV (As := []) (rest := []) ⟨hx, hb, hml, hown, hkw⟩ (c_Mo_know l D cI cR cG w n np kn ch le sf st t of se mn fi pl N hkn hnp ht hof hse hpl hok hN hfin _) (cwV 0 hkw (k_gV kw_methodLink_Mo_122 kw_instanceMethod_Mo_know kw_selects_Mo_know kw_initialized_Mo kw_code_Mo_know) rfl rfl rfl (by decide +kernel) ⟨Nat.le_of_ble_eq_true rfl, Nat.le_of_ble_eq_true rfl⟩) (k_preV (q0 := 0) hK hG hP hD [0, 1, 2, 3, 4, 5, 6] rfl rfl rfl rfl) rfl rfl hl.1 rfl (lv_room (Nat.le_of_ble_eq_true rfl)) d_Mo_weight_15 ⟨Nat.zero_le _, Nat.zero_le _⟩) hP hD hS hA [0, 1, 2, 3, 4, 5, 6] rfl (Eq.trans (b := [w 0, w 1, w 6, w 7, w 10, w 11, w 12]) rfl rfl) ?_
      clear hP hD hS; intro H locs hP hD hS
      replace hP : va_P D k_cl ([(w 0, .inr (4, [.ref (w 1), .int (zI ↑n), .ref (w 2), .ref (w 3), .ref (w 4), .ref (w 5), .int (zI ↑np), .ref (w 6), .ref (w 7), .int (zI 1), .ref (w 8), .ref (w 9), .ref (w 10), .int (zI (↑((knowF kn np t of se N (pl, mn, ch, le, fi, sf, st)).2.2.1))), .int (zI ((knowF kn np t of se N (pl, mn, ch, le, fi, sf, st)).2.2.2.1)), .ref (w 11), .int (zI ((knowF kn np t of se N (pl, mn, ch, le, fi, sf, st)).2.2.2.2.2.1)), .int (zI ((knowF kn np t of se N (pl, mn, ch, le, fi, sf, st)).2.2.2.2.2.2)), .ref (w 12)])), (w 1, .inl (cI, 30, .inl (kA t))), (w 6, .inl (cI, 4, .inl (kA of))), (w 7, .inl (cI, 4, .inl (kA se))), (w 10, .inl (cI, 200, .inl (kA ((knowF kn np t of se N (pl, mn, ch, le, fi, sf, st)).2.1)))), (w 11, .inl (cI, 4, .inl (kZ ((knowF kn np t of se N (pl, mn, ch, le, fi, sf, st)).2.2.2.2.1)))), (w 12, .inl (cI, 4, .inl (kZ ((knowF kn np t of se N (pl, mn, ch, le, fi, sf, st)).1))))]) H := hP
      replace hD : va_D A ([(w 0, .inr (4, [.ref (w 1), .int (zI ↑n), .ref (w 2), .ref (w 3), .ref (w 4), .ref (w 5), .int (zI ↑np), .ref (w 6), .ref (w 7), .int (zI 1), .ref (w 8), .ref (w 9), .ref (w 10), .int (zI (↑((knowF kn np t of se N (pl, mn, ch, le, fi, sf, st)).2.2.1))), .int (zI ((knowF kn np t of se N (pl, mn, ch, le, fi, sf, st)).2.2.2.1)), .ref (w 11), .int (zI ((knowF kn np t of se N (pl, mn, ch, le, fi, sf, st)).2.2.2.2.2.1)), .int (zI ((knowF kn np t of se N (pl, mn, ch, le, fi, sf, st)).2.2.2.2.2.2)), .ref (w 12)])), (w 1, .inl (cI, 30, .inl (kA t))), (w 6, .inl (cI, 4, .inl (kA of))), (w 7, .inl (cI, 4, .inl (kA se))), (w 10, .inl (cI, 200, .inl (kA ((knowF kn np t of se N (pl, mn, ch, le, fi, sf, st)).2.1)))), (w 11, .inl (cI, 4, .inl (kZ ((knowF kn np t of se N (pl, mn, ch, le, fi, sf, st)).2.2.2.2.1)))), (w 12, .inl (cI, 4, .inl (kZ ((knowF kn np t of se N (pl, mn, ch, le, fi, sf, st)).1))))]) := hD
      obtain ⟨p2, hp2⟩ : ∃ p2 : Nat → Int, p2 = (knowF kn np t of se N (pl, mn, ch, le, fi, sf, st)).1 := ⟨_, rfl⟩
      obtain ⟨m2, hm2⟩ : ∃ m2 : Nat → Nat, m2 = (knowF kn np t of se N (pl, mn, ch, le, fi, sf, st)).2.1 := ⟨_, rfl⟩
      obtain ⟨c2, hc2⟩ : ∃ c2 : Nat, c2 = (knowF kn np t of se N (pl, mn, ch, le, fi, sf, st)).2.2.1 := ⟨_, rfl⟩
      obtain ⟨l2, hl2⟩ : ∃ l2 : Int, l2 = (knowF kn np t of se N (pl, mn, ch, le, fi, sf, st)).2.2.2.1 := ⟨_, rfl⟩
      obtain ⟨f2, hf2⟩ : ∃ f2 : Nat → Int, f2 = (knowF kn np t of se N (pl, mn, ch, le, fi, sf, st)).2.2.2.2.1 := ⟨_, rfl⟩
      obtain ⟨a2, ha2⟩ : ∃ a2 : Int, a2 = (knowF kn np t of se N (pl, mn, ch, le, fi, sf, st)).2.2.2.2.2.1 := ⟨_, rfl⟩
      obtain ⟨b2, hb2⟩ : ∃ b2 : Int, b2 = (knowF kn np t of se N (pl, mn, ch, le, fi, sf, st)).2.2.2.2.2.2 := ⟨_, rfl⟩
      replace hP : va_P D k_cl ([(w 0, .inr (4, [.ref (w 1), .int (zI ↑n), .ref (w 2), .ref (w 3), .ref (w 4), .ref (w 5), .int (zI ↑np), .ref (w 6), .ref (w 7), .int (zI 1), .ref (w 8), .ref (w 9), .ref (w 10), .int (zI ↑c2), .int (zI l2), .ref (w 11), .int (zI a2), .int (zI b2), .ref (w 12)])), (w 1, .inl (cI, 30, .inl (kA t))), (w 6, .inl (cI, 4, .inl (kA of))), (w 7, .inl (cI, 4, .inl (kA se))), (w 10, .inl (cI, 200, .inl (kA m2))), (w 11, .inl (cI, 4, .inl (kZ f2))), (w 12, .inl (cI, 4, .inl (kZ p2)))]) H := by rw [hp2, hm2, hc2, hl2, hf2, ha2, hb2]; exact hP
      replace hD : va_D A ([(w 0, .inr (4, [.ref (w 1), .int (zI ↑n), .ref (w 2), .ref (w 3), .ref (w 4), .ref (w 5), .int (zI ↑np), .ref (w 6), .ref (w 7), .int (zI 1), .ref (w 8), .ref (w 9), .ref (w 10), .int (zI ↑c2), .int (zI l2), .ref (w 11), .int (zI a2), .int (zI b2), .ref (w 12)])), (w 1, .inl (cI, 30, .inl (kA t))), (w 6, .inl (cI, 4, .inl (kA of))), (w 7, .inl (cI, 4, .inl (kA se))), (w 10, .inl (cI, 200, .inl (kA m2))), (w 11, .inl (cI, 4, .inl (kZ f2))), (w 12, .inl (cI, 4, .inl (kZ p2)))]) := by rw [hp2, hm2, hc2, hl2, hf2, ha2, hb2]; exact hD
      have hcn2 : ∀ j, m2 j ≤ 1000000 := by rw [hm2]; exact hcn
      refine lv_lconst (v := lN 0) hx hb d_Mo_weight_18 (by decide) ?_
      refine lv_lstore_n (lv' := [(2, .long (lN 0)), (0, .ref (w 0)), (1, .int (zI ↑sl))]) hx hb d_Mo_weight_19 rfl hl (by decide) rfl ?_
      clear hl; intro ls hl
      refine lv_iconst (v := zI 0) hx hb d_Mo_weight_20 (by decide) ?_
      refine lv_istore (lv' := [(4, .int (zI 0)), (2, .long (lN 0)), (0, .ref (w 0)), (1, .int (zI ↑sl))]) hx hb d_Mo_weight_21 hl (by decide) rfl ?_
      clear hl; intro ls hl
      have loop_23 : ∀ (u : Nat) (i : Nat) (acc : Nat), (i + u = sl + 1) → (wSum m2 u i acc = wSum m2 (sl + 1) 0 0) → ∀ (H : Heap) (locs : List Loc) (ls : Array Slot), va_P D k_cl ([(w 0, .inr (4, [.ref (w 1), .int (zI ↑n), .ref (w 2), .ref (w 3), .ref (w 4), .ref (w 5), .int (zI ↑np), .ref (w 6), .ref (w 7), .int (zI 1), .ref (w 8), .ref (w 9), .ref (w 10), .int (zI ↑c2), .int (zI l2), .ref (w 11), .int (zI a2), .int (zI b2), .ref (w 12)])), (w 1, .inl (cI, 30, .inl (kA t))), (w 6, .inl (cI, 4, .inl (kA of))), (w 7, .inl (cI, 4, .inl (kA se))), (w 10, .inl (cI, 200, .inl (kA m2))), (w 11, .inl (cI, 4, .inl (kZ f2))), (w 12, .inl (cI, 4, .inl (kZ p2)))]) H → va_D A ([(w 0, .inr (4, [.ref (w 1), .int (zI ↑n), .ref (w 2), .ref (w 3), .ref (w 4), .ref (w 5), .int (zI ↑np), .ref (w 6), .ref (w 7), .int (zI 1), .ref (w 8), .ref (w 9), .ref (w 10), .int (zI ↑c2), .int (zI l2), .ref (w 11), .int (zI a2), .int (zI b2), .ref (w 12)])), (w 1, .inl (cI, 30, .inl (kA t))), (w 6, .inl (cI, 4, .inl (kA of))), (w 7, .inl (cI, 4, .inl (kA se))), (w 10, .inl (cI, 200, .inl (kA m2))), (w 11, .inl (cI, 4, .inl (kZ f2))), (w 12, .inl (cI, 4, .inl (kZ p2)))]) → va_S A s.heap H locs → lv_has ls 5 [(0, .ref (w 0)), (1, .int (zI ↑sl)), (2, .long (lN acc)), (4, .int (zI ↑i))] → W p l ev rm_Mo_weight_2 s m ar below meth c H locs 0 0 Qf (F0 m 23 ls []) := by
        intro u
        induction u with
        | zero =>
          intro i acc hin hgo H locs ls hP hD hS hl
          refine lv_iload hx hb d_Mo_weight_23 (lv_at hl 3 rfl) ?_
          refine lv_iload_n hx hb d_Mo_weight_25 rfl (lv_at hl 1 rfl) ?_
          refine k_icmp_gt (tgt := 56) hx hb d_Mo_weight_26 (by decide) ⟨by omega, by omega⟩ ⟨by omega, by omega⟩ (fun c_26 => ?_) (fun c_26 => ?_)
          · refine lv_lload_n hx hb d_Mo_weight_56 rfl (lv_at hl 2 rfl) ?_
            subst hp2 hm2 hc2 hl2 hf2 ha2 hb2
            rw [← hQf]
            exact k_lret hx hb hr hlocks hP hS (by rw [← hgo]; rfl) d_Mo_weight_57
          · exfalso; omega
        | succ u ih_23 =>
          intro i acc hin hgo H locs ls hP hD hS hl
          refine lv_iload hx hb d_Mo_weight_23 (lv_at hl 3 rfl) ?_
          refine lv_iload_n hx hb d_Mo_weight_25 rfl (lv_at hl 1 rfl) ?_
          refine k_icmp_gt (tgt := 56) hx hb d_Mo_weight_26 (by decide) ⟨by omega, by omega⟩ ⟨by omega, by omega⟩ (fun c_26 => ?_) (fun c_26 => ?_)
          · exfalso; omega
          · refine lv_lload_n hx hb d_Mo_weight_29 rfl (lv_at hl 2 rfl) ?_
            refine lv_aload_n hx hb d_Mo_weight_30 rfl (lv_at hl 0 rfl) ?_
            refine va_get (D := D) (ci := 4) (v := .ref (w 10)) (C := R_Mo) (T := T_Mo) (N := 19) hx hb hkw kin_Mo hown hK hP 0 rfl rfl 12 (by decide) (hkw _ kw_fieldLink_Mo_37) (fun _ h9 => h9) rfl d_Mo_weight_31 ?_
            refine lv_iload hx hb d_Mo_weight_34 (lv_at hl 3 rfl) ?_
            refine k_ald hx hb hK hP 4 0 rfl rfl (i := i) (by omega) (by omega) (by omega) d_Mo_weight_36 ?_
            have hv_1 := hcn2 i
            refine k_i2l (v := (m2 i)) hx hb (by omega) (by omega) d_Mo_weight_37 ?_
            refine lv_sipush (v := zI 2520) hx hb d_Mo_weight_38 (by decide) ?_
            refine lv_iload hx hb d_Mo_weight_41 (lv_at hl 3 rfl) ?_
            refine lv_iconst (v := zI 1) hx hb d_Mo_weight_43 (by decide) ?_
            refine k_iadd (v := ↑(i + 1)) hx hb d_Mo_weight_44 (by omega) ?_
            refine k_idiv (x := 2520) (y := (i + 1)) hx hb rfl (by omega) (by omega) (by omega) d_Mo_weight_45 ?_
            have hdv : 2520 / (i + 1) ≤ 2520 := Nat.div_le_self _ _
            refine k_i2l (v := (2520 / (i + 1))) hx hb (by omega) (by omega) d_Mo_weight_46 ?_
            refine k_lmul (x := (m2 i)) (y := (2520 / (i + 1))) hx hb rfl d_Mo_weight_47 ?_
            refine k_ladd (x := acc) (y := (m2 i) * (2520 / (i + 1))) hx hb rfl d_Mo_weight_48 ?_
            refine lv_lstore_n (lv' := [(2, .long (lN (acc + ((m2 i) * (2520 / (i + 1)))))), (0, .ref (w 0)), (1, .int (zI ↑sl)), (4, .int (zI ↑i))]) hx hb d_Mo_weight_49 rfl hl (by decide) rfl ?_
            clear hl; intro ls hl
            refine k_iinc (v := ↑(i + 1)) (lv' := [(4, .int (zI (↑(i + 1)))), (2, .long (lN (acc + ((m2 i) * (2520 / (i + 1)))))), (0, .ref (w 0)), (1, .int (zI ↑sl))]) hx hb d_Mo_weight_50 hl (k := 3) rfl (by omega) (by decide) rfl ?_
            clear hl; intro ls hl
            refine lv_goto (tgt := 23) hx hb d_Mo_weight_53 (by decide) ?_
            exact ih_23 (i + 1) _ (by omega) hgo _ _ _ hP hD hS (lv_sub hl [2, 3, 1, 0] rfl)
      exact loop_23 (sl + 1) 0 0 (by omega) rfl _ _ _ hP hD hS (lv_sub hl [2, 3, 1, 0] rfl)
    · exfalso; omega

abbrev rm_Mo_least : Room := { frames := 5, cells := 0, slots := 0, locals := 122 }
set_option maxHeartbeats 4000000 in
set_option maxRecDepth 100000 in
theorem c_Mo_least (l : Launch) (D : va_G) (cI cR cG : ClassId) (w : Nat → Nat) (n np kn ch : Nat) (le sf st : Int) (t of se mn : Nat → Nat) (fi pl : Nat → Int) (N : Nat) (hch : (knowF kn np t of se N (pl, mn, ch, le, fi, sf, st)).2.2.1 ≤ 1000000) (hkn : kn ≤ 1) (hnp : np ≤ 4) (ht : ∀ j, t j ≤ 1023) (hof : ∀ j, of j ≤ 9) (hse : ∀ j, se j ≤ 1023) (hpl : ∀ j, -1 ≤ pl j ∧ pl j ≤ 30) (hok : gOK (mn, ch, le, fi, sf, st)) (hN : N ≤ 1000000) (hfin : kn = 0 → 1 ≤ np → (gRun t of se np N (0, va_up pl 0 (-1), (fun _ => 0), 0, le, fi, sf, st)).1 < 0) : k_M l y_Mo_least (.code y_Mo_least b_Mo_least 1 (some .int) :: kW) rm_Mo_least D k_cl (k_ty cI cR cG) [.ref (w 0)] ([(w 0, .inr (4, [.ref (w 1), .int (zI ↑n), .ref (w 2), .ref (w 3), .ref (w 4), .ref (w 5), .int (zI ↑np), .ref (w 6), .ref (w 7), .int (zI ↑kn), .ref (w 8), .ref (w 9), .ref (w 10), .int (zI ↑ch), .int (zI le), .ref (w 11), .int (zI sf), .int (zI st), .ref (w 12)])), (w 1, .inl (cI, 30, .inl (kA t))), (w 6, .inl (cI, 4, .inl (kA of))), (w 7, .inl (cI, 4, .inl (kA se))), (w 10, .inl (cI, 200, .inl (kA mn))), (w 11, .inl (cI, 4, .inl (kZ fi))), (w 12, .inl (cI, 4, .inl (kZ pl)))]) (k_Qi D k_cl (zI (if (knowF kn np t of se N (pl, mn, ch, le, fi, sf, st)).2.2.1 = 0 then -3 else (knowF kn np t of se N (pl, mn, ch, le, fi, sf, st)).2.2.2.1)) [(w 0, .inr (4, [.ref (w 1), .int (zI ↑n), .ref (w 2), .ref (w 3), .ref (w 4), .ref (w 5), .int (zI ↑np), .ref (w 6), .ref (w 7), .int (zI 1), .ref (w 8), .ref (w 9), .ref (w 10), .int (zI (↑((knowF kn np t of se N (pl, mn, ch, le, fi, sf, st)).2.2.1))), .int (zI ((knowF kn np t of se N (pl, mn, ch, le, fi, sf, st)).2.2.2.1)), .ref (w 11), .int (zI ((knowF kn np t of se N (pl, mn, ch, le, fi, sf, st)).2.2.2.2.2.1)), .int (zI ((knowF kn np t of se N (pl, mn, ch, le, fi, sf, st)).2.2.2.2.2.2)), .ref (w 12)])), (w 1, .inl (cI, 30, .inl (kA t))), (w 6, .inl (cI, 4, .inl (kA of))), (w 7, .inl (cI, 4, .inl (kA se))), (w 10, .inl (cI, 200, .inl (kA ((knowF kn np t of se N (pl, mn, ch, le, fi, sf, st)).2.1)))), (w 11, .inl (cI, 4, .inl (kZ ((knowF kn np t of se N (pl, mn, ch, le, fi, sf, st)).2.2.2.2.1)))), (w 12, .inl (cI, 4, .inl (kZ ((knowF kn np t of se N (pl, mn, ch, le, fi, sf, st)).1))))]) := by
  refine k_start (cc := b_Mo_least) (maxL := 1) (ret := (some .int)) (by decide) rfl (Nat.le_of_ble_eq_true rfl) ?_
  intro p ev s m ar below meth c A ls Qf hQf hx hb hr hml hts hown hlocks hin hK hG hA hP hD hS hl
  replace hown : s.vm.findClass R_Mo = some m.cls := hown
  replace hl : lv_has ls 1 [(0, .ref (w 0))] := hl
  have hkw : ∀ w ∈ kW, w.before ar s = true := fun w h => hts w (List.mem_cons_of_mem _ h)
  replace hP : va_P D k_cl ([(w 0, .inr (4, [.ref (w 1), .int (zI ↑n), .ref (w 2), .ref (w 3), .ref (w 4), .ref (w 5), .int (zI ↑np), .ref (w 6), .ref (w 7), .int (zI ↑kn), .ref (w 8), .ref (w 9), .ref (w 10), .int (zI ↑ch), .int (zI le), .ref (w 11), .int (zI sf), .int (zI st), .ref (w 12)])), (w 1, .inl (cI, 30, .inl (kA t))), (w 6, .inl (cI, 4, .inl (kA of))), (w 7, .inl (cI, 4, .inl (kA se))), (w 10, .inl (cI, 200, .inl (kA mn))), (w 11, .inl (cI, 4, .inl (kZ fi))), (w 12, .inl (cI, 4, .inl (kZ pl)))]) s.heap := hP
  replace hD : va_D A ([(w 0, .inr (4, [.ref (w 1), .int (zI ↑n), .ref (w 2), .ref (w 3), .ref (w 4), .ref (w 5), .int (zI ↑np), .ref (w 6), .ref (w 7), .int (zI ↑kn), .ref (w 8), .ref (w 9), .ref (w 10), .int (zI ↑ch), .int (zI le), .ref (w 11), .int (zI sf), .int (zI st), .ref (w 12)])), (w 1, .inl (cI, 30, .inl (kA t))), (w 6, .inl (cI, 4, .inl (kA of))), (w 7, .inl (cI, 4, .inl (kA se))), (w 10, .inl (cI, 200, .inl (kA mn))), (w 11, .inl (cI, 4, .inl (kZ fi))), (w 12, .inl (cI, 4, .inl (kZ pl)))]) := hD
  refine lv_aload_n hx hb d_Mo_least_0 rfl (lv_at hl 0 rfl) ?_
  refine k_beV (va_runV (As := []) (rest := []) ⟨hx, hb, hml, hown, hkw⟩ (c_Mo_know l D cI cR cG w n np kn ch le sf st t of se mn fi pl N hkn hnp ht hof hse hpl hok hN hfin _) (cwV 0 hkw (k_gV kw_methodLink_Mo_122 kw_instanceMethod_Mo_know kw_selects_Mo_know kw_initialized_Mo kw_code_Mo_know) rfl rfl rfl (by decide +kernel) ⟨Nat.le_of_ble_eq_true rfl, Nat.le_of_ble_eq_true rfl⟩) (k_preV (q0 := 0) hK hG hP hD [0, 1, 2, 3, 4, 5, 6] rfl rfl rfl rfl) rfl rfl hl.1 rfl (lv_room (Nat.le_of_ble_eq_true rfl)) d_Mo_least_1 ⟨Nat.zero_le _, Nat.zero_le _⟩) hP hD hS hA [0, 1, 2, 3, 4, 5, 6] rfl (Eq.trans (b := [w 0, w 1, w 6, w 7, w 10, w 11, w 12]) rfl rfl) ?_
  clear hP hD hS; intro H locs hP hD hS
  replace hP : va_P D k_cl ([(w 0, .inr (4, [.ref (w 1), .int (zI ↑n), .ref (w 2), .ref (w 3), .ref (w 4), .ref (w 5), .int (zI ↑np), .ref (w 6), .ref (w 7), .int (zI 1), .ref (w 8), .ref (w 9), .ref (w 10), .int (zI (↑((knowF kn np t of se N (pl, mn, ch, le, fi, sf, st)).2.2.1))), .int (zI ((knowF kn np t of se N (pl, mn, ch, le, fi, sf, st)).2.2.2.1)), .ref (w 11), .int (zI ((knowF kn np t of se N (pl, mn, ch, le, fi, sf, st)).2.2.2.2.2.1)), .int (zI ((knowF kn np t of se N (pl, mn, ch, le, fi, sf, st)).2.2.2.2.2.2)), .ref (w 12)])), (w 1, .inl (cI, 30, .inl (kA t))), (w 6, .inl (cI, 4, .inl (kA of))), (w 7, .inl (cI, 4, .inl (kA se))), (w 10, .inl (cI, 200, .inl (kA ((knowF kn np t of se N (pl, mn, ch, le, fi, sf, st)).2.1)))), (w 11, .inl (cI, 4, .inl (kZ ((knowF kn np t of se N (pl, mn, ch, le, fi, sf, st)).2.2.2.2.1)))), (w 12, .inl (cI, 4, .inl (kZ ((knowF kn np t of se N (pl, mn, ch, le, fi, sf, st)).1))))]) H := hP
  replace hD : va_D A ([(w 0, .inr (4, [.ref (w 1), .int (zI ↑n), .ref (w 2), .ref (w 3), .ref (w 4), .ref (w 5), .int (zI ↑np), .ref (w 6), .ref (w 7), .int (zI 1), .ref (w 8), .ref (w 9), .ref (w 10), .int (zI (↑((knowF kn np t of se N (pl, mn, ch, le, fi, sf, st)).2.2.1))), .int (zI ((knowF kn np t of se N (pl, mn, ch, le, fi, sf, st)).2.2.2.1)), .ref (w 11), .int (zI ((knowF kn np t of se N (pl, mn, ch, le, fi, sf, st)).2.2.2.2.2.1)), .int (zI ((knowF kn np t of se N (pl, mn, ch, le, fi, sf, st)).2.2.2.2.2.2)), .ref (w 12)])), (w 1, .inl (cI, 30, .inl (kA t))), (w 6, .inl (cI, 4, .inl (kA of))), (w 7, .inl (cI, 4, .inl (kA se))), (w 10, .inl (cI, 200, .inl (kA ((knowF kn np t of se N (pl, mn, ch, le, fi, sf, st)).2.1)))), (w 11, .inl (cI, 4, .inl (kZ ((knowF kn np t of se N (pl, mn, ch, le, fi, sf, st)).2.2.2.2.1)))), (w 12, .inl (cI, 4, .inl (kZ ((knowF kn np t of se N (pl, mn, ch, le, fi, sf, st)).1))))]) := hD
  obtain ⟨p2, hp2⟩ : ∃ p2 : Nat → Int, p2 = (knowF kn np t of se N (pl, mn, ch, le, fi, sf, st)).1 := ⟨_, rfl⟩
  obtain ⟨m2, hm2⟩ : ∃ m2 : Nat → Nat, m2 = (knowF kn np t of se N (pl, mn, ch, le, fi, sf, st)).2.1 := ⟨_, rfl⟩
  obtain ⟨c2, hc2⟩ : ∃ c2 : Nat, c2 = (knowF kn np t of se N (pl, mn, ch, le, fi, sf, st)).2.2.1 := ⟨_, rfl⟩
  obtain ⟨l2, hl2⟩ : ∃ l2 : Int, l2 = (knowF kn np t of se N (pl, mn, ch, le, fi, sf, st)).2.2.2.1 := ⟨_, rfl⟩
  obtain ⟨f2, hf2⟩ : ∃ f2 : Nat → Int, f2 = (knowF kn np t of se N (pl, mn, ch, le, fi, sf, st)).2.2.2.2.1 := ⟨_, rfl⟩
  obtain ⟨a2, ha2⟩ : ∃ a2 : Int, a2 = (knowF kn np t of se N (pl, mn, ch, le, fi, sf, st)).2.2.2.2.2.1 := ⟨_, rfl⟩
  obtain ⟨b2, hb2⟩ : ∃ b2 : Int, b2 = (knowF kn np t of se N (pl, mn, ch, le, fi, sf, st)).2.2.2.2.2.2 := ⟨_, rfl⟩
  replace hP : va_P D k_cl ([(w 0, .inr (4, [.ref (w 1), .int (zI ↑n), .ref (w 2), .ref (w 3), .ref (w 4), .ref (w 5), .int (zI ↑np), .ref (w 6), .ref (w 7), .int (zI 1), .ref (w 8), .ref (w 9), .ref (w 10), .int (zI ↑c2), .int (zI l2), .ref (w 11), .int (zI a2), .int (zI b2), .ref (w 12)])), (w 1, .inl (cI, 30, .inl (kA t))), (w 6, .inl (cI, 4, .inl (kA of))), (w 7, .inl (cI, 4, .inl (kA se))), (w 10, .inl (cI, 200, .inl (kA m2))), (w 11, .inl (cI, 4, .inl (kZ f2))), (w 12, .inl (cI, 4, .inl (kZ p2)))]) H := by rw [hp2, hm2, hc2, hl2, hf2, ha2, hb2]; exact hP
  replace hD : va_D A ([(w 0, .inr (4, [.ref (w 1), .int (zI ↑n), .ref (w 2), .ref (w 3), .ref (w 4), .ref (w 5), .int (zI ↑np), .ref (w 6), .ref (w 7), .int (zI 1), .ref (w 8), .ref (w 9), .ref (w 10), .int (zI ↑c2), .int (zI l2), .ref (w 11), .int (zI a2), .int (zI b2), .ref (w 12)])), (w 1, .inl (cI, 30, .inl (kA t))), (w 6, .inl (cI, 4, .inl (kA of))), (w 7, .inl (cI, 4, .inl (kA se))), (w 10, .inl (cI, 200, .inl (kA m2))), (w 11, .inl (cI, 4, .inl (kZ f2))), (w 12, .inl (cI, 4, .inl (kZ p2)))]) := by rw [hp2, hm2, hc2, hl2, hf2, ha2, hb2]; exact hD
  have hch2 : c2 ≤ 1000000 := by rw [hc2]; exact hch
  refine lv_aload_n hx hb d_Mo_least_4 rfl (lv_at hl 0 rfl) ?_
  refine va_get (D := D) (ci := 4) (v := .int (zI ↑c2)) (C := R_Mo) (T := T_Mo) (N := 19) hx hb hkw kin_Mo hown hK hP 0 rfl rfl 13 (by decide) (hkw _ kw_fieldLink_Mo_103) (fun _ h9 => h9) rfl d_Mo_least_5 ?_
  refine k_if_ne (tgt := 16) hx hb d_Mo_least_8 (by decide) ⟨by omega, by omega⟩ (fun c_8 => ?_) (fun c_8 => ?_)
  · refine lv_aload_n hx hb d_Mo_least_16 rfl (lv_at hl 0 rfl) ?_
    refine va_get (D := D) (ci := 4) (v := .int (zI l2)) (C := R_Mo) (T := T_Mo) (N := 19) hx hb hkw kin_Mo hown hK hP 0 rfl rfl 14 (by decide) (hkw _ kw_fieldLink_Mo_106) (fun _ h9 => h9) rfl d_Mo_least_17 ?_
    subst hp2 hm2 hc2 hl2 hf2 ha2 hb2
    rw [← hQf]
    exact k_iret hx hb hr hlocks hP hS (congrArg zI (if_neg (by omega)).symm) d_Mo_least_20
  · refine lv_bipush (v := zI (-3)) hx hb d_Mo_least_11 (by decide) ?_
    refine lv_goto (tgt := 20) hx hb d_Mo_least_13 (by decide) ?_
    subst hp2 hm2 hc2 hl2 hf2 ha2 hb2
    rw [← hQf]
    exact k_iret hx hb hr hlocks hP hS (congrArg zI (if_pos (by omega)).symm) d_Mo_least_20

abbrev rm_Mo_chosen_1 : Room := { frames := 0, cells := 0, slots := 0, locals := 0 }
set_option maxHeartbeats 4000000 in
set_option maxRecDepth 100000 in
theorem c_Mo_chosen_1 (l : Launch) (D : va_G) (cI cR cG : ClassId) (w : Nat → Nat) (n np kn ch : Nat) (le sf st : Int) (x : Int) (hx1 : k_sm x) (hn4 : np ≤ 4) (hb : ¬ (0 ≤ x ∧ x < ↑np)) : k_M l y_Mo_chosen (.code y_Mo_chosen b_Mo_chosen 2 (some .int) :: kW) rm_Mo_chosen_1 D k_cl (k_ty cI cR cG) [.ref (w 0), .int (zI x)] ([(w 0, .inr (4, [.ref (w 1), .int (zI ↑n), .ref (w 2), .ref (w 3), .ref (w 4), .ref (w 5), .int (zI ↑np), .ref (w 6), .ref (w 7), .int (zI ↑kn), .ref (w 8), .ref (w 9), .ref (w 10), .int (zI ↑ch), .int (zI le), .ref (w 11), .int (zI sf), .int (zI st), .ref (w 12)]))]) (k_Qi D k_cl (zI (-1)) [(w 0, .inr (4, [.ref (w 1), .int (zI ↑n), .ref (w 2), .ref (w 3), .ref (w 4), .ref (w 5), .int (zI ↑np), .ref (w 6), .ref (w 7), .int (zI ↑kn), .ref (w 8), .ref (w 9), .ref (w 10), .int (zI ↑ch), .int (zI le), .ref (w 11), .int (zI sf), .int (zI st), .ref (w 12)]))]) := by
  refine k_start (cc := b_Mo_chosen) (maxL := 2) (ret := (some .int)) (by decide) rfl (Nat.le_of_ble_eq_true rfl) ?_
  intro p ev s m ar below meth c A ls Qf hQf hx hb hr hml hts hown hlocks hin hK hG hA hP hD hS hl
  replace hown : s.vm.findClass R_Mo = some m.cls := hown
  replace hl : lv_has ls 2 [(0, .ref (w 0)), (1, .int (zI x))] := hl
  have hkw : ∀ w ∈ kW, w.before ar s = true := fun w h => hts w (List.mem_cons_of_mem _ h)
  replace hP : va_P D k_cl ([(w 0, .inr (4, [.ref (w 1), .int (zI ↑n), .ref (w 2), .ref (w 3), .ref (w 4), .ref (w 5), .int (zI ↑np), .ref (w 6), .ref (w 7), .int (zI ↑kn), .ref (w 8), .ref (w 9), .ref (w 10), .int (zI ↑ch), .int (zI le), .ref (w 11), .int (zI sf), .int (zI st), .ref (w 12)]))]) s.heap := hP
  replace hD : va_D A ([(w 0, .inr (4, [.ref (w 1), .int (zI ↑n), .ref (w 2), .ref (w 3), .ref (w 4), .ref (w 5), .int (zI ↑np), .ref (w 6), .ref (w 7), .int (zI ↑kn), .ref (w 8), .ref (w 9), .ref (w 10), .int (zI ↑ch), .int (zI le), .ref (w 11), .int (zI sf), .int (zI st), .ref (w 12)]))]) := hD
  have hx2 := hx1.1
  have hx3 := hx1.2
  refine lv_iload_n hx hb d_Mo_chosen_0 rfl (lv_at hl 1 rfl) ?_
  refine k_if_lt (tgt := 12) hx hb d_Mo_chosen_1 (by decide) ⟨by omega, by omega⟩ (fun c_1 => ?_) (fun c_1 => ?_)
  · refine lv_iconst (v := zI (-1)) hx hb d_Mo_chosen_12 (by decide) ?_
    rw [← hQf]
    exact k_iret hx hb hr hlocks hP hS rfl d_Mo_chosen_13
  · refine lv_iload_n hx hb d_Mo_chosen_4 rfl (lv_at hl 1 rfl) ?_
    refine lv_aload_n hx hb d_Mo_chosen_5 rfl (lv_at hl 0 rfl) ?_
    refine va_get (D := D) (ci := 4) (v := .int (zI ↑np)) (C := R_Mo) (T := T_Mo) (N := 19) hx hb hkw kin_Mo hown hK hP 0 rfl rfl 6 (by decide) (hkw _ kw_fieldLink_Mo_95) (fun _ h9 => h9) rfl d_Mo_chosen_6 ?_
    refine k_icmp_lt (tgt := 14) hx hb d_Mo_chosen_9 (by decide) ⟨by omega, by omega⟩ ⟨by omega, by omega⟩ (fun c_9 => ?_) (fun c_9 => ?_)
    · exfalso; omega
    · refine lv_iconst (v := zI (-1)) hx hb d_Mo_chosen_12 (by decide) ?_
      rw [← hQf]
      exact k_iret hx hb hr hlocks hP hS rfl d_Mo_chosen_13

abbrev rm_Mo_chosen_2 : Room := { frames := 5, cells := 0, slots := 0, locals := 122 }
set_option maxHeartbeats 4000000 in
set_option maxRecDepth 100000 in
theorem c_Mo_chosen_2 (l : Launch) (D : va_G) (cI cR cG : ClassId) (w : Nat → Nat) (n np kn ch : Nat) (le sf st : Int) (t of se mn : Nat → Nat) (fi pl : Nat → Int) (N : Nat) (i : Nat) (hi : i < np) (hch : (knowF kn np t of se N (pl, mn, ch, le, fi, sf, st)).2.2.1 ≤ 1000000) (hkn : kn ≤ 1) (hnp : np ≤ 4) (ht : ∀ j, t j ≤ 1023) (hof : ∀ j, of j ≤ 9) (hse : ∀ j, se j ≤ 1023) (hpl : ∀ j, -1 ≤ pl j ∧ pl j ≤ 30) (hok : gOK (mn, ch, le, fi, sf, st)) (hN : N ≤ 1000000) (hfin : kn = 0 → 1 ≤ np → (gRun t of se np N (0, va_up pl 0 (-1), (fun _ => 0), 0, le, fi, sf, st)).1 < 0) : k_M l y_Mo_chosen (.code y_Mo_chosen b_Mo_chosen 2 (some .int) :: kW) rm_Mo_chosen_2 D k_cl (k_ty cI cR cG) [.ref (w 0), .int (zI ↑i)] ([(w 0, .inr (4, [.ref (w 1), .int (zI ↑n), .ref (w 2), .ref (w 3), .ref (w 4), .ref (w 5), .int (zI ↑np), .ref (w 6), .ref (w 7), .int (zI ↑kn), .ref (w 8), .ref (w 9), .ref (w 10), .int (zI ↑ch), .int (zI le), .ref (w 11), .int (zI sf), .int (zI st), .ref (w 12)])), (w 1, .inl (cI, 30, .inl (kA t))), (w 6, .inl (cI, 4, .inl (kA of))), (w 7, .inl (cI, 4, .inl (kA se))), (w 10, .inl (cI, 200, .inl (kA mn))), (w 11, .inl (cI, 4, .inl (kZ fi))), (w 12, .inl (cI, 4, .inl (kZ pl)))]) (k_Qi D k_cl (zI (if (knowF kn np t of se N (pl, mn, ch, le, fi, sf, st)).2.2.1 = 0 then -3 else (knowF kn np t of se N (pl, mn, ch, le, fi, sf, st)).2.2.2.2.1 i)) [(w 0, .inr (4, [.ref (w 1), .int (zI ↑n), .ref (w 2), .ref (w 3), .ref (w 4), .ref (w 5), .int (zI ↑np), .ref (w 6), .ref (w 7), .int (zI 1), .ref (w 8), .ref (w 9), .ref (w 10), .int (zI (↑((knowF kn np t of se N (pl, mn, ch, le, fi, sf, st)).2.2.1))), .int (zI ((knowF kn np t of se N (pl, mn, ch, le, fi, sf, st)).2.2.2.1)), .ref (w 11), .int (zI ((knowF kn np t of se N (pl, mn, ch, le, fi, sf, st)).2.2.2.2.2.1)), .int (zI ((knowF kn np t of se N (pl, mn, ch, le, fi, sf, st)).2.2.2.2.2.2)), .ref (w 12)])), (w 1, .inl (cI, 30, .inl (kA t))), (w 6, .inl (cI, 4, .inl (kA of))), (w 7, .inl (cI, 4, .inl (kA se))), (w 10, .inl (cI, 200, .inl (kA ((knowF kn np t of se N (pl, mn, ch, le, fi, sf, st)).2.1)))), (w 11, .inl (cI, 4, .inl (kZ ((knowF kn np t of se N (pl, mn, ch, le, fi, sf, st)).2.2.2.2.1)))), (w 12, .inl (cI, 4, .inl (kZ ((knowF kn np t of se N (pl, mn, ch, le, fi, sf, st)).1))))]) := by
  refine k_start (cc := b_Mo_chosen) (maxL := 2) (ret := (some .int)) (by decide) rfl (Nat.le_of_ble_eq_true rfl) ?_
  intro p ev s m ar below meth c A ls Qf hQf hx hb hr hml hts hown hlocks hin hK hG hA hP hD hS hl
  replace hown : s.vm.findClass R_Mo = some m.cls := hown
  replace hl : lv_has ls 2 [(0, .ref (w 0)), (1, .int (zI ↑i))] := hl
  have hkw : ∀ w ∈ kW, w.before ar s = true := fun w h => hts w (List.mem_cons_of_mem _ h)
  replace hP : va_P D k_cl ([(w 0, .inr (4, [.ref (w 1), .int (zI ↑n), .ref (w 2), .ref (w 3), .ref (w 4), .ref (w 5), .int (zI ↑np), .ref (w 6), .ref (w 7), .int (zI ↑kn), .ref (w 8), .ref (w 9), .ref (w 10), .int (zI ↑ch), .int (zI le), .ref (w 11), .int (zI sf), .int (zI st), .ref (w 12)])), (w 1, .inl (cI, 30, .inl (kA t))), (w 6, .inl (cI, 4, .inl (kA of))), (w 7, .inl (cI, 4, .inl (kA se))), (w 10, .inl (cI, 200, .inl (kA mn))), (w 11, .inl (cI, 4, .inl (kZ fi))), (w 12, .inl (cI, 4, .inl (kZ pl)))]) s.heap := hP
  replace hD : va_D A ([(w 0, .inr (4, [.ref (w 1), .int (zI ↑n), .ref (w 2), .ref (w 3), .ref (w 4), .ref (w 5), .int (zI ↑np), .ref (w 6), .ref (w 7), .int (zI ↑kn), .ref (w 8), .ref (w 9), .ref (w 10), .int (zI ↑ch), .int (zI le), .ref (w 11), .int (zI sf), .int (zI st), .ref (w 12)])), (w 1, .inl (cI, 30, .inl (kA t))), (w 6, .inl (cI, 4, .inl (kA of))), (w 7, .inl (cI, 4, .inl (kA se))), (w 10, .inl (cI, 200, .inl (kA mn))), (w 11, .inl (cI, 4, .inl (kZ fi))), (w 12, .inl (cI, 4, .inl (kZ pl)))]) := hD
  refine lv_iload_n hx hb d_Mo_chosen_0 rfl (lv_at hl 1 rfl) ?_
  refine k_if_lt (tgt := 12) hx hb d_Mo_chosen_1 (by decide) ⟨by omega, by omega⟩ (fun c_1 => ?_) (fun c_1 => ?_)
  · exfalso; omega
  · refine lv_iload_n hx hb d_Mo_chosen_4 rfl (lv_at hl 1 rfl) ?_
    refine lv_aload_n hx hb d_Mo_chosen_5 rfl (lv_at hl 0 rfl) ?_
    refine va_get (D := D) (ci := 4) (v := .int (zI ↑np)) (C := R_Mo) (T := T_Mo) (N := 19) hx hb hkw kin_Mo hown hK hP 0 rfl rfl 6 (by decide) (hkw _ kw_fieldLink_Mo_95) (fun _ h9 => h9) rfl d_Mo_chosen_6 ?_
    refine k_icmp_lt (tgt := 14) hx hb d_Mo_chosen_9 (by decide) ⟨by omega, by omega⟩ ⟨by omega, by omega⟩ (fun c_9 => ?_) (fun c_9 => ?_)
    · refine lv_aload_n hx hb d_Mo_chosen_14 rfl (lv_at hl 0 rfl) ?_
      refine k_beV (va_runV (As := []) (rest := []) ⟨hx, hb, hml, hown, hkw⟩ (c_Mo_know l D cI cR cG w n np kn ch le sf st t of se mn fi pl N hkn hnp ht hof hse hpl hok hN hfin _) (cwV 0 hkw (k_gV kw_methodLink_Mo_122 kw_instanceMethod_Mo_know kw_selects_Mo_know kw_initialized_Mo kw_code_Mo_know) rfl rfl rfl (by decide +kernel) ⟨Nat.le_of_ble_eq_true rfl, Nat.le_of_ble_eq_true rfl⟩) (k_preV (q0 := 0) hK hG hP hD [0, 1, 2, 3, 4, 5, 6] rfl rfl rfl rfl) rfl rfl hl.1 rfl (lv_room (Nat.le_of_ble_eq_true rfl)) d_Mo_chosen_15 ⟨Nat.zero_le _, Nat.zero_le _⟩) hP hD hS hA [0, 1, 2, 3, 4, 5, 6] rfl (Eq.trans (b := [w 0, w 1, w 6, w 7, w 10, w 11, w 12]) rfl rfl) ?_
      clear hP hD hS; intro H locs hP hD hS
      replace hP : va_P D k_cl ([(w 0, .inr (4, [.ref (w 1), .int (zI ↑n), .ref (w 2), .ref (w 3), .ref (w 4), .ref (w 5), .int (zI ↑np), .ref (w 6), .ref (w 7), .int (zI 1), .ref (w 8), .ref (w 9), .ref (w 10), .int (zI (↑((knowF kn np t of se N (pl, mn, ch, le, fi, sf, st)).2.2.1))), .int (zI ((knowF kn np t of se N (pl, mn, ch, le, fi, sf, st)).2.2.2.1)), .ref (w 11), .int (zI ((knowF kn np t of se N (pl, mn, ch, le, fi, sf, st)).2.2.2.2.2.1)), .int (zI ((knowF kn np t of se N (pl, mn, ch, le, fi, sf, st)).2.2.2.2.2.2)), .ref (w 12)])), (w 1, .inl (cI, 30, .inl (kA t))), (w 6, .inl (cI, 4, .inl (kA of))), (w 7, .inl (cI, 4, .inl (kA se))), (w 10, .inl (cI, 200, .inl (kA ((knowF kn np t of se N (pl, mn, ch, le, fi, sf, st)).2.1)))), (w 11, .inl (cI, 4, .inl (kZ ((knowF kn np t of se N (pl, mn, ch, le, fi, sf, st)).2.2.2.2.1)))), (w 12, .inl (cI, 4, .inl (kZ ((knowF kn np t of se N (pl, mn, ch, le, fi, sf, st)).1))))]) H := hP
      replace hD : va_D A ([(w 0, .inr (4, [.ref (w 1), .int (zI ↑n), .ref (w 2), .ref (w 3), .ref (w 4), .ref (w 5), .int (zI ↑np), .ref (w 6), .ref (w 7), .int (zI 1), .ref (w 8), .ref (w 9), .ref (w 10), .int (zI (↑((knowF kn np t of se N (pl, mn, ch, le, fi, sf, st)).2.2.1))), .int (zI ((knowF kn np t of se N (pl, mn, ch, le, fi, sf, st)).2.2.2.1)), .ref (w 11), .int (zI ((knowF kn np t of se N (pl, mn, ch, le, fi, sf, st)).2.2.2.2.2.1)), .int (zI ((knowF kn np t of se N (pl, mn, ch, le, fi, sf, st)).2.2.2.2.2.2)), .ref (w 12)])), (w 1, .inl (cI, 30, .inl (kA t))), (w 6, .inl (cI, 4, .inl (kA of))), (w 7, .inl (cI, 4, .inl (kA se))), (w 10, .inl (cI, 200, .inl (kA ((knowF kn np t of se N (pl, mn, ch, le, fi, sf, st)).2.1)))), (w 11, .inl (cI, 4, .inl (kZ ((knowF kn np t of se N (pl, mn, ch, le, fi, sf, st)).2.2.2.2.1)))), (w 12, .inl (cI, 4, .inl (kZ ((knowF kn np t of se N (pl, mn, ch, le, fi, sf, st)).1))))]) := hD
      obtain ⟨p2, hp2⟩ : ∃ p2 : Nat → Int, p2 = (knowF kn np t of se N (pl, mn, ch, le, fi, sf, st)).1 := ⟨_, rfl⟩
      obtain ⟨m2, hm2⟩ : ∃ m2 : Nat → Nat, m2 = (knowF kn np t of se N (pl, mn, ch, le, fi, sf, st)).2.1 := ⟨_, rfl⟩
      obtain ⟨c2, hc2⟩ : ∃ c2 : Nat, c2 = (knowF kn np t of se N (pl, mn, ch, le, fi, sf, st)).2.2.1 := ⟨_, rfl⟩
      obtain ⟨l2, hl2⟩ : ∃ l2 : Int, l2 = (knowF kn np t of se N (pl, mn, ch, le, fi, sf, st)).2.2.2.1 := ⟨_, rfl⟩
      obtain ⟨f2, hf2⟩ : ∃ f2 : Nat → Int, f2 = (knowF kn np t of se N (pl, mn, ch, le, fi, sf, st)).2.2.2.2.1 := ⟨_, rfl⟩
      obtain ⟨a2, ha2⟩ : ∃ a2 : Int, a2 = (knowF kn np t of se N (pl, mn, ch, le, fi, sf, st)).2.2.2.2.2.1 := ⟨_, rfl⟩
      obtain ⟨b2, hb2⟩ : ∃ b2 : Int, b2 = (knowF kn np t of se N (pl, mn, ch, le, fi, sf, st)).2.2.2.2.2.2 := ⟨_, rfl⟩
      replace hP : va_P D k_cl ([(w 0, .inr (4, [.ref (w 1), .int (zI ↑n), .ref (w 2), .ref (w 3), .ref (w 4), .ref (w 5), .int (zI ↑np), .ref (w 6), .ref (w 7), .int (zI 1), .ref (w 8), .ref (w 9), .ref (w 10), .int (zI ↑c2), .int (zI l2), .ref (w 11), .int (zI a2), .int (zI b2), .ref (w 12)])), (w 1, .inl (cI, 30, .inl (kA t))), (w 6, .inl (cI, 4, .inl (kA of))), (w 7, .inl (cI, 4, .inl (kA se))), (w 10, .inl (cI, 200, .inl (kA m2))), (w 11, .inl (cI, 4, .inl (kZ f2))), (w 12, .inl (cI, 4, .inl (kZ p2)))]) H := by rw [hp2, hm2, hc2, hl2, hf2, ha2, hb2]; exact hP
      replace hD : va_D A ([(w 0, .inr (4, [.ref (w 1), .int (zI ↑n), .ref (w 2), .ref (w 3), .ref (w 4), .ref (w 5), .int (zI ↑np), .ref (w 6), .ref (w 7), .int (zI 1), .ref (w 8), .ref (w 9), .ref (w 10), .int (zI ↑c2), .int (zI l2), .ref (w 11), .int (zI a2), .int (zI b2), .ref (w 12)])), (w 1, .inl (cI, 30, .inl (kA t))), (w 6, .inl (cI, 4, .inl (kA of))), (w 7, .inl (cI, 4, .inl (kA se))), (w 10, .inl (cI, 200, .inl (kA m2))), (w 11, .inl (cI, 4, .inl (kZ f2))), (w 12, .inl (cI, 4, .inl (kZ p2)))]) := by rw [hp2, hm2, hc2, hl2, hf2, ha2, hb2]; exact hD
      have hch2 : c2 ≤ 1000000 := by rw [hc2]; exact hch
      refine lv_aload_n hx hb d_Mo_chosen_18 rfl (lv_at hl 0 rfl) ?_
      refine va_get (D := D) (ci := 4) (v := .int (zI ↑c2)) (C := R_Mo) (T := T_Mo) (N := 19) hx hb hkw kin_Mo hown hK hP 0 rfl rfl 13 (by decide) (hkw _ kw_fieldLink_Mo_103) (fun _ h9 => h9) rfl d_Mo_chosen_19 ?_
      refine k_if_ne (tgt := 30) hx hb d_Mo_chosen_22 (by decide) ⟨by omega, by omega⟩ (fun c_22 => ?_) (fun c_22 => ?_)
      · refine lv_aload_n hx hb d_Mo_chosen_30 rfl (lv_at hl 0 rfl) ?_
        refine va_get (D := D) (ci := 4) (v := .ref (w 11)) (C := R_Mo) (T := T_Mo) (N := 19) hx hb hkw kin_Mo hown hK hP 0 rfl rfl 15 (by decide) (hkw _ kw_fieldLink_Mo_40) (fun _ h9 => h9) rfl d_Mo_chosen_31 ?_
        refine lv_iload_n hx hb d_Mo_chosen_34 rfl (lv_at hl 1 rfl) ?_
        refine k_aldZ hx hb hK hP 5 0 rfl rfl (i := i) (by omega) (by omega) (by omega) d_Mo_chosen_35 ?_
        subst hp2 hm2 hc2 hl2 hf2 ha2 hb2
        rw [← hQf]
        exact k_iret hx hb hr hlocks hP hS (congrArg zI (if_neg (by omega)).symm) d_Mo_chosen_36
      · refine lv_bipush (v := zI (-3)) hx hb d_Mo_chosen_25 (by decide) ?_
        refine lv_goto (tgt := 36) hx hb d_Mo_chosen_27 (by decide) ?_
        subst hp2 hm2 hc2 hl2 hf2 ha2 hb2
        rw [← hQf]
        exact k_iret hx hb hr hlocks hP hS (congrArg zI (if_pos (by omega)).symm) d_Mo_chosen_36
    · exfalso; omega

abbrev rm_Mo_ties : Room := { frames := 5, cells := 0, slots := 0, locals := 122 }
set_option maxHeartbeats 4000000 in
set_option maxRecDepth 100000 in
theorem c_Mo_ties (l : Launch) (D : va_G) (cI cR cG : ClassId) (w : Nat → Nat) (n np kn ch : Nat) (le sf st : Int) (t of se mn : Nat → Nat) (fi pl : Nat → Int) (N : Nat) (hch : (knowF kn np t of se N (pl, mn, ch, le, fi, sf, st)).2.2.1 ≤ 1000000) (hle : (knowF kn np t of se N (pl, mn, ch, le, fi, sf, st)).2.2.1 ≠ 0 → 0 ≤ (knowF kn np t of se N (pl, mn, ch, le, fi, sf, st)).2.2.2.1 ∧ (knowF kn np t of se N (pl, mn, ch, le, fi, sf, st)).2.2.2.1 ≤ 199) (hkn : kn ≤ 1) (hnp : np ≤ 4) (ht : ∀ j, t j ≤ 1023) (hof : ∀ j, of j ≤ 9) (hse : ∀ j, se j ≤ 1023) (hpl : ∀ j, -1 ≤ pl j ∧ pl j ≤ 30) (hok : gOK (mn, ch, le, fi, sf, st)) (hN : N ≤ 1000000) (hfin : kn = 0 → 1 ≤ np → (gRun t of se np N (0, va_up pl 0 (-1), (fun _ => 0), 0, le, fi, sf, st)).1 < 0) : k_M l y_Mo_ties (.code y_Mo_ties b_Mo_ties 1 (some .int) :: kW) rm_Mo_ties D k_cl (k_ty cI cR cG) [.ref (w 0)] ([(w 0, .inr (4, [.ref (w 1), .int (zI ↑n), .ref (w 2), .ref (w 3), .ref (w 4), .ref (w 5), .int (zI ↑np), .ref (w 6), .ref (w 7), .int (zI ↑kn), .ref (w 8), .ref (w 9), .ref (w 10), .int (zI ↑ch), .int (zI le), .ref (w 11), .int (zI sf), .int (zI st), .ref (w 12)])), (w 1, .inl (cI, 30, .inl (kA t))), (w 6, .inl (cI, 4, .inl (kA of))), (w 7, .inl (cI, 4, .inl (kA se))), (w 10, .inl (cI, 200, .inl (kA mn))), (w 11, .inl (cI, 4, .inl (kZ fi))), (w 12, .inl (cI, 4, .inl (kZ pl)))]) (k_Qi D k_cl (zI (if (knowF kn np t of se N (pl, mn, ch, le, fi, sf, st)).2.2.1 = 0 then 0 else ↑(((knowF kn np t of se N (pl, mn, ch, le, fi, sf, st)).2.1) ((knowF kn np t of se N (pl, mn, ch, le, fi, sf, st)).2.2.2.1).toNat))) [(w 0, .inr (4, [.ref (w 1), .int (zI ↑n), .ref (w 2), .ref (w 3), .ref (w 4), .ref (w 5), .int (zI ↑np), .ref (w 6), .ref (w 7), .int (zI 1), .ref (w 8), .ref (w 9), .ref (w 10), .int (zI (↑((knowF kn np t of se N (pl, mn, ch, le, fi, sf, st)).2.2.1))), .int (zI ((knowF kn np t of se N (pl, mn, ch, le, fi, sf, st)).2.2.2.1)), .ref (w 11), .int (zI ((knowF kn np t of se N (pl, mn, ch, le, fi, sf, st)).2.2.2.2.2.1)), .int (zI ((knowF kn np t of se N (pl, mn, ch, le, fi, sf, st)).2.2.2.2.2.2)), .ref (w 12)])), (w 1, .inl (cI, 30, .inl (kA t))), (w 6, .inl (cI, 4, .inl (kA of))), (w 7, .inl (cI, 4, .inl (kA se))), (w 10, .inl (cI, 200, .inl (kA ((knowF kn np t of se N (pl, mn, ch, le, fi, sf, st)).2.1)))), (w 11, .inl (cI, 4, .inl (kZ ((knowF kn np t of se N (pl, mn, ch, le, fi, sf, st)).2.2.2.2.1)))), (w 12, .inl (cI, 4, .inl (kZ ((knowF kn np t of se N (pl, mn, ch, le, fi, sf, st)).1))))]) := by
  refine k_start (cc := b_Mo_ties) (maxL := 1) (ret := (some .int)) (by decide) rfl (Nat.le_of_ble_eq_true rfl) ?_
  intro p ev s m ar below meth c A ls Qf hQf hx hb hr hml hts hown hlocks hin hK hG hA hP hD hS hl
  replace hown : s.vm.findClass R_Mo = some m.cls := hown
  replace hl : lv_has ls 1 [(0, .ref (w 0))] := hl
  have hkw : ∀ w ∈ kW, w.before ar s = true := fun w h => hts w (List.mem_cons_of_mem _ h)
  replace hP : va_P D k_cl ([(w 0, .inr (4, [.ref (w 1), .int (zI ↑n), .ref (w 2), .ref (w 3), .ref (w 4), .ref (w 5), .int (zI ↑np), .ref (w 6), .ref (w 7), .int (zI ↑kn), .ref (w 8), .ref (w 9), .ref (w 10), .int (zI ↑ch), .int (zI le), .ref (w 11), .int (zI sf), .int (zI st), .ref (w 12)])), (w 1, .inl (cI, 30, .inl (kA t))), (w 6, .inl (cI, 4, .inl (kA of))), (w 7, .inl (cI, 4, .inl (kA se))), (w 10, .inl (cI, 200, .inl (kA mn))), (w 11, .inl (cI, 4, .inl (kZ fi))), (w 12, .inl (cI, 4, .inl (kZ pl)))]) s.heap := hP
  replace hD : va_D A ([(w 0, .inr (4, [.ref (w 1), .int (zI ↑n), .ref (w 2), .ref (w 3), .ref (w 4), .ref (w 5), .int (zI ↑np), .ref (w 6), .ref (w 7), .int (zI ↑kn), .ref (w 8), .ref (w 9), .ref (w 10), .int (zI ↑ch), .int (zI le), .ref (w 11), .int (zI sf), .int (zI st), .ref (w 12)])), (w 1, .inl (cI, 30, .inl (kA t))), (w 6, .inl (cI, 4, .inl (kA of))), (w 7, .inl (cI, 4, .inl (kA se))), (w 10, .inl (cI, 200, .inl (kA mn))), (w 11, .inl (cI, 4, .inl (kZ fi))), (w 12, .inl (cI, 4, .inl (kZ pl)))]) := hD
  refine lv_aload_n hx hb d_Mo_ties_0 rfl (lv_at hl 0 rfl) ?_
  refine k_beV (va_runV (As := []) (rest := []) ⟨hx, hb, hml, hown, hkw⟩ (c_Mo_know l D cI cR cG w n np kn ch le sf st t of se mn fi pl N hkn hnp ht hof hse hpl hok hN hfin _) (cwV 0 hkw (k_gV kw_methodLink_Mo_122 kw_instanceMethod_Mo_know kw_selects_Mo_know kw_initialized_Mo kw_code_Mo_know) rfl rfl rfl (by decide +kernel) ⟨Nat.le_of_ble_eq_true rfl, Nat.le_of_ble_eq_true rfl⟩) (k_preV (q0 := 0) hK hG hP hD [0, 1, 2, 3, 4, 5, 6] rfl rfl rfl rfl) rfl rfl hl.1 rfl (lv_room (Nat.le_of_ble_eq_true rfl)) d_Mo_ties_1 ⟨Nat.zero_le _, Nat.zero_le _⟩) hP hD hS hA [0, 1, 2, 3, 4, 5, 6] rfl (Eq.trans (b := [w 0, w 1, w 6, w 7, w 10, w 11, w 12]) rfl rfl) ?_
  clear hP hD hS; intro H locs hP hD hS
  replace hP : va_P D k_cl ([(w 0, .inr (4, [.ref (w 1), .int (zI ↑n), .ref (w 2), .ref (w 3), .ref (w 4), .ref (w 5), .int (zI ↑np), .ref (w 6), .ref (w 7), .int (zI 1), .ref (w 8), .ref (w 9), .ref (w 10), .int (zI (↑((knowF kn np t of se N (pl, mn, ch, le, fi, sf, st)).2.2.1))), .int (zI ((knowF kn np t of se N (pl, mn, ch, le, fi, sf, st)).2.2.2.1)), .ref (w 11), .int (zI ((knowF kn np t of se N (pl, mn, ch, le, fi, sf, st)).2.2.2.2.2.1)), .int (zI ((knowF kn np t of se N (pl, mn, ch, le, fi, sf, st)).2.2.2.2.2.2)), .ref (w 12)])), (w 1, .inl (cI, 30, .inl (kA t))), (w 6, .inl (cI, 4, .inl (kA of))), (w 7, .inl (cI, 4, .inl (kA se))), (w 10, .inl (cI, 200, .inl (kA ((knowF kn np t of se N (pl, mn, ch, le, fi, sf, st)).2.1)))), (w 11, .inl (cI, 4, .inl (kZ ((knowF kn np t of se N (pl, mn, ch, le, fi, sf, st)).2.2.2.2.1)))), (w 12, .inl (cI, 4, .inl (kZ ((knowF kn np t of se N (pl, mn, ch, le, fi, sf, st)).1))))]) H := hP
  replace hD : va_D A ([(w 0, .inr (4, [.ref (w 1), .int (zI ↑n), .ref (w 2), .ref (w 3), .ref (w 4), .ref (w 5), .int (zI ↑np), .ref (w 6), .ref (w 7), .int (zI 1), .ref (w 8), .ref (w 9), .ref (w 10), .int (zI (↑((knowF kn np t of se N (pl, mn, ch, le, fi, sf, st)).2.2.1))), .int (zI ((knowF kn np t of se N (pl, mn, ch, le, fi, sf, st)).2.2.2.1)), .ref (w 11), .int (zI ((knowF kn np t of se N (pl, mn, ch, le, fi, sf, st)).2.2.2.2.2.1)), .int (zI ((knowF kn np t of se N (pl, mn, ch, le, fi, sf, st)).2.2.2.2.2.2)), .ref (w 12)])), (w 1, .inl (cI, 30, .inl (kA t))), (w 6, .inl (cI, 4, .inl (kA of))), (w 7, .inl (cI, 4, .inl (kA se))), (w 10, .inl (cI, 200, .inl (kA ((knowF kn np t of se N (pl, mn, ch, le, fi, sf, st)).2.1)))), (w 11, .inl (cI, 4, .inl (kZ ((knowF kn np t of se N (pl, mn, ch, le, fi, sf, st)).2.2.2.2.1)))), (w 12, .inl (cI, 4, .inl (kZ ((knowF kn np t of se N (pl, mn, ch, le, fi, sf, st)).1))))]) := hD
  obtain ⟨p2, hp2⟩ : ∃ p2 : Nat → Int, p2 = (knowF kn np t of se N (pl, mn, ch, le, fi, sf, st)).1 := ⟨_, rfl⟩
  obtain ⟨m2, hm2⟩ : ∃ m2 : Nat → Nat, m2 = (knowF kn np t of se N (pl, mn, ch, le, fi, sf, st)).2.1 := ⟨_, rfl⟩
  obtain ⟨c2, hc2⟩ : ∃ c2 : Nat, c2 = (knowF kn np t of se N (pl, mn, ch, le, fi, sf, st)).2.2.1 := ⟨_, rfl⟩
  obtain ⟨l2, hl2⟩ : ∃ l2 : Int, l2 = (knowF kn np t of se N (pl, mn, ch, le, fi, sf, st)).2.2.2.1 := ⟨_, rfl⟩
  obtain ⟨f2, hf2⟩ : ∃ f2 : Nat → Int, f2 = (knowF kn np t of se N (pl, mn, ch, le, fi, sf, st)).2.2.2.2.1 := ⟨_, rfl⟩
  obtain ⟨a2, ha2⟩ : ∃ a2 : Int, a2 = (knowF kn np t of se N (pl, mn, ch, le, fi, sf, st)).2.2.2.2.2.1 := ⟨_, rfl⟩
  obtain ⟨b2, hb2⟩ : ∃ b2 : Int, b2 = (knowF kn np t of se N (pl, mn, ch, le, fi, sf, st)).2.2.2.2.2.2 := ⟨_, rfl⟩
  replace hP : va_P D k_cl ([(w 0, .inr (4, [.ref (w 1), .int (zI ↑n), .ref (w 2), .ref (w 3), .ref (w 4), .ref (w 5), .int (zI ↑np), .ref (w 6), .ref (w 7), .int (zI 1), .ref (w 8), .ref (w 9), .ref (w 10), .int (zI ↑c2), .int (zI l2), .ref (w 11), .int (zI a2), .int (zI b2), .ref (w 12)])), (w 1, .inl (cI, 30, .inl (kA t))), (w 6, .inl (cI, 4, .inl (kA of))), (w 7, .inl (cI, 4, .inl (kA se))), (w 10, .inl (cI, 200, .inl (kA m2))), (w 11, .inl (cI, 4, .inl (kZ f2))), (w 12, .inl (cI, 4, .inl (kZ p2)))]) H := by rw [hp2, hm2, hc2, hl2, hf2, ha2, hb2]; exact hP
  replace hD : va_D A ([(w 0, .inr (4, [.ref (w 1), .int (zI ↑n), .ref (w 2), .ref (w 3), .ref (w 4), .ref (w 5), .int (zI ↑np), .ref (w 6), .ref (w 7), .int (zI 1), .ref (w 8), .ref (w 9), .ref (w 10), .int (zI ↑c2), .int (zI l2), .ref (w 11), .int (zI a2), .int (zI b2), .ref (w 12)])), (w 1, .inl (cI, 30, .inl (kA t))), (w 6, .inl (cI, 4, .inl (kA of))), (w 7, .inl (cI, 4, .inl (kA se))), (w 10, .inl (cI, 200, .inl (kA m2))), (w 11, .inl (cI, 4, .inl (kZ f2))), (w 12, .inl (cI, 4, .inl (kZ p2)))]) := by rw [hp2, hm2, hc2, hl2, hf2, ha2, hb2]; exact hD
  have hch2 : c2 ≤ 1000000 := by rw [hc2]; exact hch
  have hle2 : c2 ≠ 0 → 0 ≤ l2 ∧ l2 ≤ 199 := by rw [hc2, hl2]; exact hle
  refine lv_aload_n hx hb d_Mo_ties_4 rfl (lv_at hl 0 rfl) ?_
  refine va_get (D := D) (ci := 4) (v := .int (zI ↑c2)) (C := R_Mo) (T := T_Mo) (N := 19) hx hb hkw kin_Mo hown hK hP 0 rfl rfl 13 (by decide) (hkw _ kw_fieldLink_Mo_103) (fun _ h9 => h9) rfl d_Mo_ties_5 ?_
  refine k_if_ne (tgt := 15) hx hb d_Mo_ties_8 (by decide) ⟨by omega, by omega⟩ (fun c_8 => ?_) (fun c_8 => ?_)
  · refine lv_aload_n hx hb d_Mo_ties_15 rfl (lv_at hl 0 rfl) ?_
    refine va_get (D := D) (ci := 4) (v := .ref (w 10)) (C := R_Mo) (T := T_Mo) (N := 19) hx hb hkw kin_Mo hown hK hP 0 rfl rfl 12 (by decide) (hkw _ kw_fieldLink_Mo_37) (fun _ h9 => h9) rfl d_Mo_ties_16 ?_
    refine lv_aload_n hx hb d_Mo_ties_19 rfl (lv_at hl 0 rfl) ?_
    refine va_get (D := D) (ci := 4) (v := .int (zI l2)) (C := R_Mo) (T := T_Mo) (N := 19) hx hb hkw kin_Mo hown hK hP 0 rfl rfl 14 (by decide) (hkw _ kw_fieldLink_Mo_106) (fun _ h9 => h9) rfl d_Mo_ties_20 ?_
    refine k_ald hx hb hK hP 4 0 rfl rfl (i := l2.toNat) (by omega) (by omega) (by omega) d_Mo_ties_23 ?_
    subst hp2 hm2 hc2 hl2 hf2 ha2 hb2
    rw [← hQf]
    exact k_iret hx hb hr hlocks hP hS (congrArg zI (if_neg (by omega)).symm) d_Mo_ties_24
  · refine lv_iconst (v := zI 0) hx hb d_Mo_ties_11 (by decide) ?_
    refine lv_goto (tgt := 24) hx hb d_Mo_ties_12 (by decide) ?_
    subst hp2 hm2 hc2 hl2 hf2 ha2 hb2
    rw [← hQf]
    exact k_iret hx hb hr hlocks hP hS (congrArg zI (if_pos (by omega)).symm) d_Mo_ties_24

abbrev rm_Mo_shortest_1 : Room := { frames := 0, cells := 0, slots := 0, locals := 0 }
set_option maxHeartbeats 4000000 in
set_option maxRecDepth 100000 in
theorem c_Mo_shortest_1 (l : Launch) (D : va_G) (cI cR cG : ClassId) (w : Nat → Nat) (n np kn ch : Nat) (le sf st : Int) (x : Int) (hx1 : k_sm x) (hb : ¬ (x = 0 ∨ x = 1)) : k_M l y_Mo_shortest (.code y_Mo_shortest b_Mo_shortest 2 (some .int) :: kW) rm_Mo_shortest_1 D k_cl (k_ty cI cR cG) [.ref (w 0), .int (zI x)] ([(w 0, .inr (4, [.ref (w 1), .int (zI ↑n), .ref (w 2), .ref (w 3), .ref (w 4), .ref (w 5), .int (zI ↑np), .ref (w 6), .ref (w 7), .int (zI ↑kn), .ref (w 8), .ref (w 9), .ref (w 10), .int (zI ↑ch), .int (zI le), .ref (w 11), .int (zI sf), .int (zI st), .ref (w 12)]))]) (k_Qi D k_cl (zI (-2)) [(w 0, .inr (4, [.ref (w 1), .int (zI ↑n), .ref (w 2), .ref (w 3), .ref (w 4), .ref (w 5), .int (zI ↑np), .ref (w 6), .ref (w 7), .int (zI ↑kn), .ref (w 8), .ref (w 9), .ref (w 10), .int (zI ↑ch), .int (zI le), .ref (w 11), .int (zI sf), .int (zI st), .ref (w 12)]))]) := by
  refine k_start (cc := b_Mo_shortest) (maxL := 2) (ret := (some .int)) (by decide) rfl (Nat.le_of_ble_eq_true rfl) ?_
  intro p ev s m ar below meth c A ls Qf hQf hx hb hr hml hts hown hlocks hin hK hG hA hP hD hS hl
  replace hown : s.vm.findClass R_Mo = some m.cls := hown
  replace hl : lv_has ls 2 [(0, .ref (w 0)), (1, .int (zI x))] := hl
  have hkw : ∀ w ∈ kW, w.before ar s = true := fun w h => hts w (List.mem_cons_of_mem _ h)
  replace hP : va_P D k_cl ([(w 0, .inr (4, [.ref (w 1), .int (zI ↑n), .ref (w 2), .ref (w 3), .ref (w 4), .ref (w 5), .int (zI ↑np), .ref (w 6), .ref (w 7), .int (zI ↑kn), .ref (w 8), .ref (w 9), .ref (w 10), .int (zI ↑ch), .int (zI le), .ref (w 11), .int (zI sf), .int (zI st), .ref (w 12)]))]) s.heap := hP
  replace hD : va_D A ([(w 0, .inr (4, [.ref (w 1), .int (zI ↑n), .ref (w 2), .ref (w 3), .ref (w 4), .ref (w 5), .int (zI ↑np), .ref (w 6), .ref (w 7), .int (zI ↑kn), .ref (w 8), .ref (w 9), .ref (w 10), .int (zI ↑ch), .int (zI le), .ref (w 11), .int (zI sf), .int (zI st), .ref (w 12)]))]) := hD
  have hx2 := hx1.1
  have hx3 := hx1.2
  refine lv_iload_n hx hb d_Mo_shortest_0 rfl (lv_at hl 1 rfl) ?_
  refine k_if_lt (tgt := 9) hx hb d_Mo_shortest_1 (by decide) ⟨by omega, by omega⟩ (fun c_1 => ?_) (fun c_1 => ?_)
  · refine lv_bipush (v := zI (-2)) hx hb d_Mo_shortest_9 (by decide) ?_
    rw [← hQf]
    exact k_iret hx hb hr hlocks hP hS rfl d_Mo_shortest_11
  · refine lv_iload_n hx hb d_Mo_shortest_4 rfl (lv_at hl 1 rfl) ?_
    refine lv_iconst (v := zI 1) hx hb d_Mo_shortest_5 (by decide) ?_
    refine k_icmp_le (tgt := 12) hx hb d_Mo_shortest_6 (by decide) ⟨by omega, by omega⟩ ⟨by omega, by omega⟩ (fun c_6 => ?_) (fun c_6 => ?_)
    · exfalso; omega
    · refine lv_bipush (v := zI (-2)) hx hb d_Mo_shortest_9 (by decide) ?_
      rw [← hQf]
      exact k_iret hx hb hr hlocks hP hS rfl d_Mo_shortest_11

abbrev rm_Mo_shortest_2 : Room := { frames := 5, cells := 0, slots := 0, locals := 122 }
set_option maxHeartbeats 4000000 in
set_option maxRecDepth 100000 in
theorem c_Mo_shortest_2 (l : Launch) (D : va_G) (cI cR cG : ClassId) (w : Nat → Nat) (n np kn ch : Nat) (le sf st : Int) (t of se mn : Nat → Nat) (fi pl : Nat → Int) (N : Nat) (x : Int) (hx01 : x = 0 ∨ x = 1) (hch : (knowF kn np t of se N (pl, mn, ch, le, fi, sf, st)).2.2.1 ≤ 1000000) (hkn : kn ≤ 1) (hnp : np ≤ 4) (ht : ∀ j, t j ≤ 1023) (hof : ∀ j, of j ≤ 9) (hse : ∀ j, se j ≤ 1023) (hpl : ∀ j, -1 ≤ pl j ∧ pl j ≤ 30) (hok : gOK (mn, ch, le, fi, sf, st)) (hN : N ≤ 1000000) (hfin : kn = 0 → 1 ≤ np → (gRun t of se np N (0, va_up pl 0 (-1), (fun _ => 0), 0, le, fi, sf, st)).1 < 0) : k_M l y_Mo_shortest (.code y_Mo_shortest b_Mo_shortest 2 (some .int) :: kW) rm_Mo_shortest_2 D k_cl (k_ty cI cR cG) [.ref (w 0), .int (zI x)] ([(w 0, .inr (4, [.ref (w 1), .int (zI ↑n), .ref (w 2), .ref (w 3), .ref (w 4), .ref (w 5), .int (zI ↑np), .ref (w 6), .ref (w 7), .int (zI ↑kn), .ref (w 8), .ref (w 9), .ref (w 10), .int (zI ↑ch), .int (zI le), .ref (w 11), .int (zI sf), .int (zI st), .ref (w 12)])), (w 1, .inl (cI, 30, .inl (kA t))), (w 6, .inl (cI, 4, .inl (kA of))), (w 7, .inl (cI, 4, .inl (kA se))), (w 10, .inl (cI, 200, .inl (kA mn))), (w 11, .inl (cI, 4, .inl (kZ fi))), (w 12, .inl (cI, 4, .inl (kZ pl)))]) (k_Qi D k_cl (zI (if (knowF kn np t of se N (pl, mn, ch, le, fi, sf, st)).2.2.1 = 0 then -3 else (if x = 0 then (knowF kn np t of se N (pl, mn, ch, le, fi, sf, st)).2.2.2.2.2.1 else (knowF kn np t of se N (pl, mn, ch, le, fi, sf, st)).2.2.2.2.2.2))) [(w 0, .inr (4, [.ref (w 1), .int (zI ↑n), .ref (w 2), .ref (w 3), .ref (w 4), .ref (w 5), .int (zI ↑np), .ref (w 6), .ref (w 7), .int (zI 1), .ref (w 8), .ref (w 9), .ref (w 10), .int (zI (↑((knowF kn np t of se N (pl, mn, ch, le, fi, sf, st)).2.2.1))), .int (zI ((knowF kn np t of se N (pl, mn, ch, le, fi, sf, st)).2.2.2.1)), .ref (w 11), .int (zI ((knowF kn np t of se N (pl, mn, ch, le, fi, sf, st)).2.2.2.2.2.1)), .int (zI ((knowF kn np t of se N (pl, mn, ch, le, fi, sf, st)).2.2.2.2.2.2)), .ref (w 12)])), (w 1, .inl (cI, 30, .inl (kA t))), (w 6, .inl (cI, 4, .inl (kA of))), (w 7, .inl (cI, 4, .inl (kA se))), (w 10, .inl (cI, 200, .inl (kA ((knowF kn np t of se N (pl, mn, ch, le, fi, sf, st)).2.1)))), (w 11, .inl (cI, 4, .inl (kZ ((knowF kn np t of se N (pl, mn, ch, le, fi, sf, st)).2.2.2.2.1)))), (w 12, .inl (cI, 4, .inl (kZ ((knowF kn np t of se N (pl, mn, ch, le, fi, sf, st)).1))))]) := by
  refine k_start (cc := b_Mo_shortest) (maxL := 2) (ret := (some .int)) (by decide) rfl (Nat.le_of_ble_eq_true rfl) ?_
  intro p ev s m ar below meth c A ls Qf hQf hx hb hr hml hts hown hlocks hin hK hG hA hP hD hS hl
  replace hown : s.vm.findClass R_Mo = some m.cls := hown
  replace hl : lv_has ls 2 [(0, .ref (w 0)), (1, .int (zI x))] := hl
  have hkw : ∀ w ∈ kW, w.before ar s = true := fun w h => hts w (List.mem_cons_of_mem _ h)
  replace hP : va_P D k_cl ([(w 0, .inr (4, [.ref (w 1), .int (zI ↑n), .ref (w 2), .ref (w 3), .ref (w 4), .ref (w 5), .int (zI ↑np), .ref (w 6), .ref (w 7), .int (zI ↑kn), .ref (w 8), .ref (w 9), .ref (w 10), .int (zI ↑ch), .int (zI le), .ref (w 11), .int (zI sf), .int (zI st), .ref (w 12)])), (w 1, .inl (cI, 30, .inl (kA t))), (w 6, .inl (cI, 4, .inl (kA of))), (w 7, .inl (cI, 4, .inl (kA se))), (w 10, .inl (cI, 200, .inl (kA mn))), (w 11, .inl (cI, 4, .inl (kZ fi))), (w 12, .inl (cI, 4, .inl (kZ pl)))]) s.heap := hP
  replace hD : va_D A ([(w 0, .inr (4, [.ref (w 1), .int (zI ↑n), .ref (w 2), .ref (w 3), .ref (w 4), .ref (w 5), .int (zI ↑np), .ref (w 6), .ref (w 7), .int (zI ↑kn), .ref (w 8), .ref (w 9), .ref (w 10), .int (zI ↑ch), .int (zI le), .ref (w 11), .int (zI sf), .int (zI st), .ref (w 12)])), (w 1, .inl (cI, 30, .inl (kA t))), (w 6, .inl (cI, 4, .inl (kA of))), (w 7, .inl (cI, 4, .inl (kA se))), (w 10, .inl (cI, 200, .inl (kA mn))), (w 11, .inl (cI, 4, .inl (kZ fi))), (w 12, .inl (cI, 4, .inl (kZ pl)))]) := hD
  refine lv_iload_n hx hb d_Mo_shortest_0 rfl (lv_at hl 1 rfl) ?_
  refine k_if_lt (tgt := 9) hx hb d_Mo_shortest_1 (by decide) ⟨by omega, by omega⟩ (fun c_1 => ?_) (fun c_1 => ?_)
  · exfalso; omega
  · refine lv_iload_n hx hb d_Mo_shortest_4 rfl (lv_at hl 1 rfl) ?_
    refine lv_iconst (v := zI 1) hx hb d_Mo_shortest_5 (by decide) ?_
    refine k_icmp_le (tgt := 12) hx hb d_Mo_shortest_6 (by decide) ⟨by omega, by omega⟩ ⟨by omega, by omega⟩ (fun c_6 => ?_) (fun c_6 => ?_)
    · refine lv_aload_n hx hb d_Mo_shortest_12 rfl (lv_at hl 0 rfl) ?_
      refine k_beV (va_runV (As := []) (rest := []) ⟨hx, hb, hml, hown, hkw⟩ (c_Mo_know l D cI cR cG w n np kn ch le sf st t of se mn fi pl N hkn hnp ht hof hse hpl hok hN hfin _) (cwV 0 hkw (k_gV kw_methodLink_Mo_122 kw_instanceMethod_Mo_know kw_selects_Mo_know kw_initialized_Mo kw_code_Mo_know) rfl rfl rfl (by decide +kernel) ⟨Nat.le_of_ble_eq_true rfl, Nat.le_of_ble_eq_true rfl⟩) (k_preV (q0 := 0) hK hG hP hD [0, 1, 2, 3, 4, 5, 6] rfl rfl rfl rfl) rfl rfl hl.1 rfl (lv_room (Nat.le_of_ble_eq_true rfl)) d_Mo_shortest_13 ⟨Nat.zero_le _, Nat.zero_le _⟩) hP hD hS hA [0, 1, 2, 3, 4, 5, 6] rfl (Eq.trans (b := [w 0, w 1, w 6, w 7, w 10, w 11, w 12]) rfl rfl) ?_
      clear hP hD hS; intro H locs hP hD hS
      replace hP : va_P D k_cl ([(w 0, .inr (4, [.ref (w 1), .int (zI ↑n), .ref (w 2), .ref (w 3), .ref (w 4), .ref (w 5), .int (zI ↑np), .ref (w 6), .ref (w 7), .int (zI 1), .ref (w 8), .ref (w 9), .ref (w 10), .int (zI (↑((knowF kn np t of se N (pl, mn, ch, le, fi, sf, st)).2.2.1))), .int (zI ((knowF kn np t of se N (pl, mn, ch, le, fi, sf, st)).2.2.2.1)), .ref (w 11), .int (zI ((knowF kn np t of se N (pl, mn, ch, le, fi, sf, st)).2.2.2.2.2.1)), .int (zI ((knowF kn np t of se N (pl, mn, ch, le, fi, sf, st)).2.2.2.2.2.2)), .ref (w 12)])), (w 1, .inl (cI, 30, .inl (kA t))), (w 6, .inl (cI, 4, .inl (kA of))), (w 7, .inl (cI, 4, .inl (kA se))), (w 10, .inl (cI, 200, .inl (kA ((knowF kn np t of se N (pl, mn, ch, le, fi, sf, st)).2.1)))), (w 11, .inl (cI, 4, .inl (kZ ((knowF kn np t of se N (pl, mn, ch, le, fi, sf, st)).2.2.2.2.1)))), (w 12, .inl (cI, 4, .inl (kZ ((knowF kn np t of se N (pl, mn, ch, le, fi, sf, st)).1))))]) H := hP
      replace hD : va_D A ([(w 0, .inr (4, [.ref (w 1), .int (zI ↑n), .ref (w 2), .ref (w 3), .ref (w 4), .ref (w 5), .int (zI ↑np), .ref (w 6), .ref (w 7), .int (zI 1), .ref (w 8), .ref (w 9), .ref (w 10), .int (zI (↑((knowF kn np t of se N (pl, mn, ch, le, fi, sf, st)).2.2.1))), .int (zI ((knowF kn np t of se N (pl, mn, ch, le, fi, sf, st)).2.2.2.1)), .ref (w 11), .int (zI ((knowF kn np t of se N (pl, mn, ch, le, fi, sf, st)).2.2.2.2.2.1)), .int (zI ((knowF kn np t of se N (pl, mn, ch, le, fi, sf, st)).2.2.2.2.2.2)), .ref (w 12)])), (w 1, .inl (cI, 30, .inl (kA t))), (w 6, .inl (cI, 4, .inl (kA of))), (w 7, .inl (cI, 4, .inl (kA se))), (w 10, .inl (cI, 200, .inl (kA ((knowF kn np t of se N (pl, mn, ch, le, fi, sf, st)).2.1)))), (w 11, .inl (cI, 4, .inl (kZ ((knowF kn np t of se N (pl, mn, ch, le, fi, sf, st)).2.2.2.2.1)))), (w 12, .inl (cI, 4, .inl (kZ ((knowF kn np t of se N (pl, mn, ch, le, fi, sf, st)).1))))]) := hD
      obtain ⟨p2, hp2⟩ : ∃ p2 : Nat → Int, p2 = (knowF kn np t of se N (pl, mn, ch, le, fi, sf, st)).1 := ⟨_, rfl⟩
      obtain ⟨m2, hm2⟩ : ∃ m2 : Nat → Nat, m2 = (knowF kn np t of se N (pl, mn, ch, le, fi, sf, st)).2.1 := ⟨_, rfl⟩
      obtain ⟨c2, hc2⟩ : ∃ c2 : Nat, c2 = (knowF kn np t of se N (pl, mn, ch, le, fi, sf, st)).2.2.1 := ⟨_, rfl⟩
      obtain ⟨l2, hl2⟩ : ∃ l2 : Int, l2 = (knowF kn np t of se N (pl, mn, ch, le, fi, sf, st)).2.2.2.1 := ⟨_, rfl⟩
      obtain ⟨f2, hf2⟩ : ∃ f2 : Nat → Int, f2 = (knowF kn np t of se N (pl, mn, ch, le, fi, sf, st)).2.2.2.2.1 := ⟨_, rfl⟩
      obtain ⟨a2, ha2⟩ : ∃ a2 : Int, a2 = (knowF kn np t of se N (pl, mn, ch, le, fi, sf, st)).2.2.2.2.2.1 := ⟨_, rfl⟩
      obtain ⟨b2, hb2⟩ : ∃ b2 : Int, b2 = (knowF kn np t of se N (pl, mn, ch, le, fi, sf, st)).2.2.2.2.2.2 := ⟨_, rfl⟩
      replace hP : va_P D k_cl ([(w 0, .inr (4, [.ref (w 1), .int (zI ↑n), .ref (w 2), .ref (w 3), .ref (w 4), .ref (w 5), .int (zI ↑np), .ref (w 6), .ref (w 7), .int (zI 1), .ref (w 8), .ref (w 9), .ref (w 10), .int (zI ↑c2), .int (zI l2), .ref (w 11), .int (zI a2), .int (zI b2), .ref (w 12)])), (w 1, .inl (cI, 30, .inl (kA t))), (w 6, .inl (cI, 4, .inl (kA of))), (w 7, .inl (cI, 4, .inl (kA se))), (w 10, .inl (cI, 200, .inl (kA m2))), (w 11, .inl (cI, 4, .inl (kZ f2))), (w 12, .inl (cI, 4, .inl (kZ p2)))]) H := by rw [hp2, hm2, hc2, hl2, hf2, ha2, hb2]; exact hP
      replace hD : va_D A ([(w 0, .inr (4, [.ref (w 1), .int (zI ↑n), .ref (w 2), .ref (w 3), .ref (w 4), .ref (w 5), .int (zI ↑np), .ref (w 6), .ref (w 7), .int (zI 1), .ref (w 8), .ref (w 9), .ref (w 10), .int (zI ↑c2), .int (zI l2), .ref (w 11), .int (zI a2), .int (zI b2), .ref (w 12)])), (w 1, .inl (cI, 30, .inl (kA t))), (w 6, .inl (cI, 4, .inl (kA of))), (w 7, .inl (cI, 4, .inl (kA se))), (w 10, .inl (cI, 200, .inl (kA m2))), (w 11, .inl (cI, 4, .inl (kZ f2))), (w 12, .inl (cI, 4, .inl (kZ p2)))]) := by rw [hp2, hm2, hc2, hl2, hf2, ha2, hb2]; exact hD
      have hch2 : c2 ≤ 1000000 := by rw [hc2]; exact hch
      refine lv_aload_n hx hb d_Mo_shortest_16 rfl (lv_at hl 0 rfl) ?_
      refine va_get (D := D) (ci := 4) (v := .int (zI ↑c2)) (C := R_Mo) (T := T_Mo) (N := 19) hx hb hkw kin_Mo hown hK hP 0 rfl rfl 13 (by decide) (hkw _ kw_fieldLink_Mo_103) (fun _ h9 => h9) rfl d_Mo_shortest_17 ?_
      refine k_if_ne (tgt := 28) hx hb d_Mo_shortest_20 (by decide) ⟨by omega, by omega⟩ (fun c_20 => ?_) (fun c_20 => ?_)
      · refine lv_iload_n hx hb d_Mo_shortest_28 rfl (lv_at hl 1 rfl) ?_
        refine k_if_ne (tgt := 39) hx hb d_Mo_shortest_29 (by decide) ⟨by omega, by omega⟩ (fun c_29 => ?_) (fun c_29 => ?_)
        · refine lv_aload_n hx hb d_Mo_shortest_39 rfl (lv_at hl 0 rfl) ?_
          refine va_get (D := D) (ci := 4) (v := .int (zI b2)) (C := R_Mo) (T := T_Mo) (N := 19) hx hb hkw kin_Mo hown hK hP 0 rfl rfl 17 (by decide) (hkw _ kw_fieldLink_Mo_109) (fun _ h9 => h9) rfl d_Mo_shortest_40 ?_
          subst hp2 hm2 hc2 hl2 hf2 ha2 hb2
          rw [← hQf]
          exact k_iret hx hb hr hlocks hP hS (congrArg zI ((if_neg (by omega)).trans (if_neg (by omega))).symm) d_Mo_shortest_43
        · refine lv_aload_n hx hb d_Mo_shortest_32 rfl (lv_at hl 0 rfl) ?_
          refine va_get (D := D) (ci := 4) (v := .int (zI a2)) (C := R_Mo) (T := T_Mo) (N := 19) hx hb hkw kin_Mo hown hK hP 0 rfl rfl 16 (by decide) (hkw _ kw_fieldLink_Mo_112) (fun _ h9 => h9) rfl d_Mo_shortest_33 ?_
          refine lv_goto (tgt := 43) hx hb d_Mo_shortest_36 (by decide) ?_
          subst hp2 hm2 hc2 hl2 hf2 ha2 hb2
          rw [← hQf]
          exact k_iret hx hb hr hlocks hP hS (congrArg zI ((if_neg (by omega)).trans (if_pos (by omega))).symm) d_Mo_shortest_43
      · refine lv_bipush (v := zI (-3)) hx hb d_Mo_shortest_23 (by decide) ?_
        refine lv_goto (tgt := 43) hx hb d_Mo_shortest_25 (by decide) ?_
        subst hp2 hm2 hc2 hl2 hf2 ha2 hb2
        rw [← hQf]
        exact k_iret hx hb hr hlocks hP hS (congrArg zI (if_pos (by omega)).symm) d_Mo_shortest_43
    · exfalso; omega
