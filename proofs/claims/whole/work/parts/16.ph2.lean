abbrev rm_Ph_findPlaces : Room := { frames := 0, cells := 0, slots := 0, locals := 0 }
set_option maxHeartbeats 4000000 in
set_option maxRecDepth 100000 in
theorem c_Ph_findPlaces (l : Launch) (D : va_G) (cI cR cG : ClassId) (tx h qo qs qp qc qt qf qn n sd lm : Nat) (sf st : Int) (gr t se pc0 : Nat → Nat) (Pl0 : Nat → Nat → Nat) (hn : n ≤ 4) (ht : ∀ j, t j ≤ 1023) (hse : ∀ j, se j ≤ 1023) (hpc : ∀ j, pc0 j ≤ 30) (hPl : ∀ j i, Pl0 j i ≤ 30) : k_M l y_Ph_findPlaces (.code y_Ph_findPlaces b_Ph_findPlaces 5 none :: kW) rm_Ph_findPlaces D k_cl (k_ty cI cR cG) [.ref h, .ref tx] ([(tx, .inl (cI, 30, .inl (kA t))), (h, .inr (1, [.ref qo, .ref qs, .int (zI ↑n), .int (zI ↑sd), .ref qp, .ref qc, .ref qt, .ref qf, .ref qn, .int (zI ↑lm), .int (zI sf), .int (zI st)])), (qs, .inl (cI, 4, .inl (kA se))), (qp, .inl (cG, 4, .inr (.inr (.inr (.inr (fun i => some (gr i))))))), (qc, .inl (cI, 4, .inl (kA pc0)))] ++ (k_p3 cI gr Pl0)) (k_Qv D k_cl ([(tx, .inl (cI, 30, .inl (kA t))), (h, .inr (1, [.ref qo, .ref qs, .int (zI ↑n), .int (zI ↑sd), .ref qp, .ref qc, .ref qt, .ref qf, .ref qn, .int (zI ↑lm), .int (zI sf), .int (zI st)])), (qs, .inl (cI, 4, .inl (kA se))), (qp, .inl (cG, 4, .inr (.inr (.inr (.inr (fun i => some (gr i))))))), (qc, .inl (cI, 4, .inl (kA ((fAll t se n 0 pc0 Pl0).1))))] ++ k_p3 cI gr (fAll t se n 0 pc0 Pl0).2)) := by
  refine k_start (cc := b_Ph_findPlaces) (maxL := 5) (ret := none) (by decide) rfl (Nat.le_of_ble_eq_true rfl) ?_
  intro p ev s m ar below meth c A ls Qf hQf hx hb hr hml hts hown hlocks hin hK hG hA hP hD hS hl
  replace hown : s.vm.findClass R_Ph = some m.cls := hown
  replace hl : lv_has ls 5 [(0, .ref h), (1, .ref tx)] := hl
  have hkw : ∀ w ∈ kW, w.before ar s = true := fun w h => hts w (List.mem_cons_of_mem _ h)
  replace hP : va_P D k_cl ([(tx, .inl (cI, 30, .inl (kA t))), (h, .inr (1, [.ref qo, .ref qs, .int (zI ↑n), .int (zI ↑sd), .ref qp, .ref qc, .ref qt, .ref qf, .ref qn, .int (zI ↑lm), .int (zI sf), .int (zI st)])), (qs, .inl (cI, 4, .inl (kA se))), (qp, .inl (cG, 4, .inr (.inr (.inr (.inr (fun i => some (gr i))))))), (qc, .inl (cI, 4, .inl (kA pc0)))] ++ (k_p3 cI gr Pl0)) s.heap := hP
  replace hD : va_D A ([(tx, .inl (cI, 30, .inl (kA t))), (h, .inr (1, [.ref qo, .ref qs, .int (zI ↑n), .int (zI ↑sd), .ref qp, .ref qc, .ref qt, .ref qf, .ref qn, .int (zI ↑lm), .int (zI sf), .int (zI st)])), (qs, .inl (cI, 4, .inl (kA se))), (qp, .inl (cG, 4, .inr (.inr (.inr (.inr (fun i => some (gr i))))))), (qc, .inl (cI, 4, .inl (kA pc0)))] ++ (k_p3 cI gr Pl0)) := hD
  refine lv_iconst (v := zI 0) hx hb d_Ph_findPlaces_0 (by decide) ?_
  refine lv_istore_n (lv' := [(2, .int (zI 0)), (0, .ref h), (1, .ref tx)]) hx hb d_Ph_findPlaces_1 rfl hl (by decide) rfl ?_
  clear hl; intro ls hl
  have loop_2 : ∀ (k : Nat) (sl : Nat) (pc : Nat → Nat) (Pl : Nat → Nat → Nat), (sl + k = n) → ((∀ j, pc j ≤ 30) ∧ ∀ j i, Pl j i ≤ 30) → (fAll t se k sl pc Pl = fAll t se n 0 pc0 Pl0) → ∀ (H : Heap) (locs : List Loc) (ls : Array Slot), va_P D k_cl ([(tx, .inl (cI, 30, .inl (kA t))), (h, .inr (1, [.ref qo, .ref qs, .int (zI ↑n), .int (zI ↑sd), .ref qp, .ref qc, .ref qt, .ref qf, .ref qn, .int (zI ↑lm), .int (zI sf), .int (zI st)])), (qs, .inl (cI, 4, .inl (kA se))), (qp, .inl (cG, 4, .inr (.inr (.inr (.inr (fun i => some (gr i))))))), (qc, .inl (cI, 4, .inl (kA pc)))] ++ (k_p3 cI gr Pl)) H → va_D A ([(tx, .inl (cI, 30, .inl (kA t))), (h, .inr (1, [.ref qo, .ref qs, .int (zI ↑n), .int (zI ↑sd), .ref qp, .ref qc, .ref qt, .ref qf, .ref qn, .int (zI ↑lm), .int (zI sf), .int (zI st)])), (qs, .inl (cI, 4, .inl (kA se))), (qp, .inl (cG, 4, .inr (.inr (.inr (.inr (fun i => some (gr i))))))), (qc, .inl (cI, 4, .inl (kA pc)))] ++ (k_p3 cI gr Pl)) → va_S A s.heap H locs → lv_has ls 5 [(0, .ref h), (1, .ref tx), (2, .int (zI ↑sl))] → W p l ev rm_Ph_findPlaces s m ar below meth c H locs 0 0 Qf (F0 m 2 ls []) := by
    intro k
    induction k with
    | zero =>
      intro sl pc Pl hin hbd hgo H locs ls hP hD hS hl
      refine lv_iload_n hx hb d_Ph_findPlaces_2 rfl (lv_at hl 2 rfl) ?_
      refine lv_aload_n hx hb d_Ph_findPlaces_3 rfl (lv_at hl 0 rfl) ?_
      refine va_get (D := D) (ci := 1) (v := .int (zI ↑n)) (C := R_Ph) (T := T_Ph) (N := 12) hx hb hkw kin_Ph hown hK hP 1 rfl rfl 2 (by decide) (hkw _ kw_fieldLink_Ph_18) (fun _ h9 => h9) rfl d_Ph_findPlaces_4 ?_
      refine k_icmp_ge (tgt := 68) hx hb d_Ph_findPlaces_7 (by decide) ⟨by omega, by omega⟩ ⟨by omega, by omega⟩ (fun c_7 => ?_) (fun c_7 => ?_)
      · rw [← hQf]
        replace hP : va_P D k_cl ([(tx, .inl (cI, 30, .inl (kA t))), (h, .inr (1, [.ref qo, .ref qs, .int (zI ↑n), .int (zI ↑sd), .ref qp, .ref qc, .ref qt, .ref qf, .ref qn, .int (zI ↑lm), .int (zI sf), .int (zI st)])), (qs, .inl (cI, 4, .inl (kA se))), (qp, .inl (cG, 4, .inr (.inr (.inr (.inr (fun i => some (gr i))))))), (qc, .inl (cI, 4, .inl (kA ((fAll t se n 0 pc0 Pl0).1))))] ++ k_p3 cI gr (fAll t se n 0 pc0 Pl0).2) H := by rw [← hgo]; exact hP
        exact k_vret hx hb hr hlocks hP hS d_Ph_findPlaces_68
      · exfalso; omega
    | succ k ih_2 =>
      intro sl pc Pl hin hbd hgo H locs ls hP hD hS hl
      refine lv_iload_n hx hb d_Ph_findPlaces_2 rfl (lv_at hl 2 rfl) ?_
      refine lv_aload_n hx hb d_Ph_findPlaces_3 rfl (lv_at hl 0 rfl) ?_
      refine va_get (D := D) (ci := 1) (v := .int (zI ↑n)) (C := R_Ph) (T := T_Ph) (N := 12) hx hb hkw kin_Ph hown hK hP 1 rfl rfl 2 (by decide) (hkw _ kw_fieldLink_Ph_18) (fun _ h9 => h9) rfl d_Ph_findPlaces_4 ?_
      refine k_icmp_ge (tgt := 68) hx hb d_Ph_findPlaces_7 (by decide) ⟨by omega, by omega⟩ ⟨by omega, by omega⟩ (fun c_7 => ?_) (fun c_7 => ?_)
      · exfalso; omega
      · refine lv_iconst (v := zI 0) hx hb d_Ph_findPlaces_10 (by decide) ?_
        refine lv_istore_n (lv' := [(3, .int (zI 0)), (0, .ref h), (1, .ref tx), (2, .int (zI ↑sl))]) hx hb d_Ph_findPlaces_11 rfl hl (by decide) rfl ?_
        clear hl; intro ls hl
        refine lv_iconst (v := zI 0) hx hb d_Ph_findPlaces_12 (by decide) ?_
        refine lv_istore (lv' := [(4, .int (zI 0)), (3, .int (zI 0)), (0, .ref h), (1, .ref tx), (2, .int (zI ↑sl))]) hx hb d_Ph_findPlaces_13 hl (by decide) rfl ?_
        clear hl; intro ls hl
        have loop_15 : ∀ (k2 : Nat) (i : Nat) (f : Nat) (F : Nat → Nat), (i + k2 = 30) → (f ≤ i) → (∀ j, F j ≤ 30) → (fFind t (se sl) k2 i f F = fFind t (se sl) 30 0 0 (Pl sl)) → ∀ (H : Heap) (locs : List Loc) (ls : Array Slot), va_P D k_cl ([(tx, .inl (cI, 30, .inl (kA t))), (h, .inr (1, [.ref qo, .ref qs, .int (zI ↑n), .int (zI ↑sd), .ref qp, .ref qc, .ref qt, .ref qf, .ref qn, .int (zI ↑lm), .int (zI sf), .int (zI st)])), (qs, .inl (cI, 4, .inl (kA se))), (qp, .inl (cG, 4, .inr (.inr (.inr (.inr (fun i => some (gr i))))))), (qc, .inl (cI, 4, .inl (kA pc)))] ++ (k_p3 cI gr (va_up Pl sl F))) H → va_D A ([(tx, .inl (cI, 30, .inl (kA t))), (h, .inr (1, [.ref qo, .ref qs, .int (zI ↑n), .int (zI ↑sd), .ref qp, .ref qc, .ref qt, .ref qf, .ref qn, .int (zI ↑lm), .int (zI sf), .int (zI st)])), (qs, .inl (cI, 4, .inl (kA se))), (qp, .inl (cG, 4, .inr (.inr (.inr (.inr (fun i => some (gr i))))))), (qc, .inl (cI, 4, .inl (kA pc)))] ++ (k_p3 cI gr (va_up Pl sl F))) → va_S A s.heap H locs → lv_has ls 5 [(0, .ref h), (1, .ref tx), (2, .int (zI ↑sl)), (3, .int (zI ↑f)), (4, .int (zI ↑i))] → W p l ev rm_Ph_findPlaces s m ar below meth c H locs 0 0 Qf (F0 m 15 ls []) := by
          intro k2
          induction k2 with
          | zero =>
            intro i f F hin2 hfi hF hgo2 H locs ls hP hD hS hl
            refine lv_iload hx hb d_Ph_findPlaces_15 (lv_at hl 4 rfl) ?_
            refine lv_bipush (v := zI 30) hx hb d_Ph_findPlaces_17 (by decide) ?_
            refine k_icmp_ge (tgt := 55) hx hb d_Ph_findPlaces_19 (by decide) ⟨by omega, by omega⟩ ⟨by omega, by omega⟩ (fun c_19 => ?_) (fun c_19 => ?_)
            · refine lv_aload_n hx hb d_Ph_findPlaces_55 rfl (lv_at hl 0 rfl) ?_
              refine va_get (D := D) (ci := 1) (v := .ref qc) (C := R_Ph) (T := T_Ph) (N := 12) hx hb hkw kin_Ph hown hK hP 1 rfl rfl 5 (by decide) (hkw _ kw_fieldLink_Ph_31) (fun _ h9 => h9) rfl d_Ph_findPlaces_56 ?_
              refine lv_iload_n hx hb d_Ph_findPlaces_59 rfl (lv_at hl 2 rfl) ?_
              refine lv_iload_n hx hb d_Ph_findPlaces_60 rfl (lv_at hl 3 rfl) ?_
              refine k_ast hx hb hK hP hD hS 4 0 rfl rfl (i := sl) (v := f) (by omega) (by omega) (by omega) (by omega) d_Ph_findPlaces_61 ?_
              clear hP hD hS; intro H locs hP hD hS
              replace hP : va_P D k_cl ([(tx, .inl (cI, 30, .inl (kA t))), (h, .inr (1, [.ref qo, .ref qs, .int (zI ↑n), .int (zI ↑sd), .ref qp, .ref qc, .ref qt, .ref qf, .ref qn, .int (zI ↑lm), .int (zI sf), .int (zI st)])), (qs, .inl (cI, 4, .inl (kA se))), (qp, .inl (cG, 4, .inr (.inr (.inr (.inr (fun i => some (gr i))))))), (qc, .inl (cI, 4, .inl (kA (va_up pc sl f))))] ++ (k_p3 cI gr (va_up Pl sl F))) H := hP
              replace hD : va_D A ([(tx, .inl (cI, 30, .inl (kA t))), (h, .inr (1, [.ref qo, .ref qs, .int (zI ↑n), .int (zI ↑sd), .ref qp, .ref qc, .ref qt, .ref qf, .ref qn, .int (zI ↑lm), .int (zI sf), .int (zI st)])), (qs, .inl (cI, 4, .inl (kA se))), (qp, .inl (cG, 4, .inr (.inr (.inr (.inr (fun i => some (gr i))))))), (qc, .inl (cI, 4, .inl (kA (va_up pc sl f))))] ++ (k_p3 cI gr (va_up Pl sl F))) := hD
              refine k_iinc (v := ↑(sl + 1)) (lv' := [(2, .int (zI (↑(sl + 1)))), (0, .ref h), (1, .ref tx), (3, .int (zI ↑f)), (4, .int (zI ↑i))]) hx hb d_Ph_findPlaces_62 hl (k := 2) rfl (by omega) (by decide) rfl ?_
              clear hl; intro ls hl
              refine lv_goto (tgt := 2) hx hb d_Ph_findPlaces_65 (by decide) ?_
              exact ih_2 (sl + 1) (va_up pc sl f) (va_up Pl sl F) (by omega) ⟨k_upB hbd.1 (by omega), k_upE hbd.2 hF⟩ (by rw [fAll, ← hgo2] at hgo; exact hgo) _ _ _ hP hD hS (lv_sub hl [1, 2, 0] rfl)
            · exfalso; omega
          | succ k2 ih_15 =>
            intro i f F hin2 hfi hF hgo2 H locs ls hP hD hS hl
            refine lv_iload hx hb d_Ph_findPlaces_15 (lv_at hl 4 rfl) ?_
            refine lv_bipush (v := zI 30) hx hb d_Ph_findPlaces_17 (by decide) ?_
            refine k_icmp_ge (tgt := 55) hx hb d_Ph_findPlaces_19 (by decide) ⟨by omega, by omega⟩ ⟨by omega, by omega⟩ (fun c_19 => ?_) (fun c_19 => ?_)
            · exfalso; omega
            · refine lv_aload_n hx hb d_Ph_findPlaces_22 rfl (lv_at hl 1 rfl) ?_
              refine lv_iload hx hb d_Ph_findPlaces_23 (lv_at hl 4 rfl) ?_
              refine k_ald hx hb hK hP 0 0 rfl rfl (i := i) (by omega) (by omega) (by omega) d_Ph_findPlaces_25 ?_
              have hv_1 := ht i
              refine lv_aload_n hx hb d_Ph_findPlaces_26 rfl (lv_at hl 0 rfl) ?_
              refine va_get (D := D) (ci := 1) (v := .ref qs) (C := R_Ph) (T := T_Ph) (N := 12) hx hb hkw kin_Ph hown hK hP 1 rfl rfl 1 (by decide) (hkw _ kw_fieldLink_Ph_15) (fun _ h9 => h9) rfl d_Ph_findPlaces_27 ?_
              refine lv_iload_n hx hb d_Ph_findPlaces_30 rfl (lv_at hl 2 rfl) ?_
              refine k_ald hx hb hK hP 2 0 rfl rfl (i := sl) (by omega) (by omega) (by omega) d_Ph_findPlaces_31 ?_
              have hv_2 := hse sl
              refine k_iand (a := (t i)) (b := (se sl)) hx hb d_Ph_findPlaces_32 ?_
              have hv_3 := k_and_le (t i) (se sl) 1023 (by omega)
              refine k_if_eq (tgt := 49) hx hb d_Ph_findPlaces_33 (by decide) ⟨by omega, by omega⟩ (fun c_33 => ?_) (fun c_33 => ?_)
              · refine k_iinc (v := ↑(i + 1)) (lv' := [(4, .int (zI (↑(i + 1)))), (0, .ref h), (1, .ref tx), (2, .int (zI ↑sl)), (3, .int (zI ↑f))]) hx hb d_Ph_findPlaces_49 hl (k := 4) rfl (by omega) (by decide) rfl ?_
                clear hl; intro ls hl
                refine lv_goto (tgt := 15) hx hb d_Ph_findPlaces_52 (by decide) ?_
                exact ih_15 (i + 1) f F (by omega) (by omega) hF (by rw [fFind] at hgo2; (repeat' split at hgo2); all_goals first | exact hgo2 | (exfalso; omega) | contradiction) _ _ _ hP hD hS (lv_sub hl [1, 2, 3, 4, 0] rfl)
              · refine lv_aload_n hx hb d_Ph_findPlaces_36 rfl (lv_at hl 0 rfl) ?_
                refine va_get (D := D) (ci := 1) (v := .ref qp) (C := R_Ph) (T := T_Ph) (N := 12) hx hb hkw kin_Ph hown hK hP 1 rfl rfl 4 (by decide) (hkw _ kw_fieldLink_Ph_28) (fun _ h9 => h9) rfl d_Ph_findPlaces_37 ?_
                refine lv_iload_n hx hb d_Ph_findPlaces_40 rfl (lv_at hl 2 rfl) ?_
                refine k_galdA hx hb hK hP 3 2 rfl rfl (i := sl) (by omega) (by omega) (by omega) d_Ph_findPlaces_41 ?_
                refine lv_iload_n hx hb d_Ph_findPlaces_42 rfl (lv_at hl 3 rfl) ?_
                refine lv_iload hx hb d_Ph_findPlaces_43 (lv_at hl 4 rfl) ?_
                refine k_ast (F := F) (n := 30) (cA := cI) (i := f) (v := i) hx hb hK hP hD hS (5 + sl) 0 ((k_grid (L := 5) rfl (by omega)).trans (by rw [va_up_self])) rfl (by omega) (by omega) (by omega) (by omega) d_Ph_findPlaces_45 ?_
                clear hP hD hS; intro H locs hP hD hS
                rw [k_grid_set (X := [(tx, .inl (cI, 30, .inl (kA t))), (h, .inr (1, [.ref qo, .ref qs, .int (zI ↑n), .int (zI ↑sd), .ref qp, .ref qc, .ref qt, .ref qf, .ref qn, .int (zI ↑lm), .int (zI sf), .int (zI st)])), (qs, .inl (cI, 4, .inl (kA se))), (qp, .inl (cG, 4, .inr (.inr (.inr (.inr (fun i => some (gr i))))))), (qc, .inl (cI, 4, .inl (kA pc)))]) (cI := cI) (gr := gr) (Pl := va_up Pl sl F) (j := sl) (L := 5) (v := va_up F f i) rfl, bx_uu] at hP hD
                replace hP : va_P D k_cl ([(tx, .inl (cI, 30, .inl (kA t))), (h, .inr (1, [.ref qo, .ref qs, .int (zI ↑n), .int (zI ↑sd), .ref qp, .ref qc, .ref qt, .ref qf, .ref qn, .int (zI ↑lm), .int (zI sf), .int (zI st)])), (qs, .inl (cI, 4, .inl (kA se))), (qp, .inl (cG, 4, .inr (.inr (.inr (.inr (fun i => some (gr i))))))), (qc, .inl (cI, 4, .inl (kA pc)))] ++ (k_p3 cI gr (va_up Pl sl (va_up F f i)))) H := hP
                replace hD : va_D A ([(tx, .inl (cI, 30, .inl (kA t))), (h, .inr (1, [.ref qo, .ref qs, .int (zI ↑n), .int (zI ↑sd), .ref qp, .ref qc, .ref qt, .ref qf, .ref qn, .int (zI ↑lm), .int (zI sf), .int (zI st)])), (qs, .inl (cI, 4, .inl (kA se))), (qp, .inl (cG, 4, .inr (.inr (.inr (.inr (fun i => some (gr i))))))), (qc, .inl (cI, 4, .inl (kA pc)))] ++ (k_p3 cI gr (va_up Pl sl (va_up F f i)))) := hD
                refine k_iinc (v := ↑(f + 1)) (lv' := [(3, .int (zI (↑(f + 1)))), (0, .ref h), (1, .ref tx), (2, .int (zI ↑sl)), (4, .int (zI ↑i))]) hx hb d_Ph_findPlaces_46 hl (k := 3) rfl (by omega) (by decide) rfl ?_
                clear hl; intro ls hl
                refine k_iinc (v := ↑(i + 1)) (lv' := [(4, .int (zI (↑(i + 1)))), (3, .int (zI (↑(f + 1)))), (0, .ref h), (1, .ref tx), (2, .int (zI ↑sl))]) hx hb d_Ph_findPlaces_49 hl (k := 4) rfl (by omega) (by decide) rfl ?_
                clear hl; intro ls hl
                refine lv_goto (tgt := 15) hx hb d_Ph_findPlaces_52 (by decide) ?_
                exact ih_15 (i + 1) (f + 1) (va_up F f i) (by omega) (by omega) (k_upB hF (by omega)) (by rw [fFind] at hgo2; (repeat' split at hgo2); all_goals first | exact hgo2 | (exfalso; omega) | contradiction) _ _ _ hP hD hS (lv_sub hl [2, 3, 4, 1, 0] rfl)
        exact loop_15 30 0 0 (Pl sl) (by omega) (by omega) (hbd.2 sl) rfl _ _ _ (by rw [k_up_id]; exact hP) (by rw [k_up_id]; exact hD) hS (lv_sub hl [2, 3, 4, 1, 0] rfl)
  exact loop_2 n 0 pc0 Pl0 (by omega) ⟨hpc, hPl⟩ rfl _ _ _ hP hD hS (lv_sub hl [1, 2, 0] rfl)

abbrev rm_Ph_searchMoved (d : Nat) : Room := { frames := d + 4, cells := 0, slots := 0, locals := 29 * d + 200 }
set_option maxHeartbeats 8000000 in
set_option maxRecDepth 100000 in
theorem c_Ph_searchMoved (l : Launch) (D : va_G) (cI cR cG : ClassId) (h qo qs qp qc qt qf qn n sd : Nat) (sf st : Int) (gr of se pc : Nat → Nat) (Pl : Nat → Nat → Nat) (hn : n ≤ 4) (hof : ∀ j, of j ≤ 9) (hse : ∀ j, se j ≤ 1023) (hpc : ∀ j, pc j ≤ 30) (hPl : ∀ j i, Pl j i ≤ 30) : ∀ (d : Nat) (sl mv : Nat) (lo hi : Int) (tr fc cn : Nat → Nat) (lm : Nat), (sl + d = n) → (mv + 100 * d ≤ 500) → (-9 ≤ lo ∧ lo ≤ 30) → (-9 ≤ hi ∧ hi ≤ 30) → (∀ j, tr j ≤ 30) → (lm ≤ 77) → k_M l y_Ph_searchMoved (.code y_Ph_searchMoved b_Ph_searchMoved 10 none :: kW) (rm_Ph_searchMoved d) D k_cl (k_ty cI cR cG) [.ref h, .int (zI ↑sl), .int (zI ↑mv), .int (zI lo), .int (zI hi)] ([(h, .inr (1, [.ref qo, .ref qs, .int (zI ↑n), .int (zI ↑sd), .ref qp, .ref qc, .ref qt, .ref qf, .ref qn, .int (zI ↑lm), .int (zI sf), .int (zI st)])), (qo, .inl (cI, 4, .inl (kA of))), (qs, .inl (cI, 4, .inl (kA se))), (qp, .inl (cG, 4, .inr (.inr (.inr (.inr (fun i => some (gr i))))))), (qc, .inl (cI, 4, .inl (kA pc))), (qt, .inl (cI, 4, .inl (kA tr))), (qf, .inl (cI, 4, .inl (kA fc))), (qn, .inl (cI, 77, .inl (kA cn)))] ++ (k_p3 cI gr Pl)) (k_Qv D k_cl ([(h, .inr (1, [.ref qo, .ref qs, .int (zI ↑n), .int (zI ↑sd), .ref qp, .ref qc, .ref qt, .ref qf, .ref qn, .int (zI (↑((sM of se pc Pl d sl mv lo hi (tr, fc, cn, lm)).2.2.2))), .int (zI sf), .int (zI st)])), (qo, .inl (cI, 4, .inl (kA of))), (qs, .inl (cI, 4, .inl (kA se))), (qp, .inl (cG, 4, .inr (.inr (.inr (.inr (fun i => some (gr i))))))), (qc, .inl (cI, 4, .inl (kA pc))), (qt, .inl (cI, 4, .inl (kA ((sM of se pc Pl d sl mv lo hi (tr, fc, cn, lm)).1)))), (qf, .inl (cI, 4, .inl (kA ((sM of se pc Pl d sl mv lo hi (tr, fc, cn, lm)).2.1)))), (qn, .inl (cI, 77, .inl (kA ((sM of se pc Pl d sl mv lo hi (tr, fc, cn, lm)).2.2.1))))] ++ k_p3 cI gr Pl)) := by
  intro d
  induction d with
  | zero =>
    intro sl mv lo hi tr fc cn lm hsl hmv hlo hhi htr hlm
    refine k_start (cc := b_Ph_searchMoved) (maxL := 10) (ret := none) (by decide) rfl (Nat.le_of_ble_eq_true rfl) ?_
    intro p ev s m ar below meth c A ls Qf hQf hx hb hr hml hts hown hlocks hin hK hG hA hP hD hS hl
    replace hown : s.vm.findClass R_Ph = some m.cls := hown
    replace hl : lv_has ls 10 [(0, .ref h), (1, .int (zI ↑sl)), (2, .int (zI ↑mv)), (3, .int (zI lo)), (4, .int (zI hi))] := hl
    have hkw : ∀ w ∈ kW, w.before ar s = true := fun w h => hts w (List.mem_cons_of_mem _ h)
    replace hP : va_P D k_cl ([(h, .inr (1, [.ref qo, .ref qs, .int (zI ↑n), .int (zI ↑sd), .ref qp, .ref qc, .ref qt, .ref qf, .ref qn, .int (zI ↑lm), .int (zI sf), .int (zI st)])), (qo, .inl (cI, 4, .inl (kA of))), (qs, .inl (cI, 4, .inl (kA se))), (qp, .inl (cG, 4, .inr (.inr (.inr (.inr (fun i => some (gr i))))))), (qc, .inl (cI, 4, .inl (kA pc))), (qt, .inl (cI, 4, .inl (kA tr))), (qf, .inl (cI, 4, .inl (kA fc))), (qn, .inl (cI, 77, .inl (kA cn)))] ++ (k_p3 cI gr Pl)) s.heap := hP
    replace hD : va_D A ([(h, .inr (1, [.ref qo, .ref qs, .int (zI ↑n), .int (zI ↑sd), .ref qp, .ref qc, .ref qt, .ref qf, .ref qn, .int (zI ↑lm), .int (zI sf), .int (zI st)])), (qo, .inl (cI, 4, .inl (kA of))), (qs, .inl (cI, 4, .inl (kA se))), (qp, .inl (cG, 4, .inr (.inr (.inr (.inr (fun i => some (gr i))))))), (qc, .inl (cI, 4, .inl (kA pc))), (qt, .inl (cI, 4, .inl (kA tr))), (qf, .inl (cI, 4, .inl (kA fc))), (qn, .inl (cI, 77, .inl (kA cn)))] ++ (k_p3 cI gr Pl)) := hD
    refine lv_iload_n hx hb d_Ph_searchMoved_0 rfl (lv_at hl 1 rfl) ?_
    refine lv_aload_n hx hb d_Ph_searchMoved_1 rfl (lv_at hl 0 rfl) ?_
    refine va_get (D := D) (ci := 1) (v := .int (zI ↑n)) (C := R_Ph) (T := T_Ph) (N := 12) hx hb hkw kin_Ph hown hK hP 0 rfl rfl 2 (by decide) (hkw _ kw_fieldLink_Ph_18) (fun _ h9 => h9) rfl d_Ph_searchMoved_2 ?_
    refine k_icmp_lt (tgt := 14) hx hb d_Ph_searchMoved_5 (by decide) ⟨by omega, by omega⟩ ⟨by omega, by omega⟩ (fun c_5 => ?_) (fun c_5 => ?_)
    · exfalso; omega
    · refine lv_aload_n hx hb d_Ph_searchMoved_8 rfl (lv_at hl 0 rfl) ?_
      refine lv_iload_n hx hb d_Ph_searchMoved_9 rfl (lv_at hl 2 rfl) ?_
      refine k_beV (va_runV (As := [.int (zI ↑mv)]) (rest := []) ⟨hx, hb, hml, hown, hkw⟩ (c_Ph_noteChoice l D cI cR cG h qo qs qp qc qt qf qn n sd lm sf st tr fc cn mv (by omega) (by omega) _) (cwV 1 hkw (k_gV kw_methodLink_Ph_79 kw_instanceMethod_Ph_noteChoice kw_selects_Ph_noteChoice kw_initialized_Ph kw_code_Ph_noteChoice) rfl rfl rfl (by decide +kernel) ⟨(by have h9 : (2 : Nat) ≤ 0 + 4 := (by omega); exact h9), (by have h9 : (81 : Nat) ≤ 29 * 0 + 200 := (by omega); exact h9)⟩) (k_preV (q0 := 0) hK hG hP hD [0, 5, 6, 7] rfl rfl rfl rfl) rfl rfl hl.1 rfl (lv_room (Nat.le_of_ble_eq_true rfl)) d_Ph_searchMoved_10 ⟨Nat.zero_le _, Nat.zero_le _⟩) hP hD hS hA [0, 5, 6, 7] rfl (Eq.trans (b := [h, qt, qf, qn]) rfl rfl) ?_
      clear hP hD hS; intro H locs hP hD hS
      replace hP : va_P D k_cl ([(h, .inr (1, [.ref qo, .ref qs, .int (zI ↑n), .int (zI ↑sd), .ref qp, .ref qc, .ref qt, .ref qf, .ref qn, .int (zI (↑((sNote mv (tr, fc, cn, lm)).2.2.2))), .int (zI sf), .int (zI st)])), (qo, .inl (cI, 4, .inl (kA of))), (qs, .inl (cI, 4, .inl (kA se))), (qp, .inl (cG, 4, .inr (.inr (.inr (.inr (fun i => some (gr i))))))), (qc, .inl (cI, 4, .inl (kA pc))), (qt, .inl (cI, 4, .inl (kA ((sNote mv (tr, fc, cn, lm)).1)))), (qf, .inl (cI, 4, .inl (kA ((sNote mv (tr, fc, cn, lm)).2.1)))), (qn, .inl (cI, 77, .inl (kA ((sNote mv (tr, fc, cn, lm)).2.2.1))))] ++ (k_p3 cI gr Pl)) H := hP
      replace hD : va_D A ([(h, .inr (1, [.ref qo, .ref qs, .int (zI ↑n), .int (zI ↑sd), .ref qp, .ref qc, .ref qt, .ref qf, .ref qn, .int (zI (↑((sNote mv (tr, fc, cn, lm)).2.2.2))), .int (zI sf), .int (zI st)])), (qo, .inl (cI, 4, .inl (kA of))), (qs, .inl (cI, 4, .inl (kA se))), (qp, .inl (cG, 4, .inr (.inr (.inr (.inr (fun i => some (gr i))))))), (qc, .inl (cI, 4, .inl (kA pc))), (qt, .inl (cI, 4, .inl (kA ((sNote mv (tr, fc, cn, lm)).1)))), (qf, .inl (cI, 4, .inl (kA ((sNote mv (tr, fc, cn, lm)).2.1)))), (qn, .inl (cI, 77, .inl (kA ((sNote mv (tr, fc, cn, lm)).2.2.1))))] ++ (k_p3 cI gr Pl)) := hD
      rw [← hQf]
      exact k_vret hx hb hr hlocks hP hS d_Ph_searchMoved_13
  | succ d ih =>
    intro sl mv lo hi tr fc cn lm hsl hmv hlo hhi htr hlm
    refine k_start (cc := b_Ph_searchMoved) (maxL := 10) (ret := none) (by decide) rfl (Nat.le_of_ble_eq_true rfl) ?_
    intro p ev s m ar below meth c A ls Qf hQf hx hb hr hml hts hown hlocks hin hK hG hA hP hD hS hl
    replace hown : s.vm.findClass R_Ph = some m.cls := hown
    replace hl : lv_has ls 10 [(0, .ref h), (1, .int (zI ↑sl)), (2, .int (zI ↑mv)), (3, .int (zI lo)), (4, .int (zI hi))] := hl
    have hkw : ∀ w ∈ kW, w.before ar s = true := fun w h => hts w (List.mem_cons_of_mem _ h)
    replace hP : va_P D k_cl ([(h, .inr (1, [.ref qo, .ref qs, .int (zI ↑n), .int (zI ↑sd), .ref qp, .ref qc, .ref qt, .ref qf, .ref qn, .int (zI ↑lm), .int (zI sf), .int (zI st)])), (qo, .inl (cI, 4, .inl (kA of))), (qs, .inl (cI, 4, .inl (kA se))), (qp, .inl (cG, 4, .inr (.inr (.inr (.inr (fun i => some (gr i))))))), (qc, .inl (cI, 4, .inl (kA pc))), (qt, .inl (cI, 4, .inl (kA tr))), (qf, .inl (cI, 4, .inl (kA fc))), (qn, .inl (cI, 77, .inl (kA cn)))] ++ (k_p3 cI gr Pl)) s.heap := hP
    replace hD : va_D A ([(h, .inr (1, [.ref qo, .ref qs, .int (zI ↑n), .int (zI ↑sd), .ref qp, .ref qc, .ref qt, .ref qf, .ref qn, .int (zI ↑lm), .int (zI sf), .int (zI st)])), (qo, .inl (cI, 4, .inl (kA of))), (qs, .inl (cI, 4, .inl (kA se))), (qp, .inl (cG, 4, .inr (.inr (.inr (.inr (fun i => some (gr i))))))), (qc, .inl (cI, 4, .inl (kA pc))), (qt, .inl (cI, 4, .inl (kA tr))), (qf, .inl (cI, 4, .inl (kA fc))), (qn, .inl (cI, 77, .inl (kA cn)))] ++ (k_p3 cI gr Pl)) := hD
    refine lv_iload_n hx hb d_Ph_searchMoved_0 rfl (lv_at hl 1 rfl) ?_
    refine lv_aload_n hx hb d_Ph_searchMoved_1 rfl (lv_at hl 0 rfl) ?_
    refine va_get (D := D) (ci := 1) (v := .int (zI ↑n)) (C := R_Ph) (T := T_Ph) (N := 12) hx hb hkw kin_Ph hown hK hP 0 rfl rfl 2 (by decide) (hkw _ kw_fieldLink_Ph_18) (fun _ h9 => h9) rfl d_Ph_searchMoved_2 ?_
    refine k_icmp_lt (tgt := 14) hx hb d_Ph_searchMoved_5 (by decide) ⟨by omega, by omega⟩ ⟨by omega, by omega⟩ (fun c_5 => ?_) (fun c_5 => ?_)
    · refine lv_iconst (v := zI 0) hx hb d_Ph_searchMoved_14 (by decide) ?_
      refine lv_istore (lv' := [(5, .int (zI 0)), (0, .ref h), (1, .int (zI ↑sl)), (2, .int (zI ↑mv)), (3, .int (zI lo)), (4, .int (zI hi))]) hx hb d_Ph_searchMoved_15 hl (by decide) rfl ?_
      clear hl; intro ls hl
      have loop_17 : ∀ (k : Nat) (i : Nat) (tr2 : Nat → Nat) (fc2 : Nat → Nat) (cn2 : Nat → Nat) (lm2 : Nat), (i + k = pc sl) → (∀ j, tr2 j ≤ 30) → (lm2 ≤ 77) → (kLoop (sStep of se Pl (sM of se pc Pl d (sl + 1)) sl mv lo hi) k i (tr2, fc2, cn2, lm2) = kLoop (sStep of se Pl (sM of se pc Pl d (sl + 1)) sl mv lo hi) (pc sl) 0 (tr, fc, cn, lm)) → ∀ (H : Heap) (locs : List Loc) (ls : Array Slot), va_P D k_cl ([(h, .inr (1, [.ref qo, .ref qs, .int (zI ↑n), .int (zI ↑sd), .ref qp, .ref qc, .ref qt, .ref qf, .ref qn, .int (zI ↑lm2), .int (zI sf), .int (zI st)])), (qo, .inl (cI, 4, .inl (kA of))), (qs, .inl (cI, 4, .inl (kA se))), (qp, .inl (cG, 4, .inr (.inr (.inr (.inr (fun i => some (gr i))))))), (qc, .inl (cI, 4, .inl (kA pc))), (qt, .inl (cI, 4, .inl (kA tr2))), (qf, .inl (cI, 4, .inl (kA fc2))), (qn, .inl (cI, 77, .inl (kA cn2)))] ++ (k_p3 cI gr Pl)) H → va_D A ([(h, .inr (1, [.ref qo, .ref qs, .int (zI ↑n), .int (zI ↑sd), .ref qp, .ref qc, .ref qt, .ref qf, .ref qn, .int (zI ↑lm2), .int (zI sf), .int (zI st)])), (qo, .inl (cI, 4, .inl (kA of))), (qs, .inl (cI, 4, .inl (kA se))), (qp, .inl (cG, 4, .inr (.inr (.inr (.inr (fun i => some (gr i))))))), (qc, .inl (cI, 4, .inl (kA pc))), (qt, .inl (cI, 4, .inl (kA tr2))), (qf, .inl (cI, 4, .inl (kA fc2))), (qn, .inl (cI, 77, .inl (kA cn2)))] ++ (k_p3 cI gr Pl)) → va_S A s.heap H locs → lv_has ls 10 [(0, .ref h), (1, .int (zI ↑sl)), (2, .int (zI ↑mv)), (3, .int (zI lo)), (4, .int (zI hi)), (5, .int (zI ↑i))] → W p l ev (rm_Ph_searchMoved (d + 1)) s m ar below meth c H locs 0 0 Qf (F0 m 17 ls []) := by
        intro k
        induction k with
        | zero =>
          intro i tr2 fc2 cn2 lm2 hin htr2 hlm2 hgo H locs ls hP hD hS hl
          have hpz := hpc sl
          refine lv_iload hx hb d_Ph_searchMoved_17 (lv_at hl 5 rfl) ?_
          refine lv_aload_n hx hb d_Ph_searchMoved_19 rfl (lv_at hl 0 rfl) ?_
          refine va_get (D := D) (ci := 1) (v := .ref qc) (C := R_Ph) (T := T_Ph) (N := 12) hx hb hkw kin_Ph hown hK hP 0 rfl rfl 5 (by decide) (hkw _ kw_fieldLink_Ph_31) (fun _ h9 => h9) rfl d_Ph_searchMoved_20 ?_
          refine lv_iload_n hx hb d_Ph_searchMoved_23 rfl (lv_at hl 1 rfl) ?_
          refine k_ald hx hb hK hP 4 0 rfl rfl (i := sl) (by omega) (by omega) (by omega) d_Ph_searchMoved_24 ?_
          have hv_1 := hpc sl
          refine k_icmp_ge (tgt := 156) hx hb d_Ph_searchMoved_25 (by decide) ⟨by omega, by omega⟩ ⟨by omega, by omega⟩ (fun c_25 => ?_) (fun c_25 => ?_)
          · have e9 : sM of se pc Pl (d + 1) sl mv lo hi (tr, fc, cn, lm) = (tr2, fc2, cn2, lm2) := hgo.symm
            replace hP : va_P D k_cl ([(h, .inr (1, [.ref qo, .ref qs, .int (zI ↑n), .int (zI ↑sd), .ref qp, .ref qc, .ref qt, .ref qf, .ref qn, .int (zI (↑((sM of se pc Pl (d + 1) sl mv lo hi (tr, fc, cn, lm)).2.2.2))), .int (zI sf), .int (zI st)])), (qo, .inl (cI, 4, .inl (kA of))), (qs, .inl (cI, 4, .inl (kA se))), (qp, .inl (cG, 4, .inr (.inr (.inr (.inr (fun i => some (gr i))))))), (qc, .inl (cI, 4, .inl (kA pc))), (qt, .inl (cI, 4, .inl (kA ((sM of se pc Pl (d + 1) sl mv lo hi (tr, fc, cn, lm)).1)))), (qf, .inl (cI, 4, .inl (kA ((sM of se pc Pl (d + 1) sl mv lo hi (tr, fc, cn, lm)).2.1)))), (qn, .inl (cI, 77, .inl (kA ((sM of se pc Pl (d + 1) sl mv lo hi (tr, fc, cn, lm)).2.2.1))))] ++ k_p3 cI gr Pl) H := by rw [e9]; exact hP
            rw [← hQf]
            exact k_vret hx hb hr hlocks hP hS d_Ph_searchMoved_156
          · exfalso; omega
        | succ k ih_17 =>
          intro i tr2 fc2 cn2 lm2 hin htr2 hlm2 hgo H locs ls hP hD hS hl
          have hpz := hpc sl
          have hV : sV of Pl sl i = (↑(Pl sl i) : Int) - ↑(of sl) := rfl
          have hN : sNr lo hi (sV of Pl sl i) = max lo (min hi (sV of Pl sl i)) := rfl
          have hM : sMn mv (sV of Pl sl i) (sNr lo hi (sV of Pl sl i)) = mv + (sV of Pl sl i - sNr lo hi (sV of Pl sl i)).natAbs := rfl
          have hb1 := hPl sl i
          have hb2 := hof sl
          have hd5 : sl < 4 := by omega
          refine lv_iload hx hb d_Ph_searchMoved_17 (lv_at hl 5 rfl) ?_
          refine lv_aload_n hx hb d_Ph_searchMoved_19 rfl (lv_at hl 0 rfl) ?_
          refine va_get (D := D) (ci := 1) (v := .ref qc) (C := R_Ph) (T := T_Ph) (N := 12) hx hb hkw kin_Ph hown hK hP 0 rfl rfl 5 (by decide) (hkw _ kw_fieldLink_Ph_31) (fun _ h9 => h9) rfl d_Ph_searchMoved_20 ?_
          refine lv_iload_n hx hb d_Ph_searchMoved_23 rfl (lv_at hl 1 rfl) ?_
          refine k_ald hx hb hK hP 4 0 rfl rfl (i := sl) (by omega) (by omega) (by omega) d_Ph_searchMoved_24 ?_
          have hv_2 := hpc sl
          refine k_icmp_ge (tgt := 156) hx hb d_Ph_searchMoved_25 (by decide) ⟨by omega, by omega⟩ ⟨by omega, by omega⟩ (fun c_25 => ?_) (fun c_25 => ?_)
          · exfalso; omega
          · refine lv_aload_n hx hb d_Ph_searchMoved_28 rfl (lv_at hl 0 rfl) ?_
            refine va_get (D := D) (ci := 1) (v := .ref qp) (C := R_Ph) (T := T_Ph) (N := 12) hx hb hkw kin_Ph hown hK hP 0 rfl rfl 4 (by decide) (hkw _ kw_fieldLink_Ph_28) (fun _ h9 => h9) rfl d_Ph_searchMoved_29 ?_
            refine lv_iload_n hx hb d_Ph_searchMoved_32 rfl (lv_at hl 1 rfl) ?_
            refine k_galdA hx hb hK hP 3 2 rfl rfl (i := sl) (by omega) (by omega) (by omega) d_Ph_searchMoved_33 ?_
            refine lv_iload hx hb d_Ph_searchMoved_34 (lv_at hl 5 rfl) ?_
            refine k_ald (i := i) hx hb hK hP (8 + sl) 0 (k_grid rfl (by omega)) rfl (by omega) (by omega) (by omega) d_Ph_searchMoved_36 ?_
            have hv_3 := hPl sl i
            refine lv_istore (lv' := [(6, .int (zI (↑(Pl sl i)))), (0, .ref h), (1, .int (zI ↑sl)), (2, .int (zI ↑mv)), (3, .int (zI lo)), (4, .int (zI hi)), (5, .int (zI ↑i))]) hx hb d_Ph_searchMoved_37 hl (by decide) rfl ?_
            clear hl; intro ls hl
            refine lv_iload hx hb d_Ph_searchMoved_39 (lv_at hl 0 rfl) ?_
            refine lv_aload_n hx hb d_Ph_searchMoved_41 rfl (lv_at hl 1 rfl) ?_
            refine va_get (D := D) (ci := 1) (v := .ref qo) (C := R_Ph) (T := T_Ph) (N := 12) hx hb hkw kin_Ph hown hK hP 0 rfl rfl 0 (by decide) (hkw _ kw_fieldLink_Ph_9) (fun _ h9 => h9) rfl d_Ph_searchMoved_42 ?_
            refine lv_iload_n hx hb d_Ph_searchMoved_45 rfl (lv_at hl 2 rfl) ?_
            refine k_ald hx hb hK hP 1 0 rfl rfl (i := sl) (by omega) (by omega) (by omega) d_Ph_searchMoved_46 ?_
            have hv_4 := hof sl
            refine k_isub (v := sV of Pl sl i) hx hb d_Ph_searchMoved_47 (by omega) ?_
            refine lv_istore (lv' := [(7, .int (zI (sV of Pl sl i))), (6, .int (zI (↑(Pl sl i)))), (0, .ref h), (1, .int (zI ↑sl)), (2, .int (zI ↑mv)), (3, .int (zI lo)), (4, .int (zI hi)), (5, .int (zI ↑i))]) hx hb d_Ph_searchMoved_48 hl (by decide) rfl ?_
            clear hl; intro ls hl
            refine lv_iload_n hx hb d_Ph_searchMoved_50 rfl (lv_at hl 5 rfl) ?_
            refine lv_iload hx hb d_Ph_searchMoved_51 (lv_at hl 6 rfl) ?_
            refine lv_iload hx hb d_Ph_searchMoved_53 (lv_at hl 0 rfl) ?_
            refine k_min (v := min hi (sV of Pl sl i)) hx hb (hml.trans hl.1.symm) hown (hkw _ kw_methodLink_Ph_83) (hkw _ kw_static_Math_min) (hkw _ kw_initialized_Math) (hkw _ kw_code_Math_min) (by have h9 : (1 : Nat) ≤ (d + 1) + 4 := (by omega); exact h9) (by have h9 : (14 : Nat) ≤ 29 * (d + 1) + 200 := (by omega); exact h9) (Nat.zero_le _) (Nat.zero_le _) d_Ph_searchMoved_55 ⟨by omega, by omega⟩ ⟨by omega, by omega⟩ (by omega) ?_
            refine k_max (v := sNr lo hi (sV of Pl sl i)) hx hb (hml.trans hl.1.symm) hown (hkw _ kw_methodLink_Ph_89) (hkw _ kw_static_Math_max) (hkw _ kw_initialized_Math) (hkw _ kw_code_Math_max) (by have h9 : (1 : Nat) ≤ (d + 1) + 4 := (by omega); exact h9) (by have h9 : (13 : Nat) ≤ 29 * (d + 1) + 200 := (by omega); exact h9) (Nat.zero_le _) (Nat.zero_le _) d_Ph_searchMoved_58 ⟨by omega, by omega⟩ ⟨by omega, by omega⟩ (by omega) ?_
            refine lv_istore (lv' := [(8, .int (zI (sNr lo hi (sV of Pl sl i)))), (7, .int (zI (sV of Pl sl i))), (6, .int (zI (↑(Pl sl i)))), (0, .ref h), (1, .int (zI ↑sl)), (2, .int (zI ↑mv)), (3, .int (zI lo)), (4, .int (zI hi)), (5, .int (zI ↑i))]) hx hb d_Ph_searchMoved_61 hl (by decide) rfl ?_
            clear hl; intro ls hl
            refine lv_iload_n hx hb d_Ph_searchMoved_63 rfl (lv_at hl 5 rfl) ?_
            refine lv_iload hx hb d_Ph_searchMoved_64 (lv_at hl 1 rfl) ?_
            refine lv_iload hx hb d_Ph_searchMoved_66 (lv_at hl 0 rfl) ?_
            refine k_isub hx hb d_Ph_searchMoved_68 rfl ?_
            refine k_abs (v := ↑((sV of Pl sl i - sNr lo hi (sV of Pl sl i)).natAbs)) hx hb (hml.trans hl.1.symm) hown (hkw _ kw_methodLink_Ph_92) (hkw _ kw_static_Math_abs) (hkw _ kw_initialized_Math) (hkw _ kw_code_Math_abs) (by have h9 : (1 : Nat) ≤ (d + 1) + 4 := (by omega); exact h9) (by have h9 : (14 : Nat) ≤ 29 * (d + 1) + 200 := (by omega); exact h9) (Nat.zero_le _) (Nat.zero_le _) d_Ph_searchMoved_69 ⟨by omega, by omega⟩ (k_natabs _) ?_
            refine k_iadd (v := ↑(sMn mv (sV of Pl sl i) (sNr lo hi (sV of Pl sl i)))) hx hb d_Ph_searchMoved_72 (by omega) ?_
            refine lv_istore (lv' := [(9, .int (zI (↑(sMn mv (sV of Pl sl i) (sNr lo hi (sV of Pl sl i)))))), (8, .int (zI (sNr lo hi (sV of Pl sl i)))), (7, .int (zI (sV of Pl sl i))), (6, .int (zI (↑(Pl sl i)))), (0, .ref h), (1, .int (zI ↑sl)), (2, .int (zI ↑mv)), (3, .int (zI lo)), (4, .int (zI hi)), (5, .int (zI ↑i))]) hx hb d_Ph_searchMoved_73 hl (by decide) rfl ?_
            clear hl; intro ls hl
            refine lv_iload hx hb d_Ph_searchMoved_75 (lv_at hl 0 rfl) ?_
            refine lv_bipush (v := zI 9) hx hb d_Ph_searchMoved_77 (by decide) ?_
            refine lv_aload_n hx hb d_Ph_searchMoved_79 rfl (lv_at hl 4 rfl) ?_
            refine va_get (D := D) (ci := 1) (v := .int (zI ↑lm2)) (C := R_Ph) (T := T_Ph) (N := 12) hx hb hkw kin_Ph hown hK hP 0 rfl rfl 9 (by decide) (hkw _ kw_fieldLink_Ph_43) (fun _ h9 => h9) rfl d_Ph_searchMoved_80 ?_
            refine k_max (v := max 9 ↑lm2) hx hb (hml.trans hl.1.symm) hown (hkw _ kw_methodLink_Ph_89) (hkw _ kw_static_Math_max) (hkw _ kw_initialized_Math) (hkw _ kw_code_Math_max) (by have h9 : (1 : Nat) ≤ (d + 1) + 4 := (by omega); exact h9) (by have h9 : (14 : Nat) ≤ 29 * (d + 1) + 200 := (by omega); exact h9) (Nat.zero_le _) (Nat.zero_le _) d_Ph_searchMoved_83 ⟨by omega, by omega⟩ ⟨by omega, by omega⟩ (by omega) ?_
            refine k_icmp_gt (tgt := 150) hx hb d_Ph_searchMoved_86 (by decide) ⟨by omega, by omega⟩ ⟨by omega, by omega⟩ (fun c_86 => ?_) (fun c_86 => ?_)
            · refine k_iinc (v := ↑(i + 1)) (lv' := [(5, .int (zI (↑(i + 1)))), (9, .int (zI (↑(sMn mv (sV of Pl sl i) (sNr lo hi (sV of Pl sl i)))))), (8, .int (zI (sNr lo hi (sV of Pl sl i)))), (7, .int (zI (sV of Pl sl i))), (6, .int (zI (↑(Pl sl i)))), (0, .ref h), (1, .int (zI ↑sl)), (2, .int (zI ↑mv)), (3, .int (zI lo)), (4, .int (zI hi))]) hx hb d_Ph_searchMoved_150 hl (k := 9) rfl (by omega) (by decide) rfl ?_
              clear hl; intro ls hl
              refine lv_goto (tgt := 17) hx hb d_Ph_searchMoved_153 (by decide) ?_
              exact ih_17 (i + 1) tr2 fc2 cn2 lm2 (by omega) htr2 hlm2 (by first | (rw [kLoop, sStep_0 (by omega)] at hgo; exact hgo) | (rw [kLoop, sStep_1 (by omega) c_96] at hgo; exact hgo) | (rw [kLoop, sStep_2 (by omega) c_96 (by omega)] at hgo; exact hgo) | (rw [kLoop, sStep_3 (by omega) c_96 (by omega)] at hgo; exact hgo)) _ _ _ hP hD hS (lv_sub hl [5, 6, 7, 8, 9, 0] rfl)
            · refine lv_aload_n hx hb d_Ph_searchMoved_89 rfl (lv_at hl 4 rfl) ?_
              refine lv_iload_n hx hb d_Ph_searchMoved_90 rfl (lv_at hl 5 rfl) ?_
              refine lv_iload hx hb d_Ph_searchMoved_91 (lv_at hl 3 rfl) ?_
              refine k_beI (va_runV (As := [.int (zI ↑sl), .int (zI (↑(Pl sl i)))]) (rest := []) ⟨hx, hb, hml, hown, hkw⟩ (c_Ph_isFree l D cI cR cG h qo qs qp qc qt qf qn n sd lm2 sf st se tr2 sl (Pl sl i) (by omega) (by omega) hse htr2 _) (cwV 2 hkw (k_gV kw_methodLink_Ph_96 kw_instanceMethod_Ph_isFree kw_selects_Ph_isFree kw_initialized_Ph kw_code_Ph_isFree) rfl rfl rfl (by decide +kernel) ⟨(by have h9 : (1 : Nat) ≤ (d + 1) + 4 := (by omega); exact h9), (by have h9 : (23 : Nat) ≤ 29 * (d + 1) + 200 := (by omega); exact h9)⟩) (k_preV (q0 := 0) hK hG hP hD [0, 2, 5] rfl rfl rfl rfl) rfl rfl hl.1 rfl (lv_room (Nat.le_of_ble_eq_true rfl)) d_Ph_searchMoved_93 ⟨Nat.zero_le _, Nat.zero_le _⟩) hP hD hS hA [0, 2, 5] rfl (Eq.trans (b := [h, qs, qt]) rfl rfl) ?_
              clear hP hD hS; intro H locs hP hD hS
              replace hP : va_P D k_cl ([(h, .inr (1, [.ref qo, .ref qs, .int (zI ↑n), .int (zI ↑sd), .ref qp, .ref qc, .ref qt, .ref qf, .ref qn, .int (zI ↑lm2), .int (zI sf), .int (zI st)])), (qo, .inl (cI, 4, .inl (kA of))), (qs, .inl (cI, 4, .inl (kA se))), (qp, .inl (cG, 4, .inr (.inr (.inr (.inr (fun i => some (gr i))))))), (qc, .inl (cI, 4, .inl (kA pc))), (qt, .inl (cI, 4, .inl (kA tr2))), (qf, .inl (cI, 4, .inl (kA fc2))), (qn, .inl (cI, 77, .inl (kA cn2)))] ++ (k_p3 cI gr Pl)) H := hP
              replace hD : va_D A ([(h, .inr (1, [.ref qo, .ref qs, .int (zI ↑n), .int (zI ↑sd), .ref qp, .ref qc, .ref qt, .ref qf, .ref qn, .int (zI ↑lm2), .int (zI sf), .int (zI st)])), (qo, .inl (cI, 4, .inl (kA of))), (qs, .inl (cI, 4, .inl (kA se))), (qp, .inl (cG, 4, .inr (.inr (.inr (.inr (fun i => some (gr i))))))), (qc, .inl (cI, 4, .inl (kA pc))), (qt, .inl (cI, 4, .inl (kA tr2))), (qf, .inl (cI, 4, .inl (kA fc2))), (qn, .inl (cI, 77, .inl (kA cn2)))] ++ (k_p3 cI gr Pl)) := hD
              refine k_bif_eq (tgt := 150) hx hb d_Ph_searchMoved_96 (by decide) (fun c_96 => ?_) (fun c_96 => ?_)
              · refine k_iinc (v := ↑(i + 1)) (lv' := [(5, .int (zI (↑(i + 1)))), (9, .int (zI (↑(sMn mv (sV of Pl sl i) (sNr lo hi (sV of Pl sl i)))))), (8, .int (zI (sNr lo hi (sV of Pl sl i)))), (7, .int (zI (sV of Pl sl i))), (6, .int (zI (↑(Pl sl i)))), (0, .ref h), (1, .int (zI ↑sl)), (2, .int (zI ↑mv)), (3, .int (zI lo)), (4, .int (zI hi))]) hx hb d_Ph_searchMoved_150 hl (k := 9) rfl (by omega) (by decide) rfl ?_
                clear hl; intro ls hl
                refine lv_goto (tgt := 17) hx hb d_Ph_searchMoved_153 (by decide) ?_
                exact ih_17 (i + 1) tr2 fc2 cn2 lm2 (by omega) htr2 hlm2 (by first | (rw [kLoop, sStep_0 (by omega)] at hgo; exact hgo) | (rw [kLoop, sStep_1 (by omega) c_96] at hgo; exact hgo) | (rw [kLoop, sStep_2 (by omega) c_96 (by omega)] at hgo; exact hgo) | (rw [kLoop, sStep_3 (by omega) c_96 (by omega)] at hgo; exact hgo)) _ _ _ hP hD hS (lv_sub hl [5, 6, 7, 8, 9, 0] rfl)
              · refine lv_aload_n hx hb d_Ph_searchMoved_99 rfl (lv_at hl 4 rfl) ?_
                refine va_get (D := D) (ci := 1) (v := .ref qt) (C := R_Ph) (T := T_Ph) (N := 12) hx hb hkw kin_Ph hown hK hP 0 rfl rfl 6 (by decide) (hkw _ kw_fieldLink_Ph_34) (fun _ h9 => h9) rfl d_Ph_searchMoved_100 ?_
                refine lv_iload_n hx hb d_Ph_searchMoved_103 rfl (lv_at hl 5 rfl) ?_
                refine lv_iload hx hb d_Ph_searchMoved_104 (lv_at hl 3 rfl) ?_
                refine k_ast hx hb hK hP hD hS 5 0 rfl rfl (i := sl) (v := (Pl sl i)) (by omega) (by omega) (by omega) (by omega) d_Ph_searchMoved_106 ?_
                clear hP hD hS; intro H locs hP hD hS
                replace hP : va_P D k_cl ([(h, .inr (1, [.ref qo, .ref qs, .int (zI ↑n), .int (zI ↑sd), .ref qp, .ref qc, .ref qt, .ref qf, .ref qn, .int (zI ↑lm2), .int (zI sf), .int (zI st)])), (qo, .inl (cI, 4, .inl (kA of))), (qs, .inl (cI, 4, .inl (kA se))), (qp, .inl (cG, 4, .inr (.inr (.inr (.inr (fun i => some (gr i))))))), (qc, .inl (cI, 4, .inl (kA pc))), (qt, .inl (cI, 4, .inl (kA (va_up tr2 sl (Pl sl i))))), (qf, .inl (cI, 4, .inl (kA fc2))), (qn, .inl (cI, 77, .inl (kA cn2)))] ++ (k_p3 cI gr Pl)) H := hP
                replace hD : va_D A ([(h, .inr (1, [.ref qo, .ref qs, .int (zI ↑n), .int (zI ↑sd), .ref qp, .ref qc, .ref qt, .ref qf, .ref qn, .int (zI ↑lm2), .int (zI sf), .int (zI st)])), (qo, .inl (cI, 4, .inl (kA of))), (qs, .inl (cI, 4, .inl (kA se))), (qp, .inl (cG, 4, .inr (.inr (.inr (.inr (fun i => some (gr i))))))), (qc, .inl (cI, 4, .inl (kA pc))), (qt, .inl (cI, 4, .inl (kA (va_up tr2 sl (Pl sl i))))), (qf, .inl (cI, 4, .inl (kA fc2))), (qn, .inl (cI, 77, .inl (kA cn2)))] ++ (k_p3 cI gr Pl)) := hD
                refine lv_iload_n hx hb d_Ph_searchMoved_107 rfl (lv_at hl 5 rfl) ?_
                refine lv_iconst (v := zI 1) hx hb d_Ph_searchMoved_108 (by decide) ?_
                refine k_icmp_ne (tgt := 137) hx hb d_Ph_searchMoved_109 (by decide) ⟨by omega, by omega⟩ ⟨by omega, by omega⟩ (fun c_109 => ?_) (fun c_109 => ?_)
                · refine lv_aload_n hx hb d_Ph_searchMoved_137 rfl (lv_at hl 4 rfl) ?_
                  refine lv_iload_n hx hb d_Ph_searchMoved_138 rfl (lv_at hl 5 rfl) ?_
                  refine lv_iconst (v := zI 1) hx hb d_Ph_searchMoved_139 (by decide) ?_
                  refine k_iadd (v := ↑(sl + 1)) hx hb d_Ph_searchMoved_140 (by omega) ?_
                  refine lv_iload hx hb d_Ph_searchMoved_141 (lv_at hl 0 rfl) ?_
                  refine lv_iload hx hb d_Ph_searchMoved_143 (lv_at hl 1 rfl) ?_
                  refine lv_iload hx hb d_Ph_searchMoved_145 (lv_at hl 1 rfl) ?_
                  have hbS := sM_bd (of := of) (se := se) (pc := pc) hPl d (sl + 1) (sMn mv (sV of Pl sl i) (sNr lo hi (sV of Pl sl i))) (sNr lo hi (sV of Pl sl i)) (sNr lo hi (sV of Pl sl i)) (va_up tr2 sl (Pl sl i), fc2, cn2, lm2) ⟨k_upB htr2 hb1, hlm2⟩
                  refine k_beVT (nx := [(h, .inr (1, [.ref qo, .ref qs, .int (zI ↑n), .int (zI ↑sd), .ref qp, .ref qc, .ref qt, .ref qf, .ref qn, .int (zI (↑((sM of se pc Pl d (sl + 1) (sMn mv (sV of Pl sl i) (sNr lo hi (sV of Pl sl i))) (sNr lo hi (sV of Pl sl i)) (sNr lo hi (sV of Pl sl i)) (va_up tr2 sl (Pl sl i), fc2, cn2, lm2)).2.2.2))), .int (zI sf), .int (zI st)])), (qo, .inl (cI, 4, .inl (kA of))), (qs, .inl (cI, 4, .inl (kA se))), (qp, .inl (cG, 4, .inr (.inr (.inr (.inr (fun i => some (gr i))))))), (qc, .inl (cI, 4, .inl (kA pc))), (qt, .inl (cI, 4, .inl (kA ((sM of se pc Pl d (sl + 1) (sMn mv (sV of Pl sl i) (sNr lo hi (sV of Pl sl i))) (sNr lo hi (sV of Pl sl i)) (sNr lo hi (sV of Pl sl i)) (va_up tr2 sl (Pl sl i), fc2, cn2, lm2)).1)))), (qf, .inl (cI, 4, .inl (kA ((sM of se pc Pl d (sl + 1) (sMn mv (sV of Pl sl i) (sNr lo hi (sV of Pl sl i))) (sNr lo hi (sV of Pl sl i)) (sNr lo hi (sV of Pl sl i)) (va_up tr2 sl (Pl sl i), fc2, cn2, lm2)).2.1)))), (qn, .inl (cI, 77, .inl (kA ((sM of se pc Pl d (sl + 1) (sMn mv (sV of Pl sl i) (sNr lo hi (sV of Pl sl i))) (sNr lo hi (sV of Pl sl i)) (sNr lo hi (sV of Pl sl i)) (va_up tr2 sl (Pl sl i), fc2, cn2, lm2)).2.2.1))))]) (tn := k_p3 cI gr Pl) (T1 := k_p3 cI gr Pl) (va_runV (As := [.int (zI ↑(sl + 1)), .int (zI (↑(sMn mv (sV of Pl sl i) (sNr lo hi (sV of Pl sl i))))), .int (zI (sNr lo hi (sV of Pl sl i))), .int (zI (sNr lo hi (sV of Pl sl i)))]) (rest := []) ⟨hx, hb, hml, hown, hkw⟩ (ih (sl + 1) (sMn mv (sV of Pl sl i) (sNr lo hi (sV of Pl sl i))) (sNr lo hi (sV of Pl sl i)) (sNr lo hi (sV of Pl sl i)) (va_up tr2 sl (Pl sl i)) fc2 cn2 lm2 (by omega) (by omega) (by omega) (by omega) (k_upB htr2 hb1) hlm2 _) (cwV 4 hkw (k_gV kw_methodLink_Ph_71 kw_instanceMethod_Ph_searchMoved kw_selects_Ph_searchMoved kw_initialized_Ph kw_code_Ph_searchMoved) rfl rfl rfl (by decide +kernel) ⟨(by have h9 : d + 4 + 1 ≤ d + 1 + 4 := (by omega); exact h9), (by have h9 : 8 + (10 + 11) + (29 * d + 200) ≤ 29 * (d + 1) + 200 := (by omega); exact h9)⟩) (k_preVT (px := [(h, .inr (1, [.ref qo, .ref qs, .int (zI ↑n), .int (zI ↑sd), .ref qp, .ref qc, .ref qt, .ref qf, .ref qn, .int (zI ↑lm2), .int (zI sf), .int (zI st)])), (qo, .inl (cI, 4, .inl (kA of))), (qs, .inl (cI, 4, .inl (kA se))), (qp, .inl (cG, 4, .inr (.inr (.inr (.inr (fun i => some (gr i))))))), (qc, .inl (cI, 4, .inl (kA pc))), (qt, .inl (cI, 4, .inl (kA (va_up tr2 sl (Pl sl i))))), (qf, .inl (cI, 4, .inl (kA fc2))), (qn, .inl (cI, 77, .inl (kA cn2)))]) (tc := k_p3 cI gr Pl) (q0 := 0) hK hG hP hD [0, 1, 2, 3, 4, 5, 6, 7] rfl rfl (fun _ h => h) ((k_D_right hD).weaken (fun _ _ _ _ => trivial)) rfl rfl) rfl rfl hl.1 rfl (lv_room (Nat.le_of_ble_eq_true rfl)) d_Ph_searchMoved_147 ⟨Nat.zero_le _, Nat.zero_le _⟩) hP hD hS hA [0, 1, 2, 3, 4, 5, 6, 7] rfl (Eq.trans (b := [h, qo, qs, qp, qc, qt, qf, qn]) rfl rfl) (fun _ h => h) rfl (fun _ h => Or.inl h) ?_
                  clear hP hD hS; intro H locs hP hD hS
                  replace hP : va_P D k_cl ([(h, .inr (1, [.ref qo, .ref qs, .int (zI ↑n), .int (zI ↑sd), .ref qp, .ref qc, .ref qt, .ref qf, .ref qn, .int (zI (↑((sM of se pc Pl d (sl + 1) (sMn mv (sV of Pl sl i) (sNr lo hi (sV of Pl sl i))) (sNr lo hi (sV of Pl sl i)) (sNr lo hi (sV of Pl sl i)) (va_up tr2 sl (Pl sl i), fc2, cn2, lm2)).2.2.2))), .int (zI sf), .int (zI st)])), (qo, .inl (cI, 4, .inl (kA of))), (qs, .inl (cI, 4, .inl (kA se))), (qp, .inl (cG, 4, .inr (.inr (.inr (.inr (fun i => some (gr i))))))), (qc, .inl (cI, 4, .inl (kA pc))), (qt, .inl (cI, 4, .inl (kA ((sM of se pc Pl d (sl + 1) (sMn mv (sV of Pl sl i) (sNr lo hi (sV of Pl sl i))) (sNr lo hi (sV of Pl sl i)) (sNr lo hi (sV of Pl sl i)) (va_up tr2 sl (Pl sl i), fc2, cn2, lm2)).1)))), (qf, .inl (cI, 4, .inl (kA ((sM of se pc Pl d (sl + 1) (sMn mv (sV of Pl sl i) (sNr lo hi (sV of Pl sl i))) (sNr lo hi (sV of Pl sl i)) (sNr lo hi (sV of Pl sl i)) (va_up tr2 sl (Pl sl i), fc2, cn2, lm2)).2.1)))), (qn, .inl (cI, 77, .inl (kA ((sM of se pc Pl d (sl + 1) (sMn mv (sV of Pl sl i) (sNr lo hi (sV of Pl sl i))) (sNr lo hi (sV of Pl sl i)) (sNr lo hi (sV of Pl sl i)) (va_up tr2 sl (Pl sl i), fc2, cn2, lm2)).2.2.1))))] ++ (k_p3 cI gr Pl)) H := hP
                  replace hD : va_D A ([(h, .inr (1, [.ref qo, .ref qs, .int (zI ↑n), .int (zI ↑sd), .ref qp, .ref qc, .ref qt, .ref qf, .ref qn, .int (zI (↑((sM of se pc Pl d (sl + 1) (sMn mv (sV of Pl sl i) (sNr lo hi (sV of Pl sl i))) (sNr lo hi (sV of Pl sl i)) (sNr lo hi (sV of Pl sl i)) (va_up tr2 sl (Pl sl i), fc2, cn2, lm2)).2.2.2))), .int (zI sf), .int (zI st)])), (qo, .inl (cI, 4, .inl (kA of))), (qs, .inl (cI, 4, .inl (kA se))), (qp, .inl (cG, 4, .inr (.inr (.inr (.inr (fun i => some (gr i))))))), (qc, .inl (cI, 4, .inl (kA pc))), (qt, .inl (cI, 4, .inl (kA ((sM of se pc Pl d (sl + 1) (sMn mv (sV of Pl sl i) (sNr lo hi (sV of Pl sl i))) (sNr lo hi (sV of Pl sl i)) (sNr lo hi (sV of Pl sl i)) (va_up tr2 sl (Pl sl i), fc2, cn2, lm2)).1)))), (qf, .inl (cI, 4, .inl (kA ((sM of se pc Pl d (sl + 1) (sMn mv (sV of Pl sl i) (sNr lo hi (sV of Pl sl i))) (sNr lo hi (sV of Pl sl i)) (sNr lo hi (sV of Pl sl i)) (va_up tr2 sl (Pl sl i), fc2, cn2, lm2)).2.1)))), (qn, .inl (cI, 77, .inl (kA ((sM of se pc Pl d (sl + 1) (sMn mv (sV of Pl sl i) (sNr lo hi (sV of Pl sl i))) (sNr lo hi (sV of Pl sl i)) (sNr lo hi (sV of Pl sl i)) (va_up tr2 sl (Pl sl i), fc2, cn2, lm2)).2.2.1))))] ++ (k_p3 cI gr Pl)) := hD
                  refine k_iinc (v := ↑(i + 1)) (lv' := [(5, .int (zI (↑(i + 1)))), (9, .int (zI (↑(sMn mv (sV of Pl sl i) (sNr lo hi (sV of Pl sl i)))))), (8, .int (zI (sNr lo hi (sV of Pl sl i)))), (7, .int (zI (sV of Pl sl i))), (6, .int (zI (↑(Pl sl i)))), (0, .ref h), (1, .int (zI ↑sl)), (2, .int (zI ↑mv)), (3, .int (zI lo)), (4, .int (zI hi))]) hx hb d_Ph_searchMoved_150 hl (k := 9) rfl (by omega) (by decide) rfl ?_
                  clear hl; intro ls hl
                  refine lv_goto (tgt := 17) hx hb d_Ph_searchMoved_153 (by decide) ?_
                  exact ih_17 (i + 1) ((sM of se pc Pl d (sl + 1) (sMn mv (sV of Pl sl i) (sNr lo hi (sV of Pl sl i))) (sNr lo hi (sV of Pl sl i)) (sNr lo hi (sV of Pl sl i)) (va_up tr2 sl (Pl sl i), fc2, cn2, lm2)).1) ((sM of se pc Pl d (sl + 1) (sMn mv (sV of Pl sl i) (sNr lo hi (sV of Pl sl i))) (sNr lo hi (sV of Pl sl i)) (sNr lo hi (sV of Pl sl i)) (va_up tr2 sl (Pl sl i), fc2, cn2, lm2)).2.1) ((sM of se pc Pl d (sl + 1) (sMn mv (sV of Pl sl i) (sNr lo hi (sV of Pl sl i))) (sNr lo hi (sV of Pl sl i)) (sNr lo hi (sV of Pl sl i)) (va_up tr2 sl (Pl sl i), fc2, cn2, lm2)).2.2.1) ((sM of se pc Pl d (sl + 1) (sMn mv (sV of Pl sl i) (sNr lo hi (sV of Pl sl i))) (sNr lo hi (sV of Pl sl i)) (sNr lo hi (sV of Pl sl i)) (va_up tr2 sl (Pl sl i), fc2, cn2, lm2)).2.2.2) (by omega) hbS.1 hbS.2 (by first | (rw [kLoop, sStep_0 (by omega)] at hgo; exact hgo) | (rw [kLoop, sStep_1 (by omega) c_96] at hgo; exact hgo) | (rw [kLoop, sStep_2 (by omega) c_96 (by omega)] at hgo; exact hgo) | (rw [kLoop, sStep_3 (by omega) c_96 (by omega)] at hgo; exact hgo)) _ _ _ hP hD hS (lv_sub hl [5, 6, 7, 8, 9, 0] rfl)
                · refine lv_aload_n hx hb d_Ph_searchMoved_112 rfl (lv_at hl 4 rfl) ?_
                  refine lv_iload_n hx hb d_Ph_searchMoved_113 rfl (lv_at hl 5 rfl) ?_
                  refine lv_iconst (v := zI 1) hx hb d_Ph_searchMoved_114 (by decide) ?_
                  refine k_iadd (v := ↑(sl + 1)) hx hb d_Ph_searchMoved_115 (by omega) ?_
                  refine lv_iload hx hb d_Ph_searchMoved_116 (lv_at hl 0 rfl) ?_
                  refine lv_iload_n hx hb d_Ph_searchMoved_118 rfl (lv_at hl 7 rfl) ?_
                  refine lv_iload hx hb d_Ph_searchMoved_119 (lv_at hl 2 rfl) ?_
                  refine k_min (v := min lo (sV of Pl sl i)) hx hb (hml.trans hl.1.symm) hown (hkw _ kw_methodLink_Ph_83) (hkw _ kw_static_Math_min) (hkw _ kw_initialized_Math) (hkw _ kw_code_Math_min) (by have h9 : (1 : Nat) ≤ (d + 1) + 4 := (by omega); exact h9) (by have h9 : (16 : Nat) ≤ 29 * (d + 1) + 200 := (by omega); exact h9) (Nat.zero_le _) (Nat.zero_le _) d_Ph_searchMoved_121 ⟨by omega, by omega⟩ ⟨by omega, by omega⟩ (by omega) ?_
                  refine lv_iload hx hb d_Ph_searchMoved_124 (lv_at hl 8 rfl) ?_
                  refine lv_iload hx hb d_Ph_searchMoved_126 (lv_at hl 2 rfl) ?_
                  refine k_max (v := max hi (sV of Pl sl i)) hx hb (hml.trans hl.1.symm) hown (hkw _ kw_methodLink_Ph_89) (hkw _ kw_static_Math_max) (hkw _ kw_initialized_Math) (hkw _ kw_code_Math_max) (by have h9 : (1 : Nat) ≤ (d + 1) + 4 := (by omega); exact h9) (by have h9 : (17 : Nat) ≤ 29 * (d + 1) + 200 := (by omega); exact h9) (Nat.zero_le _) (Nat.zero_le _) d_Ph_searchMoved_128 ⟨by omega, by omega⟩ ⟨by omega, by omega⟩ (by omega) ?_
                  have hbS := sM_bd (of := of) (se := se) (pc := pc) hPl d (sl + 1) (sMn mv (sV of Pl sl i) (sNr lo hi (sV of Pl sl i))) (min lo (sV of Pl sl i)) (max hi (sV of Pl sl i)) (va_up tr2 sl (Pl sl i), fc2, cn2, lm2) ⟨k_upB htr2 hb1, hlm2⟩
                  refine k_beVT (nx := [(h, .inr (1, [.ref qo, .ref qs, .int (zI ↑n), .int (zI ↑sd), .ref qp, .ref qc, .ref qt, .ref qf, .ref qn, .int (zI (↑((sM of se pc Pl d (sl + 1) (sMn mv (sV of Pl sl i) (sNr lo hi (sV of Pl sl i))) (min lo (sV of Pl sl i)) (max hi (sV of Pl sl i)) (va_up tr2 sl (Pl sl i), fc2, cn2, lm2)).2.2.2))), .int (zI sf), .int (zI st)])), (qo, .inl (cI, 4, .inl (kA of))), (qs, .inl (cI, 4, .inl (kA se))), (qp, .inl (cG, 4, .inr (.inr (.inr (.inr (fun i => some (gr i))))))), (qc, .inl (cI, 4, .inl (kA pc))), (qt, .inl (cI, 4, .inl (kA ((sM of se pc Pl d (sl + 1) (sMn mv (sV of Pl sl i) (sNr lo hi (sV of Pl sl i))) (min lo (sV of Pl sl i)) (max hi (sV of Pl sl i)) (va_up tr2 sl (Pl sl i), fc2, cn2, lm2)).1)))), (qf, .inl (cI, 4, .inl (kA ((sM of se pc Pl d (sl + 1) (sMn mv (sV of Pl sl i) (sNr lo hi (sV of Pl sl i))) (min lo (sV of Pl sl i)) (max hi (sV of Pl sl i)) (va_up tr2 sl (Pl sl i), fc2, cn2, lm2)).2.1)))), (qn, .inl (cI, 77, .inl (kA ((sM of se pc Pl d (sl + 1) (sMn mv (sV of Pl sl i) (sNr lo hi (sV of Pl sl i))) (min lo (sV of Pl sl i)) (max hi (sV of Pl sl i)) (va_up tr2 sl (Pl sl i), fc2, cn2, lm2)).2.2.1))))]) (tn := k_p3 cI gr Pl) (T1 := k_p3 cI gr Pl) (va_runV (As := [.int (zI ↑(sl + 1)), .int (zI (↑(sMn mv (sV of Pl sl i) (sNr lo hi (sV of Pl sl i))))), .int (zI (min lo (sV of Pl sl i))), .int (zI (max hi (sV of Pl sl i)))]) (rest := []) ⟨hx, hb, hml, hown, hkw⟩ (ih (sl + 1) (sMn mv (sV of Pl sl i) (sNr lo hi (sV of Pl sl i))) (min lo (sV of Pl sl i)) (max hi (sV of Pl sl i)) (va_up tr2 sl (Pl sl i)) fc2 cn2 lm2 (by omega) (by omega) (by omega) (by omega) (k_upB htr2 hb1) hlm2 _) (cwV 4 hkw (k_gV kw_methodLink_Ph_71 kw_instanceMethod_Ph_searchMoved kw_selects_Ph_searchMoved kw_initialized_Ph kw_code_Ph_searchMoved) rfl rfl rfl (by decide +kernel) ⟨(by have h9 : d + 4 + 1 ≤ d + 1 + 4 := (by omega); exact h9), (by have h9 : 8 + (10 + 11) + (29 * d + 200) ≤ 29 * (d + 1) + 200 := (by omega); exact h9)⟩) (k_preVT (px := [(h, .inr (1, [.ref qo, .ref qs, .int (zI ↑n), .int (zI ↑sd), .ref qp, .ref qc, .ref qt, .ref qf, .ref qn, .int (zI ↑lm2), .int (zI sf), .int (zI st)])), (qo, .inl (cI, 4, .inl (kA of))), (qs, .inl (cI, 4, .inl (kA se))), (qp, .inl (cG, 4, .inr (.inr (.inr (.inr (fun i => some (gr i))))))), (qc, .inl (cI, 4, .inl (kA pc))), (qt, .inl (cI, 4, .inl (kA (va_up tr2 sl (Pl sl i))))), (qf, .inl (cI, 4, .inl (kA fc2))), (qn, .inl (cI, 77, .inl (kA cn2)))]) (tc := k_p3 cI gr Pl) (q0 := 0) hK hG hP hD [0, 1, 2, 3, 4, 5, 6, 7] rfl rfl (fun _ h => h) ((k_D_right hD).weaken (fun _ _ _ _ => trivial)) rfl rfl) rfl rfl hl.1 rfl (lv_room (Nat.le_of_ble_eq_true rfl)) d_Ph_searchMoved_131 ⟨Nat.zero_le _, Nat.zero_le _⟩) hP hD hS hA [0, 1, 2, 3, 4, 5, 6, 7] rfl (Eq.trans (b := [h, qo, qs, qp, qc, qt, qf, qn]) rfl rfl) (fun _ h => h) rfl (fun _ h => Or.inl h) ?_
                  clear hP hD hS; intro H locs hP hD hS
                  replace hP : va_P D k_cl ([(h, .inr (1, [.ref qo, .ref qs, .int (zI ↑n), .int (zI ↑sd), .ref qp, .ref qc, .ref qt, .ref qf, .ref qn, .int (zI (↑((sM of se pc Pl d (sl + 1) (sMn mv (sV of Pl sl i) (sNr lo hi (sV of Pl sl i))) (min lo (sV of Pl sl i)) (max hi (sV of Pl sl i)) (va_up tr2 sl (Pl sl i), fc2, cn2, lm2)).2.2.2))), .int (zI sf), .int (zI st)])), (qo, .inl (cI, 4, .inl (kA of))), (qs, .inl (cI, 4, .inl (kA se))), (qp, .inl (cG, 4, .inr (.inr (.inr (.inr (fun i => some (gr i))))))), (qc, .inl (cI, 4, .inl (kA pc))), (qt, .inl (cI, 4, .inl (kA ((sM of se pc Pl d (sl + 1) (sMn mv (sV of Pl sl i) (sNr lo hi (sV of Pl sl i))) (min lo (sV of Pl sl i)) (max hi (sV of Pl sl i)) (va_up tr2 sl (Pl sl i), fc2, cn2, lm2)).1)))), (qf, .inl (cI, 4, .inl (kA ((sM of se pc Pl d (sl + 1) (sMn mv (sV of Pl sl i) (sNr lo hi (sV of Pl sl i))) (min lo (sV of Pl sl i)) (max hi (sV of Pl sl i)) (va_up tr2 sl (Pl sl i), fc2, cn2, lm2)).2.1)))), (qn, .inl (cI, 77, .inl (kA ((sM of se pc Pl d (sl + 1) (sMn mv (sV of Pl sl i) (sNr lo hi (sV of Pl sl i))) (min lo (sV of Pl sl i)) (max hi (sV of Pl sl i)) (va_up tr2 sl (Pl sl i), fc2, cn2, lm2)).2.2.1))))] ++ (k_p3 cI gr Pl)) H := hP
                  replace hD : va_D A ([(h, .inr (1, [.ref qo, .ref qs, .int (zI ↑n), .int (zI ↑sd), .ref qp, .ref qc, .ref qt, .ref qf, .ref qn, .int (zI (↑((sM of se pc Pl d (sl + 1) (sMn mv (sV of Pl sl i) (sNr lo hi (sV of Pl sl i))) (min lo (sV of Pl sl i)) (max hi (sV of Pl sl i)) (va_up tr2 sl (Pl sl i), fc2, cn2, lm2)).2.2.2))), .int (zI sf), .int (zI st)])), (qo, .inl (cI, 4, .inl (kA of))), (qs, .inl (cI, 4, .inl (kA se))), (qp, .inl (cG, 4, .inr (.inr (.inr (.inr (fun i => some (gr i))))))), (qc, .inl (cI, 4, .inl (kA pc))), (qt, .inl (cI, 4, .inl (kA ((sM of se pc Pl d (sl + 1) (sMn mv (sV of Pl sl i) (sNr lo hi (sV of Pl sl i))) (min lo (sV of Pl sl i)) (max hi (sV of Pl sl i)) (va_up tr2 sl (Pl sl i), fc2, cn2, lm2)).1)))), (qf, .inl (cI, 4, .inl (kA ((sM of se pc Pl d (sl + 1) (sMn mv (sV of Pl sl i) (sNr lo hi (sV of Pl sl i))) (min lo (sV of Pl sl i)) (max hi (sV of Pl sl i)) (va_up tr2 sl (Pl sl i), fc2, cn2, lm2)).2.1)))), (qn, .inl (cI, 77, .inl (kA ((sM of se pc Pl d (sl + 1) (sMn mv (sV of Pl sl i) (sNr lo hi (sV of Pl sl i))) (min lo (sV of Pl sl i)) (max hi (sV of Pl sl i)) (va_up tr2 sl (Pl sl i), fc2, cn2, lm2)).2.2.1))))] ++ (k_p3 cI gr Pl)) := hD
                  refine lv_goto (tgt := 150) hx hb d_Ph_searchMoved_134 (by decide) ?_
                  refine k_iinc (v := ↑(i + 1)) (lv' := [(5, .int (zI (↑(i + 1)))), (9, .int (zI (↑(sMn mv (sV of Pl sl i) (sNr lo hi (sV of Pl sl i)))))), (8, .int (zI (sNr lo hi (sV of Pl sl i)))), (7, .int (zI (sV of Pl sl i))), (6, .int (zI (↑(Pl sl i)))), (0, .ref h), (1, .int (zI ↑sl)), (2, .int (zI ↑mv)), (3, .int (zI lo)), (4, .int (zI hi))]) hx hb d_Ph_searchMoved_150 hl (k := 9) rfl (by omega) (by decide) rfl ?_
                  clear hl; intro ls hl
                  refine lv_goto (tgt := 17) hx hb d_Ph_searchMoved_153 (by decide) ?_
                  exact ih_17 (i + 1) ((sM of se pc Pl d (sl + 1) (sMn mv (sV of Pl sl i) (sNr lo hi (sV of Pl sl i))) (min lo (sV of Pl sl i)) (max hi (sV of Pl sl i)) (va_up tr2 sl (Pl sl i), fc2, cn2, lm2)).1) ((sM of se pc Pl d (sl + 1) (sMn mv (sV of Pl sl i) (sNr lo hi (sV of Pl sl i))) (min lo (sV of Pl sl i)) (max hi (sV of Pl sl i)) (va_up tr2 sl (Pl sl i), fc2, cn2, lm2)).2.1) ((sM of se pc Pl d (sl + 1) (sMn mv (sV of Pl sl i) (sNr lo hi (sV of Pl sl i))) (min lo (sV of Pl sl i)) (max hi (sV of Pl sl i)) (va_up tr2 sl (Pl sl i), fc2, cn2, lm2)).2.2.1) ((sM of se pc Pl d (sl + 1) (sMn mv (sV of Pl sl i) (sNr lo hi (sV of Pl sl i))) (min lo (sV of Pl sl i)) (max hi (sV of Pl sl i)) (va_up tr2 sl (Pl sl i), fc2, cn2, lm2)).2.2.2) (by omega) hbS.1 hbS.2 (by first | (rw [kLoop, sStep_0 (by omega)] at hgo; exact hgo) | (rw [kLoop, sStep_1 (by omega) c_96] at hgo; exact hgo) | (rw [kLoop, sStep_2 (by omega) c_96 (by omega)] at hgo; exact hgo) | (rw [kLoop, sStep_3 (by omega) c_96 (by omega)] at hgo; exact hgo)) _ _ _ hP hD hS (lv_sub hl [5, 6, 7, 8, 9, 0] rfl)
      exact loop_17 (pc sl) 0 tr fc cn lm (by omega) htr hlm rfl _ _ _ hP hD hS (lv_sub hl [1, 2, 3, 4, 5, 0] rfl)
    · exfalso; omega

abbrev rm_Ph_searchShortest (d : Nat) : Room := { frames := d + 4, cells := 0, slots := 0, locals := 29 * d + 200 }
set_option maxHeartbeats 8000000 in
set_option maxRecDepth 100000 in
theorem c_Ph_searchShortest (l : Launch) (D : va_G) (cI cR cG : ClassId) (h qo qs qp qc qt qf qn n sd lm : Nat) (gr se pc : Nat → Nat) (Pl : Nat → Nat → Nat) (hn : n ≤ 4) (hse : ∀ j, se j ≤ 1023) (hpc : ∀ j, pc j ≤ 30) (hPl : ∀ j i, Pl j i ≤ 30) : ∀ (d : Nat) (sl : Nat) (lo hi : Int) (tr : Nat → Nat) (sf st : Int), (sl + d = n) → (-1 ≤ lo ∧ lo ≤ 30) → (-1 ≤ hi ∧ hi ≤ 30) → (∀ j, tr j ≤ 30) → (-1 ≤ sf ∧ sf ≤ 30) → (-1 ≤ st ∧ st ≤ 30) → k_M l y_Ph_searchShortest (.code y_Ph_searchShortest b_Ph_searchShortest 8 none :: kW) (rm_Ph_searchShortest d) D k_cl (k_ty cI cR cG) [.ref h, .int (zI ↑sl), .int (zI lo), .int (zI hi)] ([(h, .inr (1, [.ref qo, .ref qs, .int (zI ↑n), .int (zI ↑sd), .ref qp, .ref qc, .ref qt, .ref qf, .ref qn, .int (zI ↑lm), .int (zI sf), .int (zI st)])), (qs, .inl (cI, 4, .inl (kA se))), (qp, .inl (cG, 4, .inr (.inr (.inr (.inr (fun i => some (gr i))))))), (qc, .inl (cI, 4, .inl (kA pc))), (qt, .inl (cI, 4, .inl (kA tr)))] ++ (k_p3 cI gr Pl)) (k_Qv D k_cl ([(h, .inr (1, [.ref qo, .ref qs, .int (zI ↑n), .int (zI ↑sd), .ref qp, .ref qc, .ref qt, .ref qf, .ref qn, .int (zI ↑lm), .int (zI ((sT se pc Pl d sl lo hi (tr, sf, st)).2.1)), .int (zI ((sT se pc Pl d sl lo hi (tr, sf, st)).2.2))])), (qs, .inl (cI, 4, .inl (kA se))), (qp, .inl (cG, 4, .inr (.inr (.inr (.inr (fun i => some (gr i))))))), (qc, .inl (cI, 4, .inl (kA pc))), (qt, .inl (cI, 4, .inl (kA ((sT se pc Pl d sl lo hi (tr, sf, st)).1))))] ++ k_p3 cI gr Pl)) := by
  intro d
  induction d with
  | zero =>
    intro sl lo hi tr sf st hsl hlo hhi htr hsf hst
    refine k_start (cc := b_Ph_searchShortest) (maxL := 8) (ret := none) (by decide) rfl (Nat.le_of_ble_eq_true rfl) ?_
    intro p ev s m ar below meth c A ls Qf hQf hx hb hr hml hts hown hlocks hin hK hG hA hP hD hS hl
    replace hown : s.vm.findClass R_Ph = some m.cls := hown
    replace hl : lv_has ls 8 [(0, .ref h), (1, .int (zI ↑sl)), (2, .int (zI lo)), (3, .int (zI hi))] := hl
    have hkw : ∀ w ∈ kW, w.before ar s = true := fun w h => hts w (List.mem_cons_of_mem _ h)
    replace hP : va_P D k_cl ([(h, .inr (1, [.ref qo, .ref qs, .int (zI ↑n), .int (zI ↑sd), .ref qp, .ref qc, .ref qt, .ref qf, .ref qn, .int (zI ↑lm), .int (zI sf), .int (zI st)])), (qs, .inl (cI, 4, .inl (kA se))), (qp, .inl (cG, 4, .inr (.inr (.inr (.inr (fun i => some (gr i))))))), (qc, .inl (cI, 4, .inl (kA pc))), (qt, .inl (cI, 4, .inl (kA tr)))] ++ (k_p3 cI gr Pl)) s.heap := hP
    replace hD : va_D A ([(h, .inr (1, [.ref qo, .ref qs, .int (zI ↑n), .int (zI ↑sd), .ref qp, .ref qc, .ref qt, .ref qf, .ref qn, .int (zI ↑lm), .int (zI sf), .int (zI st)])), (qs, .inl (cI, 4, .inl (kA se))), (qp, .inl (cG, 4, .inr (.inr (.inr (.inr (fun i => some (gr i))))))), (qc, .inl (cI, 4, .inl (kA pc))), (qt, .inl (cI, 4, .inl (kA tr)))] ++ (k_p3 cI gr Pl)) := hD
    refine lv_iload_n hx hb d_Ph_searchShortest_0 rfl (lv_at hl 1 rfl) ?_
    refine lv_aload_n hx hb d_Ph_searchShortest_1 rfl (lv_at hl 0 rfl) ?_
    refine va_get (D := D) (ci := 1) (v := .int (zI ↑n)) (C := R_Ph) (T := T_Ph) (N := 12) hx hb hkw kin_Ph hown hK hP 0 rfl rfl 2 (by decide) (hkw _ kw_fieldLink_Ph_18) (fun _ h9 => h9) rfl d_Ph_searchShortest_2 ?_
    refine k_icmp_lt (tgt := 19) hx hb d_Ph_searchShortest_5 (by decide) ⟨by omega, by omega⟩ ⟨by omega, by omega⟩ (fun c_5 => ?_) (fun c_5 => ?_)
    · exfalso; omega
    · refine lv_aload_n hx hb d_Ph_searchShortest_8 rfl (lv_at hl 0 rfl) ?_
      refine lv_iload_n hx hb d_Ph_searchShortest_9 rfl (lv_at hl 2 rfl) ?_
      refine va_put (D := D) (ci := 1) (v := .int (zI lo)) (ty := .int) (C := R_Ph) (T := T_Ph) (N := 12) hx hb hkw kin_Ph ty_Ph ty_Ph_ok nm_Ph hown hK hP hD hS 0 rfl rfl 10 (by decide) (hkw _ kw_fieldLink_Ph_46) (fun _ h9 => h9) rfl (by decide +kernel) rfl rfl (Nat.le_of_ble_eq_true rfl) d_Ph_searchShortest_10 ?_
      clear hP hD hS; intro H locs hP hD hS
      replace hP : va_P D k_cl ([(h, .inr (1, [.ref qo, .ref qs, .int (zI ↑n), .int (zI ↑sd), .ref qp, .ref qc, .ref qt, .ref qf, .ref qn, .int (zI ↑lm), .int (zI lo), .int (zI st)])), (qs, .inl (cI, 4, .inl (kA se))), (qp, .inl (cG, 4, .inr (.inr (.inr (.inr (fun i => some (gr i))))))), (qc, .inl (cI, 4, .inl (kA pc))), (qt, .inl (cI, 4, .inl (kA tr)))] ++ (k_p3 cI gr Pl)) H := hP
      replace hD : va_D A ([(h, .inr (1, [.ref qo, .ref qs, .int (zI ↑n), .int (zI ↑sd), .ref qp, .ref qc, .ref qt, .ref qf, .ref qn, .int (zI ↑lm), .int (zI lo), .int (zI st)])), (qs, .inl (cI, 4, .inl (kA se))), (qp, .inl (cG, 4, .inr (.inr (.inr (.inr (fun i => some (gr i))))))), (qc, .inl (cI, 4, .inl (kA pc))), (qt, .inl (cI, 4, .inl (kA tr)))] ++ (k_p3 cI gr Pl)) := hD
      refine lv_aload_n hx hb d_Ph_searchShortest_13 rfl (lv_at hl 0 rfl) ?_
      refine lv_iload_n hx hb d_Ph_searchShortest_14 rfl (lv_at hl 3 rfl) ?_
      refine va_put (D := D) (ci := 1) (v := .int (zI hi)) (ty := .int) (C := R_Ph) (T := T_Ph) (N := 12) hx hb hkw kin_Ph ty_Ph ty_Ph_ok nm_Ph hown hK hP hD hS 0 rfl rfl 11 (by decide) (hkw _ kw_fieldLink_Ph_49) (fun _ h9 => h9) rfl (by decide +kernel) rfl rfl (Nat.le_of_ble_eq_true rfl) d_Ph_searchShortest_15 ?_
      clear hP hD hS; intro H locs hP hD hS
      replace hP : va_P D k_cl ([(h, .inr (1, [.ref qo, .ref qs, .int (zI ↑n), .int (zI ↑sd), .ref qp, .ref qc, .ref qt, .ref qf, .ref qn, .int (zI ↑lm), .int (zI lo), .int (zI hi)])), (qs, .inl (cI, 4, .inl (kA se))), (qp, .inl (cG, 4, .inr (.inr (.inr (.inr (fun i => some (gr i))))))), (qc, .inl (cI, 4, .inl (kA pc))), (qt, .inl (cI, 4, .inl (kA tr)))] ++ (k_p3 cI gr Pl)) H := hP
      replace hD : va_D A ([(h, .inr (1, [.ref qo, .ref qs, .int (zI ↑n), .int (zI ↑sd), .ref qp, .ref qc, .ref qt, .ref qf, .ref qn, .int (zI ↑lm), .int (zI lo), .int (zI hi)])), (qs, .inl (cI, 4, .inl (kA se))), (qp, .inl (cG, 4, .inr (.inr (.inr (.inr (fun i => some (gr i))))))), (qc, .inl (cI, 4, .inl (kA pc))), (qt, .inl (cI, 4, .inl (kA tr)))] ++ (k_p3 cI gr Pl)) := hD
      rw [← hQf]
      exact k_vret hx hb hr hlocks hP hS d_Ph_searchShortest_18
  | succ d ih =>
    intro sl lo hi tr sf st hsl hlo hhi htr hsf hst
    refine k_start (cc := b_Ph_searchShortest) (maxL := 8) (ret := none) (by decide) rfl (Nat.le_of_ble_eq_true rfl) ?_
    intro p ev s m ar below meth c A ls Qf hQf hx hb hr hml hts hown hlocks hin hK hG hA hP hD hS hl
    replace hown : s.vm.findClass R_Ph = some m.cls := hown
    replace hl : lv_has ls 8 [(0, .ref h), (1, .int (zI ↑sl)), (2, .int (zI lo)), (3, .int (zI hi))] := hl
    have hkw : ∀ w ∈ kW, w.before ar s = true := fun w h => hts w (List.mem_cons_of_mem _ h)
    replace hP : va_P D k_cl ([(h, .inr (1, [.ref qo, .ref qs, .int (zI ↑n), .int (zI ↑sd), .ref qp, .ref qc, .ref qt, .ref qf, .ref qn, .int (zI ↑lm), .int (zI sf), .int (zI st)])), (qs, .inl (cI, 4, .inl (kA se))), (qp, .inl (cG, 4, .inr (.inr (.inr (.inr (fun i => some (gr i))))))), (qc, .inl (cI, 4, .inl (kA pc))), (qt, .inl (cI, 4, .inl (kA tr)))] ++ (k_p3 cI gr Pl)) s.heap := hP
    replace hD : va_D A ([(h, .inr (1, [.ref qo, .ref qs, .int (zI ↑n), .int (zI ↑sd), .ref qp, .ref qc, .ref qt, .ref qf, .ref qn, .int (zI ↑lm), .int (zI sf), .int (zI st)])), (qs, .inl (cI, 4, .inl (kA se))), (qp, .inl (cG, 4, .inr (.inr (.inr (.inr (fun i => some (gr i))))))), (qc, .inl (cI, 4, .inl (kA pc))), (qt, .inl (cI, 4, .inl (kA tr)))] ++ (k_p3 cI gr Pl)) := hD
    refine lv_iload_n hx hb d_Ph_searchShortest_0 rfl (lv_at hl 1 rfl) ?_
    refine lv_aload_n hx hb d_Ph_searchShortest_1 rfl (lv_at hl 0 rfl) ?_
    refine va_get (D := D) (ci := 1) (v := .int (zI ↑n)) (C := R_Ph) (T := T_Ph) (N := 12) hx hb hkw kin_Ph hown hK hP 0 rfl rfl 2 (by decide) (hkw _ kw_fieldLink_Ph_18) (fun _ h9 => h9) rfl d_Ph_searchShortest_2 ?_
    refine k_icmp_lt (tgt := 19) hx hb d_Ph_searchShortest_5 (by decide) ⟨by omega, by omega⟩ ⟨by omega, by omega⟩ (fun c_5 => ?_) (fun c_5 => ?_)
    · refine lv_iconst (v := zI 0) hx hb d_Ph_searchShortest_19 (by decide) ?_
      refine lv_istore (lv' := [(4, .int (zI 0)), (0, .ref h), (1, .int (zI ↑sl)), (2, .int (zI lo)), (3, .int (zI hi))]) hx hb d_Ph_searchShortest_20 hl (by decide) rfl ?_
      clear hl; intro ls hl
      have loop_22 : ∀ (k : Nat) (i : Nat) (tr2 : Nat → Nat) (sf2 : Int) (st2 : Int), (i + k = pc sl) → (∀ j, tr2 j ≤ 30) → (-1 ≤ sf2 ∧ sf2 ≤ 30) → (-1 ≤ st2 ∧ st2 ≤ 30) → (kLoop (tStep se Pl (sT se pc Pl d (sl + 1)) sl lo hi) k i (tr2, sf2, st2) = kLoop (tStep se Pl (sT se pc Pl d (sl + 1)) sl lo hi) (pc sl) 0 (tr, sf, st)) → ∀ (H : Heap) (locs : List Loc) (ls : Array Slot), va_P D k_cl ([(h, .inr (1, [.ref qo, .ref qs, .int (zI ↑n), .int (zI ↑sd), .ref qp, .ref qc, .ref qt, .ref qf, .ref qn, .int (zI ↑lm), .int (zI sf2), .int (zI st2)])), (qs, .inl (cI, 4, .inl (kA se))), (qp, .inl (cG, 4, .inr (.inr (.inr (.inr (fun i => some (gr i))))))), (qc, .inl (cI, 4, .inl (kA pc))), (qt, .inl (cI, 4, .inl (kA tr2)))] ++ (k_p3 cI gr Pl)) H → va_D A ([(h, .inr (1, [.ref qo, .ref qs, .int (zI ↑n), .int (zI ↑sd), .ref qp, .ref qc, .ref qt, .ref qf, .ref qn, .int (zI ↑lm), .int (zI sf2), .int (zI st2)])), (qs, .inl (cI, 4, .inl (kA se))), (qp, .inl (cG, 4, .inr (.inr (.inr (.inr (fun i => some (gr i))))))), (qc, .inl (cI, 4, .inl (kA pc))), (qt, .inl (cI, 4, .inl (kA tr2)))] ++ (k_p3 cI gr Pl)) → va_S A s.heap H locs → lv_has ls 8 [(0, .ref h), (1, .int (zI ↑sl)), (2, .int (zI lo)), (3, .int (zI hi)), (4, .int (zI ↑i))] → W p l ev (rm_Ph_searchShortest (d + 1)) s m ar below meth c H locs 0 0 Qf (F0 m 22 ls []) := by
        intro k
        induction k with
        | zero =>
          intro i tr2 sf2 st2 hin htr2 hsf2 hst2 hgo H locs ls hP hD hS hl
          have hpz := hpc sl
          refine lv_iload hx hb d_Ph_searchShortest_22 (lv_at hl 4 rfl) ?_
          refine lv_aload_n hx hb d_Ph_searchShortest_24 rfl (lv_at hl 0 rfl) ?_
          refine va_get (D := D) (ci := 1) (v := .ref qc) (C := R_Ph) (T := T_Ph) (N := 12) hx hb hkw kin_Ph hown hK hP 0 rfl rfl 5 (by decide) (hkw _ kw_fieldLink_Ph_31) (fun _ h9 => h9) rfl d_Ph_searchShortest_25 ?_
          refine lv_iload_n hx hb d_Ph_searchShortest_28 rfl (lv_at hl 1 rfl) ?_
          refine k_ald hx hb hK hP 3 0 rfl rfl (i := sl) (by omega) (by omega) (by omega) d_Ph_searchShortest_29 ?_
          have hv_1 := hpc sl
          refine k_icmp_ge (tgt := 106) hx hb d_Ph_searchShortest_30 (by decide) ⟨by omega, by omega⟩ ⟨by omega, by omega⟩ (fun c_30 => ?_) (fun c_30 => ?_)
          · have e9 : sT se pc Pl (d + 1) sl lo hi (tr, sf, st) = (tr2, sf2, st2) := hgo.symm
            replace hP : va_P D k_cl ([(h, .inr (1, [.ref qo, .ref qs, .int (zI ↑n), .int (zI ↑sd), .ref qp, .ref qc, .ref qt, .ref qf, .ref qn, .int (zI ↑lm), .int (zI ((sT se pc Pl (d + 1) sl lo hi (tr, sf, st)).2.1)), .int (zI ((sT se pc Pl (d + 1) sl lo hi (tr, sf, st)).2.2))])), (qs, .inl (cI, 4, .inl (kA se))), (qp, .inl (cG, 4, .inr (.inr (.inr (.inr (fun i => some (gr i))))))), (qc, .inl (cI, 4, .inl (kA pc))), (qt, .inl (cI, 4, .inl (kA ((sT se pc Pl (d + 1) sl lo hi (tr, sf, st)).1))))] ++ k_p3 cI gr Pl) H := by rw [e9]; exact hP
            rw [← hQf]
            exact k_vret hx hb hr hlocks hP hS d_Ph_searchShortest_106
          · exfalso; omega
        | succ k ih_22 =>
          intro i tr2 sf2 st2 hin htr2 hsf2 hst2 hgo H locs ls hP hD hS hl
          have hpz := hpc sl
          have hb1 := hPl sl i
          have hd5 : sl < 4 := by omega
          refine lv_iload hx hb d_Ph_searchShortest_22 (lv_at hl 4 rfl) ?_
          refine lv_aload_n hx hb d_Ph_searchShortest_24 rfl (lv_at hl 0 rfl) ?_
          refine va_get (D := D) (ci := 1) (v := .ref qc) (C := R_Ph) (T := T_Ph) (N := 12) hx hb hkw kin_Ph hown hK hP 0 rfl rfl 5 (by decide) (hkw _ kw_fieldLink_Ph_31) (fun _ h9 => h9) rfl d_Ph_searchShortest_25 ?_
          refine lv_iload_n hx hb d_Ph_searchShortest_28 rfl (lv_at hl 1 rfl) ?_
          refine k_ald hx hb hK hP 3 0 rfl rfl (i := sl) (by omega) (by omega) (by omega) d_Ph_searchShortest_29 ?_
          have hv_2 := hpc sl
          refine k_icmp_ge (tgt := 106) hx hb d_Ph_searchShortest_30 (by decide) ⟨by omega, by omega⟩ ⟨by omega, by omega⟩ (fun c_30 => ?_) (fun c_30 => ?_)
          · exfalso; omega
          · refine lv_aload_n hx hb d_Ph_searchShortest_33 rfl (lv_at hl 0 rfl) ?_
            refine va_get (D := D) (ci := 1) (v := .ref qp) (C := R_Ph) (T := T_Ph) (N := 12) hx hb hkw kin_Ph hown hK hP 0 rfl rfl 4 (by decide) (hkw _ kw_fieldLink_Ph_28) (fun _ h9 => h9) rfl d_Ph_searchShortest_34 ?_
            refine lv_iload_n hx hb d_Ph_searchShortest_37 rfl (lv_at hl 1 rfl) ?_
            refine k_galdA hx hb hK hP 2 2 rfl rfl (i := sl) (by omega) (by omega) (by omega) d_Ph_searchShortest_38 ?_
            refine lv_iload hx hb d_Ph_searchShortest_39 (lv_at hl 4 rfl) ?_
            refine k_ald (i := i) hx hb hK hP (5 + sl) 0 (k_grid rfl (by omega)) rfl (by omega) (by omega) (by omega) d_Ph_searchShortest_41 ?_
            have hv_3 := hPl sl i
            refine lv_istore (lv' := [(5, .int (zI (↑(Pl sl i)))), (0, .ref h), (1, .int (zI ↑sl)), (2, .int (zI lo)), (3, .int (zI hi)), (4, .int (zI ↑i))]) hx hb d_Ph_searchShortest_42 hl (by decide) rfl ?_
            clear hl; intro ls hl
            refine lv_iload_n hx hb d_Ph_searchShortest_44 rfl (lv_at hl 3 rfl) ?_
            refine lv_iload hx hb d_Ph_searchShortest_45 (lv_at hl 0 rfl) ?_
            refine k_min (v := min lo ↑(Pl sl i)) hx hb (hml.trans hl.1.symm) hown (hkw _ kw_methodLink_Ph_83) (hkw _ kw_static_Math_min) (hkw _ kw_initialized_Math) (hkw _ kw_code_Math_min) (by have h9 : (1 : Nat) ≤ (d + 1) + 4 := (by omega); exact h9) (by have h9 : (13 : Nat) ≤ 29 * (d + 1) + 200 := (by omega); exact h9) (Nat.zero_le _) (Nat.zero_le _) d_Ph_searchShortest_47 ⟨by omega, by omega⟩ ⟨by omega, by omega⟩ (by omega) ?_
            refine lv_istore (lv' := [(6, .int (zI (min lo ↑(Pl sl i)))), (5, .int (zI (↑(Pl sl i)))), (0, .ref h), (1, .int (zI ↑sl)), (2, .int (zI lo)), (3, .int (zI hi)), (4, .int (zI ↑i))]) hx hb d_Ph_searchShortest_50 hl (by decide) rfl ?_
            clear hl; intro ls hl
            refine lv_iload_n hx hb d_Ph_searchShortest_52 rfl (lv_at hl 5 rfl) ?_
            refine lv_iload hx hb d_Ph_searchShortest_53 (lv_at hl 1 rfl) ?_
            refine k_max (v := max hi ↑(Pl sl i)) hx hb (hml.trans hl.1.symm) hown (hkw _ kw_methodLink_Ph_89) (hkw _ kw_static_Math_max) (hkw _ kw_initialized_Math) (hkw _ kw_code_Math_max) (by have h9 : (1 : Nat) ≤ (d + 1) + 4 := (by omega); exact h9) (by have h9 : (13 : Nat) ≤ 29 * (d + 1) + 200 := (by omega); exact h9) (Nat.zero_le _) (Nat.zero_le _) d_Ph_searchShortest_55 ⟨by omega, by omega⟩ ⟨by omega, by omega⟩ (by omega) ?_
            refine lv_istore (lv' := [(7, .int (zI (max hi ↑(Pl sl i)))), (6, .int (zI (min lo ↑(Pl sl i)))), (5, .int (zI (↑(Pl sl i)))), (0, .ref h), (1, .int (zI ↑sl)), (2, .int (zI lo)), (3, .int (zI hi)), (4, .int (zI ↑i))]) hx hb d_Ph_searchShortest_58 hl (by decide) rfl ?_
            clear hl; intro ls hl
            refine lv_aload_n hx hb d_Ph_searchShortest_60 rfl (lv_at hl 3 rfl) ?_
            refine lv_iload hx hb d_Ph_searchShortest_61 (lv_at hl 1 rfl) ?_
            refine lv_iload hx hb d_Ph_searchShortest_63 (lv_at hl 0 rfl) ?_
            refine k_beI (va_runV (As := [.int (zI (min lo ↑(Pl sl i))), .int (zI (max hi ↑(Pl sl i)))]) (rest := []) ⟨hx, hb, hml, hown, hkw⟩ (c_Ph_isShorter l D cI cR cG h qo qs qp qc qt qf qn n sd lm sf2 st2 (min lo ↑(Pl sl i)) (max hi ↑(Pl sl i)) (by omega) (by omega) (by omega) (by omega) _) (cwV 2 hkw (k_gV kw_methodLink_Ph_106 kw_instanceMethod_Ph_isShorter kw_selects_Ph_isShorter kw_initialized_Ph kw_code_Ph_isShorter) rfl rfl rfl (by decide +kernel) ⟨(by have h9 : (1 : Nat) ≤ (d + 1) + 4 := (by omega); exact h9), (by have h9 : (24 : Nat) ≤ 29 * (d + 1) + 200 := (by omega); exact h9)⟩) (k_preV (q0 := 0) hK hG hP hD [0] rfl rfl rfl rfl) rfl rfl hl.1 rfl (lv_room (Nat.le_of_ble_eq_true rfl)) d_Ph_searchShortest_65 ⟨Nat.zero_le _, Nat.zero_le _⟩) hP hD hS hA [0] rfl (Eq.trans (b := [h]) rfl rfl) ?_
            clear hP hD hS; intro H locs hP hD hS
            replace hP : va_P D k_cl ([(h, .inr (1, [.ref qo, .ref qs, .int (zI ↑n), .int (zI ↑sd), .ref qp, .ref qc, .ref qt, .ref qf, .ref qn, .int (zI ↑lm), .int (zI sf2), .int (zI st2)])), (qs, .inl (cI, 4, .inl (kA se))), (qp, .inl (cG, 4, .inr (.inr (.inr (.inr (fun i => some (gr i))))))), (qc, .inl (cI, 4, .inl (kA pc))), (qt, .inl (cI, 4, .inl (kA tr2)))] ++ (k_p3 cI gr Pl)) H := hP
            replace hD : va_D A ([(h, .inr (1, [.ref qo, .ref qs, .int (zI ↑n), .int (zI ↑sd), .ref qp, .ref qc, .ref qt, .ref qf, .ref qn, .int (zI ↑lm), .int (zI sf2), .int (zI st2)])), (qs, .inl (cI, 4, .inl (kA se))), (qp, .inl (cG, 4, .inr (.inr (.inr (.inr (fun i => some (gr i))))))), (qc, .inl (cI, 4, .inl (kA pc))), (qt, .inl (cI, 4, .inl (kA tr2)))] ++ (k_p3 cI gr Pl)) := hD
            refine k_bif_eq (tgt := 100) hx hb d_Ph_searchShortest_68 (by decide) (fun c_68 => ?_) (fun c_68 => ?_)
            · refine k_iinc (v := ↑(i + 1)) (lv' := [(4, .int (zI (↑(i + 1)))), (7, .int (zI (max hi ↑(Pl sl i)))), (6, .int (zI (min lo ↑(Pl sl i)))), (5, .int (zI (↑(Pl sl i)))), (0, .ref h), (1, .int (zI ↑sl)), (2, .int (zI lo)), (3, .int (zI hi))]) hx hb d_Ph_searchShortest_100 hl (k := 7) rfl (by omega) (by decide) rfl ?_
              clear hl; intro ls hl
              refine lv_goto (tgt := 22) hx hb d_Ph_searchShortest_103 (by decide) ?_
              exact ih_22 (i + 1) tr2 sf2 st2 (by omega) htr2 hsf2 hst2 (by first | (rw [kLoop, tStep_0 c_68] at hgo; exact hgo) | (rw [kLoop, tStep_1 c_68 c_78] at hgo; exact hgo) | (rw [kLoop, tStep_2 c_68 c_78] at hgo; exact hgo)) _ _ _ hP hD hS (lv_sub hl [4, 5, 6, 7, 0] rfl)
            · refine lv_aload_n hx hb d_Ph_searchShortest_71 rfl (lv_at hl 3 rfl) ?_
              refine lv_iload_n hx hb d_Ph_searchShortest_72 rfl (lv_at hl 4 rfl) ?_
              refine lv_iload hx hb d_Ph_searchShortest_73 (lv_at hl 2 rfl) ?_
              refine k_beI (va_runV (As := [.int (zI ↑sl), .int (zI (↑(Pl sl i)))]) (rest := []) ⟨hx, hb, hml, hown, hkw⟩ (c_Ph_isFree l D cI cR cG h qo qs qp qc qt qf qn n sd lm sf2 st2 se tr2 sl (Pl sl i) (by omega) (by omega) hse htr2 _) (cwV 2 hkw (k_gV kw_methodLink_Ph_96 kw_instanceMethod_Ph_isFree kw_selects_Ph_isFree kw_initialized_Ph kw_code_Ph_isFree) rfl rfl rfl (by decide +kernel) ⟨(by have h9 : (1 : Nat) ≤ (d + 1) + 4 := (by omega); exact h9), (by have h9 : (23 : Nat) ≤ 29 * (d + 1) + 200 := (by omega); exact h9)⟩) (k_preV (q0 := 0) hK hG hP hD [0, 1, 4] rfl rfl rfl rfl) rfl rfl hl.1 rfl (lv_room (Nat.le_of_ble_eq_true rfl)) d_Ph_searchShortest_75 ⟨Nat.zero_le _, Nat.zero_le _⟩) hP hD hS hA [0, 1, 4] rfl (Eq.trans (b := [h, qs, qt]) rfl rfl) ?_
              clear hP hD hS; intro H locs hP hD hS
              replace hP : va_P D k_cl ([(h, .inr (1, [.ref qo, .ref qs, .int (zI ↑n), .int (zI ↑sd), .ref qp, .ref qc, .ref qt, .ref qf, .ref qn, .int (zI ↑lm), .int (zI sf2), .int (zI st2)])), (qs, .inl (cI, 4, .inl (kA se))), (qp, .inl (cG, 4, .inr (.inr (.inr (.inr (fun i => some (gr i))))))), (qc, .inl (cI, 4, .inl (kA pc))), (qt, .inl (cI, 4, .inl (kA tr2)))] ++ (k_p3 cI gr Pl)) H := hP
              replace hD : va_D A ([(h, .inr (1, [.ref qo, .ref qs, .int (zI ↑n), .int (zI ↑sd), .ref qp, .ref qc, .ref qt, .ref qf, .ref qn, .int (zI ↑lm), .int (zI sf2), .int (zI st2)])), (qs, .inl (cI, 4, .inl (kA se))), (qp, .inl (cG, 4, .inr (.inr (.inr (.inr (fun i => some (gr i))))))), (qc, .inl (cI, 4, .inl (kA pc))), (qt, .inl (cI, 4, .inl (kA tr2)))] ++ (k_p3 cI gr Pl)) := hD
              refine k_bif_eq (tgt := 100) hx hb d_Ph_searchShortest_78 (by decide) (fun c_78 => ?_) (fun c_78 => ?_)
              · refine k_iinc (v := ↑(i + 1)) (lv' := [(4, .int (zI (↑(i + 1)))), (7, .int (zI (max hi ↑(Pl sl i)))), (6, .int (zI (min lo ↑(Pl sl i)))), (5, .int (zI (↑(Pl sl i)))), (0, .ref h), (1, .int (zI ↑sl)), (2, .int (zI lo)), (3, .int (zI hi))]) hx hb d_Ph_searchShortest_100 hl (k := 7) rfl (by omega) (by decide) rfl ?_
                clear hl; intro ls hl
                refine lv_goto (tgt := 22) hx hb d_Ph_searchShortest_103 (by decide) ?_
                exact ih_22 (i + 1) tr2 sf2 st2 (by omega) htr2 hsf2 hst2 (by first | (rw [kLoop, tStep_0 c_68] at hgo; exact hgo) | (rw [kLoop, tStep_1 c_68 c_78] at hgo; exact hgo) | (rw [kLoop, tStep_2 c_68 c_78] at hgo; exact hgo)) _ _ _ hP hD hS (lv_sub hl [4, 5, 6, 7, 0] rfl)
              · refine lv_aload_n hx hb d_Ph_searchShortest_81 rfl (lv_at hl 3 rfl) ?_
                refine va_get (D := D) (ci := 1) (v := .ref qt) (C := R_Ph) (T := T_Ph) (N := 12) hx hb hkw kin_Ph hown hK hP 0 rfl rfl 6 (by decide) (hkw _ kw_fieldLink_Ph_34) (fun _ h9 => h9) rfl d_Ph_searchShortest_82 ?_
                refine lv_iload_n hx hb d_Ph_searchShortest_85 rfl (lv_at hl 4 rfl) ?_
                refine lv_iload hx hb d_Ph_searchShortest_86 (lv_at hl 2 rfl) ?_
                refine k_ast hx hb hK hP hD hS 4 0 rfl rfl (i := sl) (v := (Pl sl i)) (by omega) (by omega) (by omega) (by omega) d_Ph_searchShortest_88 ?_
                clear hP hD hS; intro H locs hP hD hS
                replace hP : va_P D k_cl ([(h, .inr (1, [.ref qo, .ref qs, .int (zI ↑n), .int (zI ↑sd), .ref qp, .ref qc, .ref qt, .ref qf, .ref qn, .int (zI ↑lm), .int (zI sf2), .int (zI st2)])), (qs, .inl (cI, 4, .inl (kA se))), (qp, .inl (cG, 4, .inr (.inr (.inr (.inr (fun i => some (gr i))))))), (qc, .inl (cI, 4, .inl (kA pc))), (qt, .inl (cI, 4, .inl (kA (va_up tr2 sl (Pl sl i)))))] ++ (k_p3 cI gr Pl)) H := hP
                replace hD : va_D A ([(h, .inr (1, [.ref qo, .ref qs, .int (zI ↑n), .int (zI ↑sd), .ref qp, .ref qc, .ref qt, .ref qf, .ref qn, .int (zI ↑lm), .int (zI sf2), .int (zI st2)])), (qs, .inl (cI, 4, .inl (kA se))), (qp, .inl (cG, 4, .inr (.inr (.inr (.inr (fun i => some (gr i))))))), (qc, .inl (cI, 4, .inl (kA pc))), (qt, .inl (cI, 4, .inl (kA (va_up tr2 sl (Pl sl i)))))] ++ (k_p3 cI gr Pl)) := hD
                refine lv_aload_n hx hb d_Ph_searchShortest_89 rfl (lv_at hl 3 rfl) ?_
                refine lv_iload_n hx hb d_Ph_searchShortest_90 rfl (lv_at hl 4 rfl) ?_
                refine lv_iconst (v := zI 1) hx hb d_Ph_searchShortest_91 (by decide) ?_
                refine k_iadd (v := ↑(sl + 1)) hx hb d_Ph_searchShortest_92 (by omega) ?_
                refine lv_iload hx hb d_Ph_searchShortest_93 (lv_at hl 1 rfl) ?_
                refine lv_iload hx hb d_Ph_searchShortest_95 (lv_at hl 0 rfl) ?_
                have hbS := sT_bd (se := se) (pc := pc) hPl d (sl + 1) (min lo ↑(Pl sl i)) (max hi ↑(Pl sl i)) (va_up tr2 sl (Pl sl i), sf2, st2) (by omega) (by omega) ⟨k_upB htr2 hb1, hsf2, hst2⟩
                refine k_beVT (nx := [(h, .inr (1, [.ref qo, .ref qs, .int (zI ↑n), .int (zI ↑sd), .ref qp, .ref qc, .ref qt, .ref qf, .ref qn, .int (zI ↑lm), .int (zI ((sT se pc Pl d (sl + 1) (min lo ↑(Pl sl i)) (max hi ↑(Pl sl i)) (va_up tr2 sl (Pl sl i), sf2, st2)).2.1)), .int (zI ((sT se pc Pl d (sl + 1) (min lo ↑(Pl sl i)) (max hi ↑(Pl sl i)) (va_up tr2 sl (Pl sl i), sf2, st2)).2.2))])), (qs, .inl (cI, 4, .inl (kA se))), (qp, .inl (cG, 4, .inr (.inr (.inr (.inr (fun i => some (gr i))))))), (qc, .inl (cI, 4, .inl (kA pc))), (qt, .inl (cI, 4, .inl (kA ((sT se pc Pl d (sl + 1) (min lo ↑(Pl sl i)) (max hi ↑(Pl sl i)) (va_up tr2 sl (Pl sl i), sf2, st2)).1))))]) (tn := k_p3 cI gr Pl) (T1 := k_p3 cI gr Pl) (va_runV (As := [.int (zI ↑(sl + 1)), .int (zI (min lo ↑(Pl sl i))), .int (zI (max hi ↑(Pl sl i)))]) (rest := []) ⟨hx, hb, hml, hown, hkw⟩ (ih (sl + 1) (min lo ↑(Pl sl i)) (max hi ↑(Pl sl i)) (va_up tr2 sl (Pl sl i)) sf2 st2 (by omega) (by omega) (by omega) (k_upB htr2 hb1) hsf2 hst2 _) (cwV 3 hkw (k_gV kw_methodLink_Ph_75 kw_instanceMethod_Ph_searchShortest kw_selects_Ph_searchShortest kw_initialized_Ph kw_code_Ph_searchShortest) rfl rfl rfl (by decide +kernel) ⟨(by have h9 : d + 4 + 1 ≤ d + 1 + 4 := (by omega); exact h9), (by have h9 : 8 + (8 + 11) + (29 * d + 200) ≤ 29 * (d + 1) + 200 := (by omega); exact h9)⟩) (k_preVT (px := [(h, .inr (1, [.ref qo, .ref qs, .int (zI ↑n), .int (zI ↑sd), .ref qp, .ref qc, .ref qt, .ref qf, .ref qn, .int (zI ↑lm), .int (zI sf2), .int (zI st2)])), (qs, .inl (cI, 4, .inl (kA se))), (qp, .inl (cG, 4, .inr (.inr (.inr (.inr (fun i => some (gr i))))))), (qc, .inl (cI, 4, .inl (kA pc))), (qt, .inl (cI, 4, .inl (kA (va_up tr2 sl (Pl sl i)))))]) (tc := k_p3 cI gr Pl) (q0 := 0) hK hG hP hD [0, 1, 2, 3, 4] rfl rfl (fun _ h => h) ((k_D_right hD).weaken (fun _ _ _ _ => trivial)) rfl rfl) rfl rfl hl.1 rfl (lv_room (Nat.le_of_ble_eq_true rfl)) d_Ph_searchShortest_97 ⟨Nat.zero_le _, Nat.zero_le _⟩) hP hD hS hA [0, 1, 2, 3, 4] rfl (Eq.trans (b := [h, qs, qp, qc, qt]) rfl rfl) (fun _ h => h) rfl (fun _ h => Or.inl h) ?_
                clear hP hD hS; intro H locs hP hD hS
                replace hP : va_P D k_cl ([(h, .inr (1, [.ref qo, .ref qs, .int (zI ↑n), .int (zI ↑sd), .ref qp, .ref qc, .ref qt, .ref qf, .ref qn, .int (zI ↑lm), .int (zI ((sT se pc Pl d (sl + 1) (min lo ↑(Pl sl i)) (max hi ↑(Pl sl i)) (va_up tr2 sl (Pl sl i), sf2, st2)).2.1)), .int (zI ((sT se pc Pl d (sl + 1) (min lo ↑(Pl sl i)) (max hi ↑(Pl sl i)) (va_up tr2 sl (Pl sl i), sf2, st2)).2.2))])), (qs, .inl (cI, 4, .inl (kA se))), (qp, .inl (cG, 4, .inr (.inr (.inr (.inr (fun i => some (gr i))))))), (qc, .inl (cI, 4, .inl (kA pc))), (qt, .inl (cI, 4, .inl (kA ((sT se pc Pl d (sl + 1) (min lo ↑(Pl sl i)) (max hi ↑(Pl sl i)) (va_up tr2 sl (Pl sl i), sf2, st2)).1))))] ++ (k_p3 cI gr Pl)) H := hP
                replace hD : va_D A ([(h, .inr (1, [.ref qo, .ref qs, .int (zI ↑n), .int (zI ↑sd), .ref qp, .ref qc, .ref qt, .ref qf, .ref qn, .int (zI ↑lm), .int (zI ((sT se pc Pl d (sl + 1) (min lo ↑(Pl sl i)) (max hi ↑(Pl sl i)) (va_up tr2 sl (Pl sl i), sf2, st2)).2.1)), .int (zI ((sT se pc Pl d (sl + 1) (min lo ↑(Pl sl i)) (max hi ↑(Pl sl i)) (va_up tr2 sl (Pl sl i), sf2, st2)).2.2))])), (qs, .inl (cI, 4, .inl (kA se))), (qp, .inl (cG, 4, .inr (.inr (.inr (.inr (fun i => some (gr i))))))), (qc, .inl (cI, 4, .inl (kA pc))), (qt, .inl (cI, 4, .inl (kA ((sT se pc Pl d (sl + 1) (min lo ↑(Pl sl i)) (max hi ↑(Pl sl i)) (va_up tr2 sl (Pl sl i), sf2, st2)).1))))] ++ (k_p3 cI gr Pl)) := hD
                refine k_iinc (v := ↑(i + 1)) (lv' := [(4, .int (zI (↑(i + 1)))), (7, .int (zI (max hi ↑(Pl sl i)))), (6, .int (zI (min lo ↑(Pl sl i)))), (5, .int (zI (↑(Pl sl i)))), (0, .ref h), (1, .int (zI ↑sl)), (2, .int (zI lo)), (3, .int (zI hi))]) hx hb d_Ph_searchShortest_100 hl (k := 7) rfl (by omega) (by decide) rfl ?_
                clear hl; intro ls hl
                refine lv_goto (tgt := 22) hx hb d_Ph_searchShortest_103 (by decide) ?_
                exact ih_22 (i + 1) ((sT se pc Pl d (sl + 1) (min lo ↑(Pl sl i)) (max hi ↑(Pl sl i)) (va_up tr2 sl (Pl sl i), sf2, st2)).1) ((sT se pc Pl d (sl + 1) (min lo ↑(Pl sl i)) (max hi ↑(Pl sl i)) (va_up tr2 sl (Pl sl i), sf2, st2)).2.1) ((sT se pc Pl d (sl + 1) (min lo ↑(Pl sl i)) (max hi ↑(Pl sl i)) (va_up tr2 sl (Pl sl i), sf2, st2)).2.2) (by omega) hbS.1 hbS.2.1 hbS.2.2 (by first | (rw [kLoop, tStep_0 c_68] at hgo; exact hgo) | (rw [kLoop, tStep_1 c_68 c_78] at hgo; exact hgo) | (rw [kLoop, tStep_2 c_68 c_78] at hgo; exact hgo)) _ _ _ hP hD hS (lv_sub hl [4, 5, 6, 7, 0] rfl)
      exact loop_22 (pc sl) 0 tr sf st (by omega) htr hsf hst rfl _ _ _ hP hD hS (lv_sub hl [1, 2, 3, 4, 0] rfl)
    · exfalso; omega
