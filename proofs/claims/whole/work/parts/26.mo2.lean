abbrev rm_Mo_find : Room := { frames := 3, cells := 0, slots := 0, locals := 75 }
set_option maxHeartbeats 4000000 in
set_option maxRecDepth 100000 in
theorem c_Mo_find (l : Launch) (D : va_G) (cI cR cG : ClassId) (w : Nat → Nat) (n np kn ch : Nat) (le sf st : Int) (k o1 o2 nn : Nat) (t K G E0 : Nat → Nat) (on ot nu : Nat → Int) (hk : k < 30) (ho1 : K k ≠ 0 → on k = ↑o1 ∧ o1 < 30) (ho2 : 1 ≤ K k ∧ K k ≤ 8 → ot k = ↑o2 ∧ o2 < 30) (hnn : K k ≠ 1 ∧ K k ≠ 5 ∧ K k ≠ 6 ∧ K k ≠ 7 → nu k = ↑nn ∧ nn ≤ 30) (hn9 : K k = 0 → nn < 10) (hK0 : ∀ u, K u ≤ 10) (hnu : ∀ u, k_sm (nu u)) (ht : ∀ j, t j ≤ 1023) (hG0 : ∀ u, G u ≤ 30) (hE0 : ∀ u, E0 u ≤ 30) : k_M l y_Mo_find (.code y_Mo_find b_Mo_find 6 none :: kW) rm_Mo_find D k_cl (k_ty cI cR cG) [.ref (w 0), .int (zI ↑k)] ([(w 0, .inr (4, [.ref (w 1), .int (zI ↑n), .ref (w 2), .ref (w 3), .ref (w 4), .ref (w 5), .int (zI ↑np), .ref (w 6), .ref (w 7), .int (zI ↑kn), .ref (w 8), .ref (w 9), .ref (w 10), .int (zI ↑ch), .int (zI le), .ref (w 11), .int (zI sf), .int (zI st), .ref (w 12)])), (w 1, .inl (cI, 30, .inl (kA t))), (w 2, .inl (cI, 30, .inl (kA K))), (w 3, .inl (cI, 30, .inl (kZ on))), (w 4, .inl (cI, 30, .inl (kZ ot))), (w 5, .inl (cI, 30, .inl (kZ nu))), (w 8, .inl (cI, 900, .inl (kM G))), (w 9, .inl (cI, 30, .inl (kM E0)))]) (k_Qv D k_cl [(w 0, .inr (4, [.ref (w 1), .int (zI ↑n), .ref (w 2), .ref (w 3), .ref (w 4), .ref (w 5), .int (zI ↑np), .ref (w 6), .ref (w 7), .int (zI ↑kn), .ref (w 8), .ref (w 9), .ref (w 10), .int (zI ↑ch), .int (zI le), .ref (w 11), .int (zI sf), .int (zI st), .ref (w 12)])), (w 1, .inl (cI, 30, .inl (kA t))), (w 2, .inl (cI, 30, .inl (kA K))), (w 3, .inl (cI, 30, .inl (kZ on))), (w 4, .inl (cI, 30, .inl (kZ ot))), (w 5, .inl (cI, 30, .inl (kZ nu))), (w 8, .inl (cI, 900, .inl (kM (mLast k (mUnder t (K k) (nu k) nn (fun z => G (30 * o1 + z)) (fun z => G (30 * o2 + z))) 30 30 G)))), (w 9, .inl (cI, 30, .inl (kM (mUnder t (K k) (nu k) nn (fun z => G (30 * o1 + z)) (fun z => G (30 * o2 + z))))))]) := by
  refine k_start (cc := b_Mo_find) (maxL := 6) (ret := none) (by decide) rfl (Nat.le_of_ble_eq_true rfl) ?_
  intro p ev s m ar below meth c A ls Qf hQf hx hb hr hml hts hown hlocks hin hK hG hA hP hD hS hl
  replace hown : s.vm.findClass R_Mo = some m.cls := hown
  replace hl : lv_has ls 6 [(0, .ref (w 0)), (1, .int (zI ↑k))] := hl
  have hkw : ∀ w ∈ kW, w.before ar s = true := fun w h => hts w (List.mem_cons_of_mem _ h)
  replace hP : va_P D k_cl ([(w 0, .inr (4, [.ref (w 1), .int (zI ↑n), .ref (w 2), .ref (w 3), .ref (w 4), .ref (w 5), .int (zI ↑np), .ref (w 6), .ref (w 7), .int (zI ↑kn), .ref (w 8), .ref (w 9), .ref (w 10), .int (zI ↑ch), .int (zI le), .ref (w 11), .int (zI sf), .int (zI st), .ref (w 12)])), (w 1, .inl (cI, 30, .inl (kA t))), (w 2, .inl (cI, 30, .inl (kA K))), (w 3, .inl (cI, 30, .inl (kZ on))), (w 4, .inl (cI, 30, .inl (kZ ot))), (w 5, .inl (cI, 30, .inl (kZ nu))), (w 8, .inl (cI, 900, .inl (kM G))), (w 9, .inl (cI, 30, .inl (kM E0)))]) s.heap := hP
  replace hD : va_D A ([(w 0, .inr (4, [.ref (w 1), .int (zI ↑n), .ref (w 2), .ref (w 3), .ref (w 4), .ref (w 5), .int (zI ↑np), .ref (w 6), .ref (w 7), .int (zI ↑kn), .ref (w 8), .ref (w 9), .ref (w 10), .int (zI ↑ch), .int (zI le), .ref (w 11), .int (zI sf), .int (zI st), .ref (w 12)])), (w 1, .inl (cI, 30, .inl (kA t))), (w 2, .inl (cI, 30, .inl (kA K))), (w 3, .inl (cI, 30, .inl (kZ on))), (w 4, .inl (cI, 30, .inl (kZ ot))), (w 5, .inl (cI, 30, .inl (kZ nu))), (w 8, .inl (cI, 900, .inl (kM G))), (w 9, .inl (cI, 30, .inl (kM E0)))]) := hD
  have hKk := hK0 k
  have hnk := hnu k
  refine lv_iconst (v := zI 0) hx hb d_Mo_find_0 (by decide) ?_
  refine lv_istore_n (lv' := [(2, .int (zI 0)), (0, .ref (w 0)), (1, .int (zI ↑k))]) hx hb d_Mo_find_1 rfl hl (by decide) rfl ?_
  clear hl; intro ls hl
  have loop_2 : ∀ (y : Nat) (p0 : Nat) (F : Nat → Nat), (p0 + y = 30) → (∀ j, F j ≤ 30) → (∀ j, j < p0 → F j = mTerm t (K k) nn j) → ∀ (H : Heap) (locs : List Loc) (ls : Array Slot), va_P D k_cl ([(w 0, .inr (4, [.ref (w 1), .int (zI ↑n), .ref (w 2), .ref (w 3), .ref (w 4), .ref (w 5), .int (zI ↑np), .ref (w 6), .ref (w 7), .int (zI ↑kn), .ref (w 8), .ref (w 9), .ref (w 10), .int (zI ↑ch), .int (zI le), .ref (w 11), .int (zI sf), .int (zI st), .ref (w 12)])), (w 1, .inl (cI, 30, .inl (kA t))), (w 2, .inl (cI, 30, .inl (kA K))), (w 3, .inl (cI, 30, .inl (kZ on))), (w 4, .inl (cI, 30, .inl (kZ ot))), (w 5, .inl (cI, 30, .inl (kZ nu))), (w 8, .inl (cI, 900, .inl (kM G))), (w 9, .inl (cI, 30, .inl (kM F)))]) H → va_D A ([(w 0, .inr (4, [.ref (w 1), .int (zI ↑n), .ref (w 2), .ref (w 3), .ref (w 4), .ref (w 5), .int (zI ↑np), .ref (w 6), .ref (w 7), .int (zI ↑kn), .ref (w 8), .ref (w 9), .ref (w 10), .int (zI ↑ch), .int (zI le), .ref (w 11), .int (zI sf), .int (zI st), .ref (w 12)])), (w 1, .inl (cI, 30, .inl (kA t))), (w 2, .inl (cI, 30, .inl (kA K))), (w 3, .inl (cI, 30, .inl (kZ on))), (w 4, .inl (cI, 30, .inl (kZ ot))), (w 5, .inl (cI, 30, .inl (kZ nu))), (w 8, .inl (cI, 900, .inl (kM G))), (w 9, .inl (cI, 30, .inl (kM F)))]) → va_S A s.heap H locs → lv_has ls 6 [(0, .ref (w 0)), (1, .int (zI ↑k)), (2, .int (zI ↑p0))] → W p l ev rm_Mo_find s m ar below meth c H locs 0 0 Qf (F0 m 2 ls []) := by
    intro y
    induction y with
    | zero =>
      intro p0 F hin hF hgo H locs ls hP hD hS hl
      refine lv_iload_n hx hb d_Mo_find_2 rfl (lv_at hl 2 rfl) ?_
      refine lv_bipush (v := zI 30) hx hb d_Mo_find_3 (by decide) ?_
      refine k_icmp_ge (tgt := 53) hx hb d_Mo_find_5 (by decide) ⟨by omega, by omega⟩ ⟨by omega, by omega⟩ (fun c_5 => ?_) (fun c_5 => ?_)
      · by_cases hk0 : K k = 0
        · replace hP : va_P D k_cl [(w 0, .inr (4, [.ref (w 1), .int (zI ↑n), .ref (w 2), .ref (w 3), .ref (w 4), .ref (w 5), .int (zI ↑np), .ref (w 6), .ref (w 7), .int (zI ↑kn), .ref (w 8), .ref (w 9), .ref (w 10), .int (zI ↑ch), .int (zI le), .ref (w 11), .int (zI sf), .int (zI st), .ref (w 12)])), (w 1, .inl (cI, 30, .inl (kA t))), (w 2, .inl (cI, 30, .inl (kA K))), (w 3, .inl (cI, 30, .inl (kZ on))), (w 4, .inl (cI, 30, .inl (kZ ot))), (w 5, .inl (cI, 30, .inl (kZ nu))), (w 8, .inl (cI, 900, .inl (kM G))), (w 9, .inl (cI, 30, .inl (kM (fun p => if p < 30 then mTerm t 0 nn p else 30))))] H := k_setext (ws := [(w 0, .inr (4, [.ref (w 1), .int (zI ↑n), .ref (w 2), .ref (w 3), .ref (w 4), .ref (w 5), .int (zI ↑np), .ref (w 6), .ref (w 7), .int (zI ↑kn), .ref (w 8), .ref (w 9), .ref (w 10), .int (zI ↑ch), .int (zI le), .ref (w 11), .int (zI sf), .int (zI st), .ref (w 12)])), (w 1, .inl (cI, 30, .inl (kA t))), (w 2, .inl (cI, 30, .inl (kA K))), (w 3, .inl (cI, 30, .inl (kZ on))), (w 4, .inl (cI, 30, .inl (kZ ot))), (w 5, .inl (cI, 30, .inl (kZ nu))), (w 8, .inl (cI, 900, .inl (kM G))), (w 9, .inl (cI, 30, .inl (kM F)))]) (q := 7) (a := w 9) (cA := cI) (n := 30) (f := kM F) (g := kM (fun p => if p < 30 then mTerm t 0 nn p else 30)) hP (kM_ext (fun j hj => by rw [hgo j (by omega)]; rw [hk0]; exact (if_pos hj).symm))
          replace hD : va_D A [(w 0, .inr (4, [.ref (w 1), .int (zI ↑n), .ref (w 2), .ref (w 3), .ref (w 4), .ref (w 5), .int (zI ↑np), .ref (w 6), .ref (w 7), .int (zI ↑kn), .ref (w 8), .ref (w 9), .ref (w 10), .int (zI ↑ch), .int (zI le), .ref (w 11), .int (zI sf), .int (zI st), .ref (w 12)])), (w 1, .inl (cI, 30, .inl (kA t))), (w 2, .inl (cI, 30, .inl (kA K))), (w 3, .inl (cI, 30, .inl (kZ on))), (w 4, .inl (cI, 30, .inl (kZ ot))), (w 5, .inl (cI, 30, .inl (kZ nu))), (w 8, .inl (cI, 900, .inl (kM G))), (w 9, .inl (cI, 30, .inl (kM (fun p => if p < 30 then mTerm t 0 nn p else 30))))] := k_D_fst hD (Eq.trans (b := [w 0, w 1, w 2, w 3, w 4, w 5, w 8, w 9]) rfl rfl)
          refine lv_iconst (v := zI 0) hx hb d_Mo_find_53 (by decide) ?_
          refine lv_istore_n (lv' := [(2, .int (zI 0)), (0, .ref (w 0)), (1, .int (zI ↑k))]) hx hb d_Mo_find_54 rfl hl (by decide) rfl ?_
          clear hl; intro ls hl
          refine lv_iload_n hx hb d_Mo_find_55 rfl (lv_at hl 0 rfl) ?_
          refine lv_bipush (v := zI 30) hx hb d_Mo_find_56 (by decide) ?_
          refine k_icmp_ge (tgt := 224) hx hb d_Mo_find_58 (by decide) ⟨by omega, by omega⟩ ⟨by omega, by omega⟩ (fun c_58 => ?_) (fun c_58 => ?_)
          · exfalso; omega
          · refine lv_aload_n hx hb d_Mo_find_61 rfl (lv_at hl 1 rfl) ?_
            refine va_get (D := D) (ci := 4) (v := .ref (w 2)) (C := R_Mo) (T := T_Mo) (N := 19) hx hb hkw kin_Mo hown hK hP 0 rfl rfl 2 (by decide) (hkw _ kw_fieldLink_Mo_13) (fun _ h9 => h9) rfl d_Mo_find_62 ?_
            refine lv_iload_n hx hb d_Mo_find_65 rfl (lv_at hl 2 rfl) ?_
            refine k_ald hx hb hK hP 2 0 rfl rfl (i := k) (by omega) (by omega) (by omega) d_Mo_find_66 ?_
            have hv_1 := hK0 k
            refine k_if_le (tgt := 224) hx hb d_Mo_find_67 (by decide) ⟨by omega, by omega⟩ (fun c_67 => ?_) (fun c_67 => ?_)
            · obtain ⟨U, hU⟩ : ∃ U : Nat → Nat, U = mUnder t (K k) (nu k) nn (fun z => G (30 * o1 + z)) (fun z => G (30 * o2 + z)) := ⟨_, rfl⟩
              have hU2 : (fun p => if p < 30 then mTerm t 0 nn p else 30) = U := by rw [hU]; exact (if_pos hk0).symm
              have hUb : ∀ j, j < 30 → U j ≤ 30 := by intro j hj; rw [← hU2]; dsimp only; rw [if_pos hj]; exact mTerm_le (by omega)
              rw [hU2] at hP hD
              refine lv_bipush (v := zI 30) hx hb d_Mo_find_224 (by decide) ?_
              refine lv_istore_n (lv' := [(2, .int (zI 30)), (0, .ref (w 0)), (1, .int (zI ↑k))]) hx hb d_Mo_find_226 rfl hl (by decide) rfl ?_
              clear hl; intro ls hl
              refine lv_bipush (v := zI 29) hx hb d_Mo_find_227 (by decide) ?_
              refine lv_istore_n (lv' := [(3, .int (zI 29)), (2, .int (zI 30)), (0, .ref (w 0)), (1, .int (zI ↑k))]) hx hb d_Mo_find_229 rfl hl (by decide) rfl ?_
              clear hl; intro ls hl
              have loop_230 : ∀ (u : Nat) (z : Int) (lst : Nat) (G2 : Nat → Nat), (z = (u : Int) - 1) → (u ≤ 30) → (lst ≤ 30) → (mLast k U u lst G2 = mLast k U 30 30 G) → ∀ (H : Heap) (locs : List Loc) (ls : Array Slot), va_P D k_cl ([(w 0, .inr (4, [.ref (w 1), .int (zI ↑n), .ref (w 2), .ref (w 3), .ref (w 4), .ref (w 5), .int (zI ↑np), .ref (w 6), .ref (w 7), .int (zI ↑kn), .ref (w 8), .ref (w 9), .ref (w 10), .int (zI ↑ch), .int (zI le), .ref (w 11), .int (zI sf), .int (zI st), .ref (w 12)])), (w 1, .inl (cI, 30, .inl (kA t))), (w 2, .inl (cI, 30, .inl (kA K))), (w 3, .inl (cI, 30, .inl (kZ on))), (w 4, .inl (cI, 30, .inl (kZ ot))), (w 5, .inl (cI, 30, .inl (kZ nu))), (w 8, .inl (cI, 900, .inl (kM G2))), (w 9, .inl (cI, 30, .inl (kM U)))]) H → va_D A ([(w 0, .inr (4, [.ref (w 1), .int (zI ↑n), .ref (w 2), .ref (w 3), .ref (w 4), .ref (w 5), .int (zI ↑np), .ref (w 6), .ref (w 7), .int (zI ↑kn), .ref (w 8), .ref (w 9), .ref (w 10), .int (zI ↑ch), .int (zI le), .ref (w 11), .int (zI sf), .int (zI st), .ref (w 12)])), (w 1, .inl (cI, 30, .inl (kA t))), (w 2, .inl (cI, 30, .inl (kA K))), (w 3, .inl (cI, 30, .inl (kZ on))), (w 4, .inl (cI, 30, .inl (kZ ot))), (w 5, .inl (cI, 30, .inl (kZ nu))), (w 8, .inl (cI, 900, .inl (kM G2))), (w 9, .inl (cI, 30, .inl (kM U)))]) → va_S A s.heap H locs → lv_has ls 6 [(0, .ref (w 0)), (1, .int (zI ↑k)), (2, .int (zI ↑lst)), (3, .int (zI z))] → W p l ev rm_Mo_find s m ar below meth c H locs 0 0 Qf (F0 m 230 ls []) := by
                intro u
                induction u with
                | zero =>
                  intro z lst G2 hz hu hls hgo4 H locs ls hP hD hS hl
                  refine lv_iload_n hx hb d_Mo_find_230 rfl (lv_at hl 3 rfl) ?_
                  refine k_if_lt (tgt := 308) hx hb d_Mo_find_231 (by decide) ⟨by omega, by omega⟩ (fun c_231 => ?_) (fun c_231 => ?_)
                  · have e9 : mLast k (mUnder t (K k) (nu k) nn (fun z => G (30 * o1 + z)) (fun z => G (30 * o2 + z))) 30 30 G = G2 := by rw [← hU]; exact hgo4.symm
                    replace hP : va_P D k_cl [(w 0, .inr (4, [.ref (w 1), .int (zI ↑n), .ref (w 2), .ref (w 3), .ref (w 4), .ref (w 5), .int (zI ↑np), .ref (w 6), .ref (w 7), .int (zI ↑kn), .ref (w 8), .ref (w 9), .ref (w 10), .int (zI ↑ch), .int (zI le), .ref (w 11), .int (zI sf), .int (zI st), .ref (w 12)])), (w 1, .inl (cI, 30, .inl (kA t))), (w 2, .inl (cI, 30, .inl (kA K))), (w 3, .inl (cI, 30, .inl (kZ on))), (w 4, .inl (cI, 30, .inl (kZ ot))), (w 5, .inl (cI, 30, .inl (kZ nu))), (w 8, .inl (cI, 900, .inl (kM (mLast k (mUnder t (K k) (nu k) nn (fun z => G (30 * o1 + z)) (fun z => G (30 * o2 + z))) 30 30 G)))), (w 9, .inl (cI, 30, .inl (kM (mUnder t (K k) (nu k) nn (fun z => G (30 * o1 + z)) (fun z => G (30 * o2 + z))))))] H := by rw [e9, ← hU]; exact hP
                    rw [← hQf]
                    exact k_vret hx hb hr hlocks hP hS d_Mo_find_308
                  · exfalso; omega
                | succ u ih_230 =>
                  intro z lst G2 hz hu hls hgo4 H locs ls hP hD hS hl
                  have hub := hUb u (by omega)
                  refine lv_iload_n hx hb d_Mo_find_230 rfl (lv_at hl 3 rfl) ?_
                  refine k_if_lt (tgt := 308) hx hb d_Mo_find_231 (by decide) ⟨by omega, by omega⟩ (fun c_231 => ?_) (fun c_231 => ?_)
                  · exfalso; omega
                  · refine lv_aload_n hx hb d_Mo_find_234 rfl (lv_at hl 0 rfl) ?_
                    refine va_get (D := D) (ci := 4) (v := .ref (w 9)) (C := R_Mo) (T := T_Mo) (N := 19) hx hb hkw kin_Mo hown hK hP 0 rfl rfl 11 (by decide) (hkw _ kw_fieldLink_Mo_34) (fun _ h9 => h9) rfl d_Mo_find_235 ?_
                    refine lv_iload_n hx hb d_Mo_find_238 rfl (lv_at hl 3 rfl) ?_
                    refine k_aldM hx hb hK hP 7 0 rfl rfl (i := u) (by omega) (by omega) (by omega) d_Mo_find_239 ?_
                    have hm_2 := mz_or (U u)
                    refine k_if_lt (tgt := 257) hx hb d_Mo_find_240 (by decide) ⟨by omega, by omega⟩ (fun c_240 => ?_) (fun c_240 => ?_)
                    · refine lv_iconst (v := zI 0) hx hb d_Mo_find_257 (by decide) ?_
                      refine lv_istore (lv' := [(4, .int (zI 0)), (0, .ref (w 0)), (1, .int (zI ↑k)), (2, .int (zI ↑lst)), (3, .int (zI z))]) hx hb d_Mo_find_258 hl (by decide) rfl ?_
                      clear hl; intro ls hl
                      refine lv_aload_n hx hb d_Mo_find_260 rfl (lv_at hl 1 rfl) ?_
                      refine va_get (D := D) (ci := 4) (v := .ref (w 8)) (C := R_Mo) (T := T_Mo) (N := 19) hx hb hkw kin_Mo hown hK hP 0 rfl rfl 10 (by decide) (hkw _ kw_fieldLink_Mo_31) (fun _ h9 => h9) rfl d_Mo_find_261 ?_
                      refine lv_bipush (v := zI 30) hx hb d_Mo_find_264 (by decide) ?_
                      refine lv_iload_n hx hb d_Mo_find_266 rfl (lv_at hl 2 rfl) ?_
                      refine k_imul (v := ↑(30 * k)) hx hb d_Mo_find_267 (by omega) ?_
                      refine lv_iload_n hx hb d_Mo_find_268 rfl (lv_at hl 4 rfl) ?_
                      refine k_iadd (v := ↑(30 * k + u)) hx hb d_Mo_find_269 (by omega) ?_
                      refine lv_iload hx hb d_Mo_find_270 (lv_at hl 0 rfl) ?_
                      refine k_if_eq (tgt := 284) hx hb d_Mo_find_272 (by decide) ⟨by omega, by omega⟩ (fun c_272 => ?_) (fun c_272 => ?_)
                      · refine lv_iconst (v := zI (-1)) hx hb d_Mo_find_284 (by decide) ?_
                        have hm_3 := mz_or (30)
                        refine k_astM hx hb hK hP hD hS 6 0 rfl rfl (i := (30 * k + u)) (v := 30) (by omega) (by omega) (by omega) (by omega) d_Mo_find_285 ?_
                        clear hP hD hS; intro H locs hP hD hS
                        replace hP : va_P D k_cl ([(w 0, .inr (4, [.ref (w 1), .int (zI ↑n), .ref (w 2), .ref (w 3), .ref (w 4), .ref (w 5), .int (zI ↑np), .ref (w 6), .ref (w 7), .int (zI ↑kn), .ref (w 8), .ref (w 9), .ref (w 10), .int (zI ↑ch), .int (zI le), .ref (w 11), .int (zI sf), .int (zI st), .ref (w 12)])), (w 1, .inl (cI, 30, .inl (kA t))), (w 2, .inl (cI, 30, .inl (kA K))), (w 3, .inl (cI, 30, .inl (kZ on))), (w 4, .inl (cI, 30, .inl (kZ ot))), (w 5, .inl (cI, 30, .inl (kZ nu))), (w 8, .inl (cI, 900, .inl (kM (va_up G2 (30 * k + u) 30)))), (w 9, .inl (cI, 30, .inl (kM U)))]) H := hP
                        replace hD : va_D A ([(w 0, .inr (4, [.ref (w 1), .int (zI ↑n), .ref (w 2), .ref (w 3), .ref (w 4), .ref (w 5), .int (zI ↑np), .ref (w 6), .ref (w 7), .int (zI ↑kn), .ref (w 8), .ref (w 9), .ref (w 10), .int (zI ↑ch), .int (zI le), .ref (w 11), .int (zI sf), .int (zI st), .ref (w 12)])), (w 1, .inl (cI, 30, .inl (kA t))), (w 2, .inl (cI, 30, .inl (kA K))), (w 3, .inl (cI, 30, .inl (kZ on))), (w 4, .inl (cI, 30, .inl (kZ ot))), (w 5, .inl (cI, 30, .inl (kZ nu))), (w 8, .inl (cI, 900, .inl (kM (va_up G2 (30 * k + u) 30)))), (w 9, .inl (cI, 30, .inl (kM U)))]) := hD
                        refine lv_iload hx hb d_Mo_find_286 (lv_at hl 0 rfl) ?_
                        refine k_if_eq (tgt := 300) hx hb d_Mo_find_288 (by decide) ⟨by omega, by omega⟩ (fun c_288 => ?_) (fun c_288 => ?_)
                        · refine lv_iload_n hx hb d_Mo_find_300 rfl (lv_at hl 3 rfl) ?_
                          refine lv_istore_n (lv' := [(2, .int (zI ↑lst)), (4, .int (zI 0)), (0, .ref (w 0)), (1, .int (zI ↑k)), (3, .int (zI z))]) hx hb d_Mo_find_301 rfl hl (by decide) rfl ?_
                          clear hl; intro ls hl
                          refine k_iinc (v := z + (-1)) (lv' := [(3, .int (zI (z + (-1)))), (2, .int (zI ↑lst)), (4, .int (zI 0)), (0, .ref (w 0)), (1, .int (zI ↑k))]) hx hb d_Mo_find_302 hl (k := 4) rfl (by omega) (by decide) rfl ?_
                          clear hl; intro ls hl
                          refine lv_goto (tgt := 230) hx hb d_Mo_find_305 (by decide) ?_
                          exact ih_230 (z + (-1)) lst (va_up G2 (30 * k + u) 30) (by omega) (by omega) (by omega) (by rw [mLast] at hgo4; (repeat' split at hgo4); all_goals first | exact hgo4 | (exfalso; omega)) _ _ _ hP hD hS (lv_sub hl [3, 4, 1, 0] rfl)
                        · exfalso; omega
                      · exfalso; omega
                    · refine lv_aload_n hx hb d_Mo_find_243 rfl (lv_at hl 0 rfl) ?_
                      refine va_get (D := D) (ci := 4) (v := .ref (w 9)) (C := R_Mo) (T := T_Mo) (N := 19) hx hb hkw kin_Mo hown hK hP 0 rfl rfl 11 (by decide) (hkw _ kw_fieldLink_Mo_34) (fun _ h9 => h9) rfl d_Mo_find_244 ?_
                      refine lv_iload_n hx hb d_Mo_find_247 rfl (lv_at hl 3 rfl) ?_
                      refine k_aldM hx hb hK hP 7 0 rfl rfl (i := u) (by omega) (by omega) (by omega) d_Mo_find_248 ?_
                      have hm_4 := mz_or (U u)
                      refine lv_iload_n hx hb d_Mo_find_249 rfl (lv_at hl 2 rfl) ?_
                      refine k_icmp_ge (tgt := 257) hx hb d_Mo_find_250 (by decide) ⟨by omega, by omega⟩ ⟨by omega, by omega⟩ (fun c_250 => ?_) (fun c_250 => ?_)
                      · refine lv_iconst (v := zI 0) hx hb d_Mo_find_257 (by decide) ?_
                        refine lv_istore (lv' := [(4, .int (zI 0)), (0, .ref (w 0)), (1, .int (zI ↑k)), (2, .int (zI ↑lst)), (3, .int (zI z))]) hx hb d_Mo_find_258 hl (by decide) rfl ?_
                        clear hl; intro ls hl
                        refine lv_aload_n hx hb d_Mo_find_260 rfl (lv_at hl 1 rfl) ?_
                        refine va_get (D := D) (ci := 4) (v := .ref (w 8)) (C := R_Mo) (T := T_Mo) (N := 19) hx hb hkw kin_Mo hown hK hP 0 rfl rfl 10 (by decide) (hkw _ kw_fieldLink_Mo_31) (fun _ h9 => h9) rfl d_Mo_find_261 ?_
                        refine lv_bipush (v := zI 30) hx hb d_Mo_find_264 (by decide) ?_
                        refine lv_iload_n hx hb d_Mo_find_266 rfl (lv_at hl 2 rfl) ?_
                        refine k_imul (v := ↑(30 * k)) hx hb d_Mo_find_267 (by omega) ?_
                        refine lv_iload_n hx hb d_Mo_find_268 rfl (lv_at hl 4 rfl) ?_
                        refine k_iadd (v := ↑(30 * k + u)) hx hb d_Mo_find_269 (by omega) ?_
                        refine lv_iload hx hb d_Mo_find_270 (lv_at hl 0 rfl) ?_
                        refine k_if_eq (tgt := 284) hx hb d_Mo_find_272 (by decide) ⟨by omega, by omega⟩ (fun c_272 => ?_) (fun c_272 => ?_)
                        · refine lv_iconst (v := zI (-1)) hx hb d_Mo_find_284 (by decide) ?_
                          have hm_5 := mz_or (30)
                          refine k_astM hx hb hK hP hD hS 6 0 rfl rfl (i := (30 * k + u)) (v := 30) (by omega) (by omega) (by omega) (by omega) d_Mo_find_285 ?_
                          clear hP hD hS; intro H locs hP hD hS
                          replace hP : va_P D k_cl ([(w 0, .inr (4, [.ref (w 1), .int (zI ↑n), .ref (w 2), .ref (w 3), .ref (w 4), .ref (w 5), .int (zI ↑np), .ref (w 6), .ref (w 7), .int (zI ↑kn), .ref (w 8), .ref (w 9), .ref (w 10), .int (zI ↑ch), .int (zI le), .ref (w 11), .int (zI sf), .int (zI st), .ref (w 12)])), (w 1, .inl (cI, 30, .inl (kA t))), (w 2, .inl (cI, 30, .inl (kA K))), (w 3, .inl (cI, 30, .inl (kZ on))), (w 4, .inl (cI, 30, .inl (kZ ot))), (w 5, .inl (cI, 30, .inl (kZ nu))), (w 8, .inl (cI, 900, .inl (kM (va_up G2 (30 * k + u) 30)))), (w 9, .inl (cI, 30, .inl (kM U)))]) H := hP
                          replace hD : va_D A ([(w 0, .inr (4, [.ref (w 1), .int (zI ↑n), .ref (w 2), .ref (w 3), .ref (w 4), .ref (w 5), .int (zI ↑np), .ref (w 6), .ref (w 7), .int (zI ↑kn), .ref (w 8), .ref (w 9), .ref (w 10), .int (zI ↑ch), .int (zI le), .ref (w 11), .int (zI sf), .int (zI st), .ref (w 12)])), (w 1, .inl (cI, 30, .inl (kA t))), (w 2, .inl (cI, 30, .inl (kA K))), (w 3, .inl (cI, 30, .inl (kZ on))), (w 4, .inl (cI, 30, .inl (kZ ot))), (w 5, .inl (cI, 30, .inl (kZ nu))), (w 8, .inl (cI, 900, .inl (kM (va_up G2 (30 * k + u) 30)))), (w 9, .inl (cI, 30, .inl (kM U)))]) := hD
                          refine lv_iload hx hb d_Mo_find_286 (lv_at hl 0 rfl) ?_
                          refine k_if_eq (tgt := 300) hx hb d_Mo_find_288 (by decide) ⟨by omega, by omega⟩ (fun c_288 => ?_) (fun c_288 => ?_)
                          · refine lv_iload_n hx hb d_Mo_find_300 rfl (lv_at hl 3 rfl) ?_
                            refine lv_istore_n (lv' := [(2, .int (zI ↑lst)), (4, .int (zI 0)), (0, .ref (w 0)), (1, .int (zI ↑k)), (3, .int (zI z))]) hx hb d_Mo_find_301 rfl hl (by decide) rfl ?_
                            clear hl; intro ls hl
                            refine k_iinc (v := z + (-1)) (lv' := [(3, .int (zI (z + (-1)))), (2, .int (zI ↑lst)), (4, .int (zI 0)), (0, .ref (w 0)), (1, .int (zI ↑k))]) hx hb d_Mo_find_302 hl (k := 4) rfl (by omega) (by decide) rfl ?_
                            clear hl; intro ls hl
                            refine lv_goto (tgt := 230) hx hb d_Mo_find_305 (by decide) ?_
                            exact ih_230 (z + (-1)) lst (va_up G2 (30 * k + u) 30) (by omega) (by omega) (by omega) (by rw [mLast] at hgo4; (repeat' split at hgo4); all_goals first | exact hgo4 | (exfalso; omega)) _ _ _ hP hD hS (lv_sub hl [3, 4, 1, 0] rfl)
                          · exfalso; omega
                        · exfalso; omega
                      · refine lv_iconst (v := zI 1) hx hb d_Mo_find_253 (by decide) ?_
                        refine lv_goto (tgt := 258) hx hb d_Mo_find_254 (by decide) ?_
                        refine lv_istore (lv' := [(4, .int (zI 1)), (0, .ref (w 0)), (1, .int (zI ↑k)), (2, .int (zI ↑lst)), (3, .int (zI z))]) hx hb d_Mo_find_258 hl (by decide) rfl ?_
                        clear hl; intro ls hl
                        refine lv_aload_n hx hb d_Mo_find_260 rfl (lv_at hl 1 rfl) ?_
                        refine va_get (D := D) (ci := 4) (v := .ref (w 8)) (C := R_Mo) (T := T_Mo) (N := 19) hx hb hkw kin_Mo hown hK hP 0 rfl rfl 10 (by decide) (hkw _ kw_fieldLink_Mo_31) (fun _ h9 => h9) rfl d_Mo_find_261 ?_
                        refine lv_bipush (v := zI 30) hx hb d_Mo_find_264 (by decide) ?_
                        refine lv_iload_n hx hb d_Mo_find_266 rfl (lv_at hl 2 rfl) ?_
                        refine k_imul (v := ↑(30 * k)) hx hb d_Mo_find_267 (by omega) ?_
                        refine lv_iload_n hx hb d_Mo_find_268 rfl (lv_at hl 4 rfl) ?_
                        refine k_iadd (v := ↑(30 * k + u)) hx hb d_Mo_find_269 (by omega) ?_
                        refine lv_iload hx hb d_Mo_find_270 (lv_at hl 0 rfl) ?_
                        refine k_if_eq (tgt := 284) hx hb d_Mo_find_272 (by decide) ⟨by omega, by omega⟩ (fun c_272 => ?_) (fun c_272 => ?_)
                        · exfalso; omega
                        · refine lv_aload_n hx hb d_Mo_find_275 rfl (lv_at hl 1 rfl) ?_
                          refine va_get (D := D) (ci := 4) (v := .ref (w 9)) (C := R_Mo) (T := T_Mo) (N := 19) hx hb hkw kin_Mo hown hK hP 0 rfl rfl 11 (by decide) (hkw _ kw_fieldLink_Mo_34) (fun _ h9 => h9) rfl d_Mo_find_276 ?_
                          refine lv_iload_n hx hb d_Mo_find_279 rfl (lv_at hl 4 rfl) ?_
                          refine k_aldM hx hb hK hP 7 0 rfl rfl (i := u) (by omega) (by omega) (by omega) d_Mo_find_280 ?_
                          have hm_6 := mz_or (U u)
                          refine lv_goto (tgt := 285) hx hb d_Mo_find_281 (by decide) ?_
                          have hm_7 := mz_or (U u)
                          refine k_astM hx hb hK hP hD hS 6 0 rfl rfl (i := (30 * k + u)) (v := U u) (by omega) (by omega) (by omega) (by omega) d_Mo_find_285 ?_
                          clear hP hD hS; intro H locs hP hD hS
                          replace hP : va_P D k_cl ([(w 0, .inr (4, [.ref (w 1), .int (zI ↑n), .ref (w 2), .ref (w 3), .ref (w 4), .ref (w 5), .int (zI ↑np), .ref (w 6), .ref (w 7), .int (zI ↑kn), .ref (w 8), .ref (w 9), .ref (w 10), .int (zI ↑ch), .int (zI le), .ref (w 11), .int (zI sf), .int (zI st), .ref (w 12)])), (w 1, .inl (cI, 30, .inl (kA t))), (w 2, .inl (cI, 30, .inl (kA K))), (w 3, .inl (cI, 30, .inl (kZ on))), (w 4, .inl (cI, 30, .inl (kZ ot))), (w 5, .inl (cI, 30, .inl (kZ nu))), (w 8, .inl (cI, 900, .inl (kM (va_up G2 (30 * k + u) (U u))))), (w 9, .inl (cI, 30, .inl (kM U)))]) H := hP
                          replace hD : va_D A ([(w 0, .inr (4, [.ref (w 1), .int (zI ↑n), .ref (w 2), .ref (w 3), .ref (w 4), .ref (w 5), .int (zI ↑np), .ref (w 6), .ref (w 7), .int (zI ↑kn), .ref (w 8), .ref (w 9), .ref (w 10), .int (zI ↑ch), .int (zI le), .ref (w 11), .int (zI sf), .int (zI st), .ref (w 12)])), (w 1, .inl (cI, 30, .inl (kA t))), (w 2, .inl (cI, 30, .inl (kA K))), (w 3, .inl (cI, 30, .inl (kZ on))), (w 4, .inl (cI, 30, .inl (kZ ot))), (w 5, .inl (cI, 30, .inl (kZ nu))), (w 8, .inl (cI, 900, .inl (kM (va_up G2 (30 * k + u) (U u))))), (w 9, .inl (cI, 30, .inl (kM U)))]) := hD
                          refine lv_iload hx hb d_Mo_find_286 (lv_at hl 0 rfl) ?_
                          refine k_if_eq (tgt := 300) hx hb d_Mo_find_288 (by decide) ⟨by omega, by omega⟩ (fun c_288 => ?_) (fun c_288 => ?_)
                          · exfalso; omega
                          · refine lv_aload_n hx hb d_Mo_find_291 rfl (lv_at hl 1 rfl) ?_
                            refine va_get (D := D) (ci := 4) (v := .ref (w 9)) (C := R_Mo) (T := T_Mo) (N := 19) hx hb hkw kin_Mo hown hK hP 0 rfl rfl 11 (by decide) (hkw _ kw_fieldLink_Mo_34) (fun _ h9 => h9) rfl d_Mo_find_292 ?_
                            refine lv_iload_n hx hb d_Mo_find_295 rfl (lv_at hl 4 rfl) ?_
                            refine k_aldM hx hb hK hP 7 0 rfl rfl (i := u) (by omega) (by omega) (by omega) d_Mo_find_296 ?_
                            have hm_8 := mz_or (U u)
                            refine lv_goto (tgt := 301) hx hb d_Mo_find_297 (by decide) ?_
                            refine k_stk (st2 := [.int (zI (↑(U u)))]) (by rw [show (mz (U u) : Int) = ↑(U u) from by omega]) ?_
                            refine lv_istore_n (lv' := [(2, .int (zI (↑(U u)))), (4, .int (zI 1)), (0, .ref (w 0)), (1, .int (zI ↑k)), (3, .int (zI z))]) hx hb d_Mo_find_301 rfl hl (by decide) rfl ?_
                            clear hl; intro ls hl
                            refine k_iinc (v := z + (-1)) (lv' := [(3, .int (zI (z + (-1)))), (2, .int (zI (↑(U u)))), (4, .int (zI 1)), (0, .ref (w 0)), (1, .int (zI ↑k))]) hx hb d_Mo_find_302 hl (k := 4) rfl (by omega) (by decide) rfl ?_
                            clear hl; intro ls hl
                            refine lv_goto (tgt := 230) hx hb d_Mo_find_305 (by decide) ?_
                            exact ih_230 (z + (-1)) (U u) (va_up G2 (30 * k + u) (U u)) (by omega) (by omega) (by omega) (by rw [mLast] at hgo4; (repeat' split at hgo4); all_goals first | exact hgo4 | (exfalso; omega)) _ _ _ hP hD hS (lv_sub hl [3, 4, 1, 0] rfl)
              exact loop_230 30 29 30 G (by omega) (by omega) (by omega) rfl _ _ _ hP hD hS (lv_sub hl [2, 3, 1, 0] rfl)
            · exfalso; omega
        · replace hP : va_P D k_cl [(w 0, .inr (4, [.ref (w 1), .int (zI ↑n), .ref (w 2), .ref (w 3), .ref (w 4), .ref (w 5), .int (zI ↑np), .ref (w 6), .ref (w 7), .int (zI ↑kn), .ref (w 8), .ref (w 9), .ref (w 10), .int (zI ↑ch), .int (zI le), .ref (w 11), .int (zI sf), .int (zI st), .ref (w 12)])), (w 1, .inl (cI, 30, .inl (kA t))), (w 2, .inl (cI, 30, .inl (kA K))), (w 3, .inl (cI, 30, .inl (kZ on))), (w 4, .inl (cI, 30, .inl (kZ ot))), (w 5, .inl (cI, 30, .inl (kZ nu))), (w 8, .inl (cI, 900, .inl (kM G))), (w 9, .inl (cI, 30, .inl (kM e30)))] H := k_setext (ws := [(w 0, .inr (4, [.ref (w 1), .int (zI ↑n), .ref (w 2), .ref (w 3), .ref (w 4), .ref (w 5), .int (zI ↑np), .ref (w 6), .ref (w 7), .int (zI ↑kn), .ref (w 8), .ref (w 9), .ref (w 10), .int (zI ↑ch), .int (zI le), .ref (w 11), .int (zI sf), .int (zI st), .ref (w 12)])), (w 1, .inl (cI, 30, .inl (kA t))), (w 2, .inl (cI, 30, .inl (kA K))), (w 3, .inl (cI, 30, .inl (kZ on))), (w 4, .inl (cI, 30, .inl (kZ ot))), (w 5, .inl (cI, 30, .inl (kZ nu))), (w 8, .inl (cI, 900, .inl (kM G))), (w 9, .inl (cI, 30, .inl (kM F)))]) (q := 7) (a := w 9) (cA := cI) (n := 30) (f := kM F) (g := kM (e30)) hP (kM_ext (fun j hj => by rw [hgo j (by omega)]; exact if_neg (fun h => hk0 h.1)))
          replace hD : va_D A [(w 0, .inr (4, [.ref (w 1), .int (zI ↑n), .ref (w 2), .ref (w 3), .ref (w 4), .ref (w 5), .int (zI ↑np), .ref (w 6), .ref (w 7), .int (zI ↑kn), .ref (w 8), .ref (w 9), .ref (w 10), .int (zI ↑ch), .int (zI le), .ref (w 11), .int (zI sf), .int (zI st), .ref (w 12)])), (w 1, .inl (cI, 30, .inl (kA t))), (w 2, .inl (cI, 30, .inl (kA K))), (w 3, .inl (cI, 30, .inl (kZ on))), (w 4, .inl (cI, 30, .inl (kZ ot))), (w 5, .inl (cI, 30, .inl (kZ nu))), (w 8, .inl (cI, 900, .inl (kM G))), (w 9, .inl (cI, 30, .inl (kM e30)))] := k_D_fst hD (Eq.trans (b := [w 0, w 1, w 2, w 3, w 4, w 5, w 8, w 9]) rfl rfl)
          have h01 := ho1 hk0
          refine lv_iconst (v := zI 0) hx hb d_Mo_find_53 (by decide) ?_
          refine lv_istore_n (lv' := [(2, .int (zI 0)), (0, .ref (w 0)), (1, .int (zI ↑k))]) hx hb d_Mo_find_54 rfl hl (by decide) rfl ?_
          clear hl; intro ls hl
          have loop_55 : ∀ (y : Nat) (i : Nat) (F : Nat → Nat), (i + y = 30) → (∀ j, F j ≤ 30) → (mOuter (K k) (nu k) (fun z => G (30 * o1 + z)) (fun z => G (30 * o2 + z)) y i F = mOuter (K k) (nu k) (fun z => G (30 * o1 + z)) (fun z => G (30 * o2 + z)) 30 0 e30) → ∀ (H : Heap) (locs : List Loc) (ls : Array Slot), va_P D k_cl ([(w 0, .inr (4, [.ref (w 1), .int (zI ↑n), .ref (w 2), .ref (w 3), .ref (w 4), .ref (w 5), .int (zI ↑np), .ref (w 6), .ref (w 7), .int (zI ↑kn), .ref (w 8), .ref (w 9), .ref (w 10), .int (zI ↑ch), .int (zI le), .ref (w 11), .int (zI sf), .int (zI st), .ref (w 12)])), (w 1, .inl (cI, 30, .inl (kA t))), (w 2, .inl (cI, 30, .inl (kA K))), (w 3, .inl (cI, 30, .inl (kZ on))), (w 4, .inl (cI, 30, .inl (kZ ot))), (w 5, .inl (cI, 30, .inl (kZ nu))), (w 8, .inl (cI, 900, .inl (kM G))), (w 9, .inl (cI, 30, .inl (kM F)))]) H → va_D A ([(w 0, .inr (4, [.ref (w 1), .int (zI ↑n), .ref (w 2), .ref (w 3), .ref (w 4), .ref (w 5), .int (zI ↑np), .ref (w 6), .ref (w 7), .int (zI ↑kn), .ref (w 8), .ref (w 9), .ref (w 10), .int (zI ↑ch), .int (zI le), .ref (w 11), .int (zI sf), .int (zI st), .ref (w 12)])), (w 1, .inl (cI, 30, .inl (kA t))), (w 2, .inl (cI, 30, .inl (kA K))), (w 3, .inl (cI, 30, .inl (kZ on))), (w 4, .inl (cI, 30, .inl (kZ ot))), (w 5, .inl (cI, 30, .inl (kZ nu))), (w 8, .inl (cI, 900, .inl (kM G))), (w 9, .inl (cI, 30, .inl (kM F)))]) → va_S A s.heap H locs → lv_has ls 6 [(0, .ref (w 0)), (1, .int (zI ↑k)), (2, .int (zI ↑i))] → W p l ev rm_Mo_find s m ar below meth c H locs 0 0 Qf (F0 m 55 ls []) := by
            intro y
            induction y with
            | zero =>
              intro i F hin2 hF hgo2 H locs ls hP hD hS hl
              refine lv_iload_n hx hb d_Mo_find_55 rfl (lv_at hl 2 rfl) ?_
              refine lv_bipush (v := zI 30) hx hb d_Mo_find_56 (by decide) ?_
              refine k_icmp_ge (tgt := 224) hx hb d_Mo_find_58 (by decide) ⟨by omega, by omega⟩ ⟨by omega, by omega⟩ (fun c_58 => ?_) (fun c_58 => ?_)
              · obtain ⟨U, hU⟩ : ∃ U : Nat → Nat, U = mUnder t (K k) (nu k) nn (fun z => G (30 * o1 + z)) (fun z => G (30 * o2 + z)) := ⟨_, rfl⟩
                have hU2 : F = U := by rw [hU]; exact hgo2.trans (if_neg hk0).symm
                have hUb : ∀ j, j < 30 → U j ≤ 30 := by intro j hj; rw [← hU2]; exact hF j
                rw [hU2] at hP hD
                refine lv_bipush (v := zI 30) hx hb d_Mo_find_224 (by decide) ?_
                refine lv_istore_n (lv' := [(2, .int (zI 30)), (0, .ref (w 0)), (1, .int (zI ↑k))]) hx hb d_Mo_find_226 rfl hl (by decide) rfl ?_
                clear hl; intro ls hl
                refine lv_bipush (v := zI 29) hx hb d_Mo_find_227 (by decide) ?_
                refine lv_istore_n (lv' := [(3, .int (zI 29)), (2, .int (zI 30)), (0, .ref (w 0)), (1, .int (zI ↑k))]) hx hb d_Mo_find_229 rfl hl (by decide) rfl ?_
                clear hl; intro ls hl
                have loop_230 : ∀ (u : Nat) (z : Int) (lst : Nat) (G2 : Nat → Nat), (z = (u : Int) - 1) → (u ≤ 30) → (lst ≤ 30) → (mLast k U u lst G2 = mLast k U 30 30 G) → ∀ (H : Heap) (locs : List Loc) (ls : Array Slot), va_P D k_cl ([(w 0, .inr (4, [.ref (w 1), .int (zI ↑n), .ref (w 2), .ref (w 3), .ref (w 4), .ref (w 5), .int (zI ↑np), .ref (w 6), .ref (w 7), .int (zI ↑kn), .ref (w 8), .ref (w 9), .ref (w 10), .int (zI ↑ch), .int (zI le), .ref (w 11), .int (zI sf), .int (zI st), .ref (w 12)])), (w 1, .inl (cI, 30, .inl (kA t))), (w 2, .inl (cI, 30, .inl (kA K))), (w 3, .inl (cI, 30, .inl (kZ on))), (w 4, .inl (cI, 30, .inl (kZ ot))), (w 5, .inl (cI, 30, .inl (kZ nu))), (w 8, .inl (cI, 900, .inl (kM G2))), (w 9, .inl (cI, 30, .inl (kM U)))]) H → va_D A ([(w 0, .inr (4, [.ref (w 1), .int (zI ↑n), .ref (w 2), .ref (w 3), .ref (w 4), .ref (w 5), .int (zI ↑np), .ref (w 6), .ref (w 7), .int (zI ↑kn), .ref (w 8), .ref (w 9), .ref (w 10), .int (zI ↑ch), .int (zI le), .ref (w 11), .int (zI sf), .int (zI st), .ref (w 12)])), (w 1, .inl (cI, 30, .inl (kA t))), (w 2, .inl (cI, 30, .inl (kA K))), (w 3, .inl (cI, 30, .inl (kZ on))), (w 4, .inl (cI, 30, .inl (kZ ot))), (w 5, .inl (cI, 30, .inl (kZ nu))), (w 8, .inl (cI, 900, .inl (kM G2))), (w 9, .inl (cI, 30, .inl (kM U)))]) → va_S A s.heap H locs → lv_has ls 6 [(0, .ref (w 0)), (1, .int (zI ↑k)), (2, .int (zI ↑lst)), (3, .int (zI z))] → W p l ev rm_Mo_find s m ar below meth c H locs 0 0 Qf (F0 m 230 ls []) := by
                  intro u
                  induction u with
                  | zero =>
                    intro z lst G2 hz hu hls hgo4 H locs ls hP hD hS hl
                    refine lv_iload_n hx hb d_Mo_find_230 rfl (lv_at hl 3 rfl) ?_
                    refine k_if_lt (tgt := 308) hx hb d_Mo_find_231 (by decide) ⟨by omega, by omega⟩ (fun c_231 => ?_) (fun c_231 => ?_)
                    · have e9 : mLast k (mUnder t (K k) (nu k) nn (fun z => G (30 * o1 + z)) (fun z => G (30 * o2 + z))) 30 30 G = G2 := by rw [← hU]; exact hgo4.symm
                      replace hP : va_P D k_cl [(w 0, .inr (4, [.ref (w 1), .int (zI ↑n), .ref (w 2), .ref (w 3), .ref (w 4), .ref (w 5), .int (zI ↑np), .ref (w 6), .ref (w 7), .int (zI ↑kn), .ref (w 8), .ref (w 9), .ref (w 10), .int (zI ↑ch), .int (zI le), .ref (w 11), .int (zI sf), .int (zI st), .ref (w 12)])), (w 1, .inl (cI, 30, .inl (kA t))), (w 2, .inl (cI, 30, .inl (kA K))), (w 3, .inl (cI, 30, .inl (kZ on))), (w 4, .inl (cI, 30, .inl (kZ ot))), (w 5, .inl (cI, 30, .inl (kZ nu))), (w 8, .inl (cI, 900, .inl (kM (mLast k (mUnder t (K k) (nu k) nn (fun z => G (30 * o1 + z)) (fun z => G (30 * o2 + z))) 30 30 G)))), (w 9, .inl (cI, 30, .inl (kM (mUnder t (K k) (nu k) nn (fun z => G (30 * o1 + z)) (fun z => G (30 * o2 + z))))))] H := by rw [e9, ← hU]; exact hP
                      rw [← hQf]
                      exact k_vret hx hb hr hlocks hP hS d_Mo_find_308
                    · exfalso; omega
                  | succ u ih_230 =>
                    intro z lst G2 hz hu hls hgo4 H locs ls hP hD hS hl
                    have hub := hUb u (by omega)
                    refine lv_iload_n hx hb d_Mo_find_230 rfl (lv_at hl 3 rfl) ?_
                    refine k_if_lt (tgt := 308) hx hb d_Mo_find_231 (by decide) ⟨by omega, by omega⟩ (fun c_231 => ?_) (fun c_231 => ?_)
                    · exfalso; omega
                    · refine lv_aload_n hx hb d_Mo_find_234 rfl (lv_at hl 0 rfl) ?_
                      refine va_get (D := D) (ci := 4) (v := .ref (w 9)) (C := R_Mo) (T := T_Mo) (N := 19) hx hb hkw kin_Mo hown hK hP 0 rfl rfl 11 (by decide) (hkw _ kw_fieldLink_Mo_34) (fun _ h9 => h9) rfl d_Mo_find_235 ?_
                      refine lv_iload_n hx hb d_Mo_find_238 rfl (lv_at hl 3 rfl) ?_
                      refine k_aldM hx hb hK hP 7 0 rfl rfl (i := u) (by omega) (by omega) (by omega) d_Mo_find_239 ?_
                      have hm_9 := mz_or (U u)
                      refine k_if_lt (tgt := 257) hx hb d_Mo_find_240 (by decide) ⟨by omega, by omega⟩ (fun c_240 => ?_) (fun c_240 => ?_)
                      · refine lv_iconst (v := zI 0) hx hb d_Mo_find_257 (by decide) ?_
                        refine lv_istore (lv' := [(4, .int (zI 0)), (0, .ref (w 0)), (1, .int (zI ↑k)), (2, .int (zI ↑lst)), (3, .int (zI z))]) hx hb d_Mo_find_258 hl (by decide) rfl ?_
                        clear hl; intro ls hl
                        refine lv_aload_n hx hb d_Mo_find_260 rfl (lv_at hl 1 rfl) ?_
                        refine va_get (D := D) (ci := 4) (v := .ref (w 8)) (C := R_Mo) (T := T_Mo) (N := 19) hx hb hkw kin_Mo hown hK hP 0 rfl rfl 10 (by decide) (hkw _ kw_fieldLink_Mo_31) (fun _ h9 => h9) rfl d_Mo_find_261 ?_
                        refine lv_bipush (v := zI 30) hx hb d_Mo_find_264 (by decide) ?_
                        refine lv_iload_n hx hb d_Mo_find_266 rfl (lv_at hl 2 rfl) ?_
                        refine k_imul (v := ↑(30 * k)) hx hb d_Mo_find_267 (by omega) ?_
                        refine lv_iload_n hx hb d_Mo_find_268 rfl (lv_at hl 4 rfl) ?_
                        refine k_iadd (v := ↑(30 * k + u)) hx hb d_Mo_find_269 (by omega) ?_
                        refine lv_iload hx hb d_Mo_find_270 (lv_at hl 0 rfl) ?_
                        refine k_if_eq (tgt := 284) hx hb d_Mo_find_272 (by decide) ⟨by omega, by omega⟩ (fun c_272 => ?_) (fun c_272 => ?_)
                        · refine lv_iconst (v := zI (-1)) hx hb d_Mo_find_284 (by decide) ?_
                          have hm_10 := mz_or (30)
                          refine k_astM hx hb hK hP hD hS 6 0 rfl rfl (i := (30 * k + u)) (v := 30) (by omega) (by omega) (by omega) (by omega) d_Mo_find_285 ?_
                          clear hP hD hS; intro H locs hP hD hS
                          replace hP : va_P D k_cl ([(w 0, .inr (4, [.ref (w 1), .int (zI ↑n), .ref (w 2), .ref (w 3), .ref (w 4), .ref (w 5), .int (zI ↑np), .ref (w 6), .ref (w 7), .int (zI ↑kn), .ref (w 8), .ref (w 9), .ref (w 10), .int (zI ↑ch), .int (zI le), .ref (w 11), .int (zI sf), .int (zI st), .ref (w 12)])), (w 1, .inl (cI, 30, .inl (kA t))), (w 2, .inl (cI, 30, .inl (kA K))), (w 3, .inl (cI, 30, .inl (kZ on))), (w 4, .inl (cI, 30, .inl (kZ ot))), (w 5, .inl (cI, 30, .inl (kZ nu))), (w 8, .inl (cI, 900, .inl (kM (va_up G2 (30 * k + u) 30)))), (w 9, .inl (cI, 30, .inl (kM U)))]) H := hP
                          replace hD : va_D A ([(w 0, .inr (4, [.ref (w 1), .int (zI ↑n), .ref (w 2), .ref (w 3), .ref (w 4), .ref (w 5), .int (zI ↑np), .ref (w 6), .ref (w 7), .int (zI ↑kn), .ref (w 8), .ref (w 9), .ref (w 10), .int (zI ↑ch), .int (zI le), .ref (w 11), .int (zI sf), .int (zI st), .ref (w 12)])), (w 1, .inl (cI, 30, .inl (kA t))), (w 2, .inl (cI, 30, .inl (kA K))), (w 3, .inl (cI, 30, .inl (kZ on))), (w 4, .inl (cI, 30, .inl (kZ ot))), (w 5, .inl (cI, 30, .inl (kZ nu))), (w 8, .inl (cI, 900, .inl (kM (va_up G2 (30 * k + u) 30)))), (w 9, .inl (cI, 30, .inl (kM U)))]) := hD
                          refine lv_iload hx hb d_Mo_find_286 (lv_at hl 0 rfl) ?_
                          refine k_if_eq (tgt := 300) hx hb d_Mo_find_288 (by decide) ⟨by omega, by omega⟩ (fun c_288 => ?_) (fun c_288 => ?_)
                          · refine lv_iload_n hx hb d_Mo_find_300 rfl (lv_at hl 3 rfl) ?_
                            refine lv_istore_n (lv' := [(2, .int (zI ↑lst)), (4, .int (zI 0)), (0, .ref (w 0)), (1, .int (zI ↑k)), (3, .int (zI z))]) hx hb d_Mo_find_301 rfl hl (by decide) rfl ?_
                            clear hl; intro ls hl
                            refine k_iinc (v := z + (-1)) (lv' := [(3, .int (zI (z + (-1)))), (2, .int (zI ↑lst)), (4, .int (zI 0)), (0, .ref (w 0)), (1, .int (zI ↑k))]) hx hb d_Mo_find_302 hl (k := 4) rfl (by omega) (by decide) rfl ?_
                            clear hl; intro ls hl
                            refine lv_goto (tgt := 230) hx hb d_Mo_find_305 (by decide) ?_
                            exact ih_230 (z + (-1)) lst (va_up G2 (30 * k + u) 30) (by omega) (by omega) (by omega) (by rw [mLast] at hgo4; (repeat' split at hgo4); all_goals first | exact hgo4 | (exfalso; omega)) _ _ _ hP hD hS (lv_sub hl [3, 4, 1, 0] rfl)
                          · exfalso; omega
                        · exfalso; omega
                      · refine lv_aload_n hx hb d_Mo_find_243 rfl (lv_at hl 0 rfl) ?_
                        refine va_get (D := D) (ci := 4) (v := .ref (w 9)) (C := R_Mo) (T := T_Mo) (N := 19) hx hb hkw kin_Mo hown hK hP 0 rfl rfl 11 (by decide) (hkw _ kw_fieldLink_Mo_34) (fun _ h9 => h9) rfl d_Mo_find_244 ?_
                        refine lv_iload_n hx hb d_Mo_find_247 rfl (lv_at hl 3 rfl) ?_
                        refine k_aldM hx hb hK hP 7 0 rfl rfl (i := u) (by omega) (by omega) (by omega) d_Mo_find_248 ?_
                        have hm_11 := mz_or (U u)
                        refine lv_iload_n hx hb d_Mo_find_249 rfl (lv_at hl 2 rfl) ?_
                        refine k_icmp_ge (tgt := 257) hx hb d_Mo_find_250 (by decide) ⟨by omega, by omega⟩ ⟨by omega, by omega⟩ (fun c_250 => ?_) (fun c_250 => ?_)
                        · refine lv_iconst (v := zI 0) hx hb d_Mo_find_257 (by decide) ?_
                          refine lv_istore (lv' := [(4, .int (zI 0)), (0, .ref (w 0)), (1, .int (zI ↑k)), (2, .int (zI ↑lst)), (3, .int (zI z))]) hx hb d_Mo_find_258 hl (by decide) rfl ?_
                          clear hl; intro ls hl
                          refine lv_aload_n hx hb d_Mo_find_260 rfl (lv_at hl 1 rfl) ?_
                          refine va_get (D := D) (ci := 4) (v := .ref (w 8)) (C := R_Mo) (T := T_Mo) (N := 19) hx hb hkw kin_Mo hown hK hP 0 rfl rfl 10 (by decide) (hkw _ kw_fieldLink_Mo_31) (fun _ h9 => h9) rfl d_Mo_find_261 ?_
                          refine lv_bipush (v := zI 30) hx hb d_Mo_find_264 (by decide) ?_
                          refine lv_iload_n hx hb d_Mo_find_266 rfl (lv_at hl 2 rfl) ?_
                          refine k_imul (v := ↑(30 * k)) hx hb d_Mo_find_267 (by omega) ?_
                          refine lv_iload_n hx hb d_Mo_find_268 rfl (lv_at hl 4 rfl) ?_
                          refine k_iadd (v := ↑(30 * k + u)) hx hb d_Mo_find_269 (by omega) ?_
                          refine lv_iload hx hb d_Mo_find_270 (lv_at hl 0 rfl) ?_
                          refine k_if_eq (tgt := 284) hx hb d_Mo_find_272 (by decide) ⟨by omega, by omega⟩ (fun c_272 => ?_) (fun c_272 => ?_)
                          · refine lv_iconst (v := zI (-1)) hx hb d_Mo_find_284 (by decide) ?_
                            have hm_12 := mz_or (30)
                            refine k_astM hx hb hK hP hD hS 6 0 rfl rfl (i := (30 * k + u)) (v := 30) (by omega) (by omega) (by omega) (by omega) d_Mo_find_285 ?_
                            clear hP hD hS; intro H locs hP hD hS
                            replace hP : va_P D k_cl ([(w 0, .inr (4, [.ref (w 1), .int (zI ↑n), .ref (w 2), .ref (w 3), .ref (w 4), .ref (w 5), .int (zI ↑np), .ref (w 6), .ref (w 7), .int (zI ↑kn), .ref (w 8), .ref (w 9), .ref (w 10), .int (zI ↑ch), .int (zI le), .ref (w 11), .int (zI sf), .int (zI st), .ref (w 12)])), (w 1, .inl (cI, 30, .inl (kA t))), (w 2, .inl (cI, 30, .inl (kA K))), (w 3, .inl (cI, 30, .inl (kZ on))), (w 4, .inl (cI, 30, .inl (kZ ot))), (w 5, .inl (cI, 30, .inl (kZ nu))), (w 8, .inl (cI, 900, .inl (kM (va_up G2 (30 * k + u) 30)))), (w 9, .inl (cI, 30, .inl (kM U)))]) H := hP
                            replace hD : va_D A ([(w 0, .inr (4, [.ref (w 1), .int (zI ↑n), .ref (w 2), .ref (w 3), .ref (w 4), .ref (w 5), .int (zI ↑np), .ref (w 6), .ref (w 7), .int (zI ↑kn), .ref (w 8), .ref (w 9), .ref (w 10), .int (zI ↑ch), .int (zI le), .ref (w 11), .int (zI sf), .int (zI st), .ref (w 12)])), (w 1, .inl (cI, 30, .inl (kA t))), (w 2, .inl (cI, 30, .inl (kA K))), (w 3, .inl (cI, 30, .inl (kZ on))), (w 4, .inl (cI, 30, .inl (kZ ot))), (w 5, .inl (cI, 30, .inl (kZ nu))), (w 8, .inl (cI, 900, .inl (kM (va_up G2 (30 * k + u) 30)))), (w 9, .inl (cI, 30, .inl (kM U)))]) := hD
                            refine lv_iload hx hb d_Mo_find_286 (lv_at hl 0 rfl) ?_
                            refine k_if_eq (tgt := 300) hx hb d_Mo_find_288 (by decide) ⟨by omega, by omega⟩ (fun c_288 => ?_) (fun c_288 => ?_)
                            · refine lv_iload_n hx hb d_Mo_find_300 rfl (lv_at hl 3 rfl) ?_
                              refine lv_istore_n (lv' := [(2, .int (zI ↑lst)), (4, .int (zI 0)), (0, .ref (w 0)), (1, .int (zI ↑k)), (3, .int (zI z))]) hx hb d_Mo_find_301 rfl hl (by decide) rfl ?_
                              clear hl; intro ls hl
                              refine k_iinc (v := z + (-1)) (lv' := [(3, .int (zI (z + (-1)))), (2, .int (zI ↑lst)), (4, .int (zI 0)), (0, .ref (w 0)), (1, .int (zI ↑k))]) hx hb d_Mo_find_302 hl (k := 4) rfl (by omega) (by decide) rfl ?_
                              clear hl; intro ls hl
                              refine lv_goto (tgt := 230) hx hb d_Mo_find_305 (by decide) ?_
                              exact ih_230 (z + (-1)) lst (va_up G2 (30 * k + u) 30) (by omega) (by omega) (by omega) (by rw [mLast] at hgo4; (repeat' split at hgo4); all_goals first | exact hgo4 | (exfalso; omega)) _ _ _ hP hD hS (lv_sub hl [3, 4, 1, 0] rfl)
                            · exfalso; omega
                          · exfalso; omega
                        · refine lv_iconst (v := zI 1) hx hb d_Mo_find_253 (by decide) ?_
                          refine lv_goto (tgt := 258) hx hb d_Mo_find_254 (by decide) ?_
                          refine lv_istore (lv' := [(4, .int (zI 1)), (0, .ref (w 0)), (1, .int (zI ↑k)), (2, .int (zI ↑lst)), (3, .int (zI z))]) hx hb d_Mo_find_258 hl (by decide) rfl ?_
                          clear hl; intro ls hl
                          refine lv_aload_n hx hb d_Mo_find_260 rfl (lv_at hl 1 rfl) ?_
                          refine va_get (D := D) (ci := 4) (v := .ref (w 8)) (C := R_Mo) (T := T_Mo) (N := 19) hx hb hkw kin_Mo hown hK hP 0 rfl rfl 10 (by decide) (hkw _ kw_fieldLink_Mo_31) (fun _ h9 => h9) rfl d_Mo_find_261 ?_
                          refine lv_bipush (v := zI 30) hx hb d_Mo_find_264 (by decide) ?_
                          refine lv_iload_n hx hb d_Mo_find_266 rfl (lv_at hl 2 rfl) ?_
                          refine k_imul (v := ↑(30 * k)) hx hb d_Mo_find_267 (by omega) ?_
                          refine lv_iload_n hx hb d_Mo_find_268 rfl (lv_at hl 4 rfl) ?_
                          refine k_iadd (v := ↑(30 * k + u)) hx hb d_Mo_find_269 (by omega) ?_
                          refine lv_iload hx hb d_Mo_find_270 (lv_at hl 0 rfl) ?_
                          refine k_if_eq (tgt := 284) hx hb d_Mo_find_272 (by decide) ⟨by omega, by omega⟩ (fun c_272 => ?_) (fun c_272 => ?_)
                          · exfalso; omega
                          · refine lv_aload_n hx hb d_Mo_find_275 rfl (lv_at hl 1 rfl) ?_
                            refine va_get (D := D) (ci := 4) (v := .ref (w 9)) (C := R_Mo) (T := T_Mo) (N := 19) hx hb hkw kin_Mo hown hK hP 0 rfl rfl 11 (by decide) (hkw _ kw_fieldLink_Mo_34) (fun _ h9 => h9) rfl d_Mo_find_276 ?_
                            refine lv_iload_n hx hb d_Mo_find_279 rfl (lv_at hl 4 rfl) ?_
                            refine k_aldM hx hb hK hP 7 0 rfl rfl (i := u) (by omega) (by omega) (by omega) d_Mo_find_280 ?_
                            have hm_13 := mz_or (U u)
                            refine lv_goto (tgt := 285) hx hb d_Mo_find_281 (by decide) ?_
                            have hm_14 := mz_or (U u)
                            refine k_astM hx hb hK hP hD hS 6 0 rfl rfl (i := (30 * k + u)) (v := U u) (by omega) (by omega) (by omega) (by omega) d_Mo_find_285 ?_
                            clear hP hD hS; intro H locs hP hD hS
                            replace hP : va_P D k_cl ([(w 0, .inr (4, [.ref (w 1), .int (zI ↑n), .ref (w 2), .ref (w 3), .ref (w 4), .ref (w 5), .int (zI ↑np), .ref (w 6), .ref (w 7), .int (zI ↑kn), .ref (w 8), .ref (w 9), .ref (w 10), .int (zI ↑ch), .int (zI le), .ref (w 11), .int (zI sf), .int (zI st), .ref (w 12)])), (w 1, .inl (cI, 30, .inl (kA t))), (w 2, .inl (cI, 30, .inl (kA K))), (w 3, .inl (cI, 30, .inl (kZ on))), (w 4, .inl (cI, 30, .inl (kZ ot))), (w 5, .inl (cI, 30, .inl (kZ nu))), (w 8, .inl (cI, 900, .inl (kM (va_up G2 (30 * k + u) (U u))))), (w 9, .inl (cI, 30, .inl (kM U)))]) H := hP
                            replace hD : va_D A ([(w 0, .inr (4, [.ref (w 1), .int (zI ↑n), .ref (w 2), .ref (w 3), .ref (w 4), .ref (w 5), .int (zI ↑np), .ref (w 6), .ref (w 7), .int (zI ↑kn), .ref (w 8), .ref (w 9), .ref (w 10), .int (zI ↑ch), .int (zI le), .ref (w 11), .int (zI sf), .int (zI st), .ref (w 12)])), (w 1, .inl (cI, 30, .inl (kA t))), (w 2, .inl (cI, 30, .inl (kA K))), (w 3, .inl (cI, 30, .inl (kZ on))), (w 4, .inl (cI, 30, .inl (kZ ot))), (w 5, .inl (cI, 30, .inl (kZ nu))), (w 8, .inl (cI, 900, .inl (kM (va_up G2 (30 * k + u) (U u))))), (w 9, .inl (cI, 30, .inl (kM U)))]) := hD
                            refine lv_iload hx hb d_Mo_find_286 (lv_at hl 0 rfl) ?_
                            refine k_if_eq (tgt := 300) hx hb d_Mo_find_288 (by decide) ⟨by omega, by omega⟩ (fun c_288 => ?_) (fun c_288 => ?_)
                            · exfalso; omega
                            · refine lv_aload_n hx hb d_Mo_find_291 rfl (lv_at hl 1 rfl) ?_
                              refine va_get (D := D) (ci := 4) (v := .ref (w 9)) (C := R_Mo) (T := T_Mo) (N := 19) hx hb hkw kin_Mo hown hK hP 0 rfl rfl 11 (by decide) (hkw _ kw_fieldLink_Mo_34) (fun _ h9 => h9) rfl d_Mo_find_292 ?_
                              refine lv_iload_n hx hb d_Mo_find_295 rfl (lv_at hl 4 rfl) ?_
                              refine k_aldM hx hb hK hP 7 0 rfl rfl (i := u) (by omega) (by omega) (by omega) d_Mo_find_296 ?_
                              have hm_15 := mz_or (U u)
                              refine lv_goto (tgt := 301) hx hb d_Mo_find_297 (by decide) ?_
                              refine k_stk (st2 := [.int (zI (↑(U u)))]) (by rw [show (mz (U u) : Int) = ↑(U u) from by omega]) ?_
                              refine lv_istore_n (lv' := [(2, .int (zI (↑(U u)))), (4, .int (zI 1)), (0, .ref (w 0)), (1, .int (zI ↑k)), (3, .int (zI z))]) hx hb d_Mo_find_301 rfl hl (by decide) rfl ?_
                              clear hl; intro ls hl
                              refine k_iinc (v := z + (-1)) (lv' := [(3, .int (zI (z + (-1)))), (2, .int (zI (↑(U u)))), (4, .int (zI 1)), (0, .ref (w 0)), (1, .int (zI ↑k))]) hx hb d_Mo_find_302 hl (k := 4) rfl (by omega) (by decide) rfl ?_
                              clear hl; intro ls hl
                              refine lv_goto (tgt := 230) hx hb d_Mo_find_305 (by decide) ?_
                              exact ih_230 (z + (-1)) (U u) (va_up G2 (30 * k + u) (U u)) (by omega) (by omega) (by omega) (by rw [mLast] at hgo4; (repeat' split at hgo4); all_goals first | exact hgo4 | (exfalso; omega)) _ _ _ hP hD hS (lv_sub hl [3, 4, 1, 0] rfl)
                exact loop_230 30 29 30 G (by omega) (by omega) (by omega) rfl _ _ _ hP hD hS (lv_sub hl [2, 3, 1, 0] rfl)
              · exfalso; omega
            | succ y ih_55 =>
              intro i F hin2 hF hgo2 H locs ls hP hD hS hl
              have hb1 := hG0 (30 * o1 + i)
              refine lv_iload_n hx hb d_Mo_find_55 rfl (lv_at hl 2 rfl) ?_
              refine lv_bipush (v := zI 30) hx hb d_Mo_find_56 (by decide) ?_
              refine k_icmp_ge (tgt := 224) hx hb d_Mo_find_58 (by decide) ⟨by omega, by omega⟩ ⟨by omega, by omega⟩ (fun c_58 => ?_) (fun c_58 => ?_)
              · exfalso; omega
              · refine lv_aload_n hx hb d_Mo_find_61 rfl (lv_at hl 0 rfl) ?_
                refine va_get (D := D) (ci := 4) (v := .ref (w 2)) (C := R_Mo) (T := T_Mo) (N := 19) hx hb hkw kin_Mo hown hK hP 0 rfl rfl 2 (by decide) (hkw _ kw_fieldLink_Mo_13) (fun _ h9 => h9) rfl d_Mo_find_62 ?_
                refine lv_iload_n hx hb d_Mo_find_65 rfl (lv_at hl 1 rfl) ?_
                refine k_ald hx hb hK hP 2 0 rfl rfl (i := k) (by omega) (by omega) (by omega) d_Mo_find_66 ?_
                have hv_16 := hK0 k
                refine k_if_le (tgt := 224) hx hb d_Mo_find_67 (by decide) ⟨by omega, by omega⟩ (fun c_67 => ?_) (fun c_67 => ?_)
                · exfalso; omega
                · refine lv_aload_n hx hb d_Mo_find_70 rfl (lv_at hl 0 rfl) ?_
                  refine va_get (D := D) (ci := 4) (v := .ref (w 8)) (C := R_Mo) (T := T_Mo) (N := 19) hx hb hkw kin_Mo hown hK hP 0 rfl rfl 10 (by decide) (hkw _ kw_fieldLink_Mo_31) (fun _ h9 => h9) rfl d_Mo_find_71 ?_
                  refine lv_bipush (v := zI 30) hx hb d_Mo_find_74 (by decide) ?_
                  refine lv_aload_n hx hb d_Mo_find_76 rfl (lv_at hl 0 rfl) ?_
                  refine va_get (D := D) (ci := 4) (v := .ref (w 3)) (C := R_Mo) (T := T_Mo) (N := 19) hx hb hkw kin_Mo hown hK hP 0 rfl rfl 3 (by decide) (hkw _ kw_fieldLink_Mo_16) (fun _ h9 => h9) rfl d_Mo_find_77 ?_
                  refine lv_iload_n hx hb d_Mo_find_80 rfl (lv_at hl 1 rfl) ?_
                  refine k_aldZ hx hb hK hP 3 0 rfl rfl (i := k) (by omega) (by omega) (by omega) d_Mo_find_81 ?_
                  refine k_imul (v := ↑(30 * o1)) hx hb d_Mo_find_82 (by omega) ?_
                  refine lv_iload_n hx hb d_Mo_find_83 rfl (lv_at hl 2 rfl) ?_
                  refine k_iadd (v := ↑(30 * o1 + i)) hx hb d_Mo_find_84 (by omega) ?_
                  refine k_aldM hx hb hK hP 6 0 rfl rfl (i := (30 * o1 + i)) (by omega) (by omega) (by omega) d_Mo_find_85 ?_
                  have hv_17 := hG0 (30 * o1 + i)
                  have hm_18 := mz_or (G (30 * o1 + i))
                  refine lv_istore_n (lv' := [(3, .int (zI (mz (G (30 * o1 + i))))), (0, .ref (w 0)), (1, .int (zI ↑k)), (2, .int (zI ↑i))]) hx hb d_Mo_find_86 rfl hl (by decide) rfl ?_
                  clear hl; intro ls hl
                  have join_98 : ∀ (F1 : Nat → Nat), (∀ j, F1 j ≤ 30) → (F1 = if G (30 * o1 + i) ≠ 30 then mAlone (K k) (nu k) (fun z => G (30 * o2 + z)) F i (G (30 * o1 + i)) else F) → ∀ (H : Heap) (locs : List Loc) (ls : Array Slot), va_P D k_cl ([(w 0, .inr (4, [.ref (w 1), .int (zI ↑n), .ref (w 2), .ref (w 3), .ref (w 4), .ref (w 5), .int (zI ↑np), .ref (w 6), .ref (w 7), .int (zI ↑kn), .ref (w 8), .ref (w 9), .ref (w 10), .int (zI ↑ch), .int (zI le), .ref (w 11), .int (zI sf), .int (zI st), .ref (w 12)])), (w 1, .inl (cI, 30, .inl (kA t))), (w 2, .inl (cI, 30, .inl (kA K))), (w 3, .inl (cI, 30, .inl (kZ on))), (w 4, .inl (cI, 30, .inl (kZ ot))), (w 5, .inl (cI, 30, .inl (kZ nu))), (w 8, .inl (cI, 900, .inl (kM G))), (w 9, .inl (cI, 30, .inl (kM F1)))]) H → va_D A ([(w 0, .inr (4, [.ref (w 1), .int (zI ↑n), .ref (w 2), .ref (w 3), .ref (w 4), .ref (w 5), .int (zI ↑np), .ref (w 6), .ref (w 7), .int (zI ↑kn), .ref (w 8), .ref (w 9), .ref (w 10), .int (zI ↑ch), .int (zI le), .ref (w 11), .int (zI sf), .int (zI st), .ref (w 12)])), (w 1, .inl (cI, 30, .inl (kA t))), (w 2, .inl (cI, 30, .inl (kA K))), (w 3, .inl (cI, 30, .inl (kZ on))), (w 4, .inl (cI, 30, .inl (kZ ot))), (w 5, .inl (cI, 30, .inl (kZ nu))), (w 8, .inl (cI, 900, .inl (kM G))), (w 9, .inl (cI, 30, .inl (kM F1)))]) → va_S A s.heap H locs → lv_has ls 6 [(0, .ref (w 0)), (1, .int (zI ↑k)), (2, .int (zI ↑i)), (3, .int (zI (mz (G (30 * o1 + i)))))] → W p l ev rm_Mo_find s m ar below meth c H locs 0 0 Qf (F0 m 98 ls []) := by
                    intro F1 hF1 e1 H locs ls hP hD hS hl
                    have hm98 := mz_or (G (30 * o1 + i))
                    refine lv_iconst (v := zI 0) hx hb d_Mo_find_98 (by decide) ?_
                    refine lv_istore (lv' := [(4, .int (zI 0)), (0, .ref (w 0)), (1, .int (zI ↑k)), (2, .int (zI ↑i)), (3, .int (zI (mz (G (30 * o1 + i)))))]) hx hb d_Mo_find_99 hl (by decide) rfl ?_
                    clear hl; intro ls hl
                    have join_174 : ∀ (F3 : Nat → Nat), (∀ j, F3 j ≤ 30) → (F3 = if K k < 8 ∧ 1 < K k then mInner (K k) (nu k) (fun z => G (30 * o2 + z)) i (G (30 * o1 + i)) 30 0 F1 else F1) → ∀ (H : Heap) (locs : List Loc) (ls : Array Slot), va_P D k_cl ([(w 0, .inr (4, [.ref (w 1), .int (zI ↑n), .ref (w 2), .ref (w 3), .ref (w 4), .ref (w 5), .int (zI ↑np), .ref (w 6), .ref (w 7), .int (zI ↑kn), .ref (w 8), .ref (w 9), .ref (w 10), .int (zI ↑ch), .int (zI le), .ref (w 11), .int (zI sf), .int (zI st), .ref (w 12)])), (w 1, .inl (cI, 30, .inl (kA t))), (w 2, .inl (cI, 30, .inl (kA K))), (w 3, .inl (cI, 30, .inl (kZ on))), (w 4, .inl (cI, 30, .inl (kZ ot))), (w 5, .inl (cI, 30, .inl (kZ nu))), (w 8, .inl (cI, 900, .inl (kM G))), (w 9, .inl (cI, 30, .inl (kM F3)))]) H → va_D A ([(w 0, .inr (4, [.ref (w 1), .int (zI ↑n), .ref (w 2), .ref (w 3), .ref (w 4), .ref (w 5), .int (zI ↑np), .ref (w 6), .ref (w 7), .int (zI ↑kn), .ref (w 8), .ref (w 9), .ref (w 10), .int (zI ↑ch), .int (zI le), .ref (w 11), .int (zI sf), .int (zI st), .ref (w 12)])), (w 1, .inl (cI, 30, .inl (kA t))), (w 2, .inl (cI, 30, .inl (kA K))), (w 3, .inl (cI, 30, .inl (kZ on))), (w 4, .inl (cI, 30, .inl (kZ ot))), (w 5, .inl (cI, 30, .inl (kZ nu))), (w 8, .inl (cI, 900, .inl (kM G))), (w 9, .inl (cI, 30, .inl (kM F3)))]) → va_S A s.heap H locs → lv_has ls 6 [(0, .ref (w 0)), (1, .int (zI ↑k)), (2, .int (zI ↑i))] → W p l ev rm_Mo_find s m ar below meth c H locs 0 0 Qf (F0 m 174 ls []) := by
                      intro F3 hF3 e3 H locs ls hP hD hS hl
                      refine lv_aload_n hx hb d_Mo_find_174 rfl (lv_at hl 0 rfl) ?_
                      refine va_get (D := D) (ci := 4) (v := .ref (w 2)) (C := R_Mo) (T := T_Mo) (N := 19) hx hb hkw kin_Mo hown hK hP 0 rfl rfl 2 (by decide) (hkw _ kw_fieldLink_Mo_13) (fun _ h9 => h9) rfl d_Mo_find_175 ?_
                      refine lv_iload_n hx hb d_Mo_find_178 rfl (lv_at hl 1 rfl) ?_
                      refine k_ald hx hb hK hP 2 0 rfl rfl (i := k) (by omega) (by omega) (by omega) d_Mo_find_179 ?_
                      have hv_19 := hK0 k
                      refine lv_iconst (v := zI 1) hx hb d_Mo_find_180 (by decide) ?_
                      refine k_icmp_ne (tgt := 203) hx hb d_Mo_find_181 (by decide) ⟨by omega, by omega⟩ ⟨by omega, by omega⟩ (fun c_181 => ?_) (fun c_181 => ?_)
                      · refine lv_iconst (v := zI (-1)) hx hb d_Mo_find_203 (by decide) ?_
                        refine lv_istore (lv' := [(4, .int (zI (-1))), (0, .ref (w 0)), (1, .int (zI ↑k)), (2, .int (zI ↑i))]) hx hb d_Mo_find_204 hl (by decide) rfl ?_
                        clear hl; intro ls hl
                        refine lv_iload hx hb d_Mo_find_206 (lv_at hl 0 rfl) ?_
                        refine k_if_lt (tgt := 218) hx hb d_Mo_find_208 (by decide) ⟨by omega, by omega⟩ (fun c_208 => ?_) (fun c_208 => ?_)
                        · refine k_iinc (v := ↑(i + 1)) (lv' := [(2, .int (zI (↑(i + 1)))), (4, .int (zI (-1))), (0, .ref (w 0)), (1, .int (zI ↑k))]) hx hb d_Mo_find_218 hl (k := 3) rfl (by omega) (by decide) rfl ?_
                          clear hl; intro ls hl
                          refine lv_goto (tgt := 55) hx hb d_Mo_find_221 (by decide) ?_
                          exact ih_55 (i + 1) F3 (by omega) hF3 (by rw [mOuter, mRow_no (a := fun z => G (30 * o1 + z)) (b := fun z => G (30 * o2 + z)) e1 e3 (show ¬ (K k = 1 ∧ G (30 * o2 + i) ≠ 30) from by omega)] at hgo2; exact hgo2) _ _ _ hP hD hS (lv_sub hl [2, 3, 0] rfl)
                        · exfalso; omega
                      · have h02 := ho2 (by omega)
                        have hb3 := hG0 (30 * o2 + i)
                        refine lv_aload_n hx hb d_Mo_find_184 rfl (lv_at hl 0 rfl) ?_
                        refine va_get (D := D) (ci := 4) (v := .ref (w 8)) (C := R_Mo) (T := T_Mo) (N := 19) hx hb hkw kin_Mo hown hK hP 0 rfl rfl 10 (by decide) (hkw _ kw_fieldLink_Mo_31) (fun _ h9 => h9) rfl d_Mo_find_185 ?_
                        refine lv_bipush (v := zI 30) hx hb d_Mo_find_188 (by decide) ?_
                        refine lv_aload_n hx hb d_Mo_find_190 rfl (lv_at hl 0 rfl) ?_
                        refine va_get (D := D) (ci := 4) (v := .ref (w 4)) (C := R_Mo) (T := T_Mo) (N := 19) hx hb hkw kin_Mo hown hK hP 0 rfl rfl 4 (by decide) (hkw _ kw_fieldLink_Mo_19) (fun _ h9 => h9) rfl d_Mo_find_191 ?_
                        refine lv_iload_n hx hb d_Mo_find_194 rfl (lv_at hl 1 rfl) ?_
                        refine k_aldZ hx hb hK hP 4 0 rfl rfl (i := k) (by omega) (by omega) (by omega) d_Mo_find_195 ?_
                        refine k_imul (v := ↑(30 * o2)) hx hb d_Mo_find_196 (by omega) ?_
                        refine lv_iload_n hx hb d_Mo_find_197 rfl (lv_at hl 2 rfl) ?_
                        refine k_iadd (v := ↑(30 * o2 + i)) hx hb d_Mo_find_198 (by omega) ?_
                        refine k_aldM hx hb hK hP 6 0 rfl rfl (i := (30 * o2 + i)) (by omega) (by omega) (by omega) d_Mo_find_199 ?_
                        have hv_20 := hG0 (30 * o2 + i)
                        have hm_21 := mz_or (G (30 * o2 + i))
                        refine lv_goto (tgt := 204) hx hb d_Mo_find_200 (by decide) ?_
                        refine lv_istore (lv' := [(4, .int (zI (mz (G (30 * o2 + i))))), (0, .ref (w 0)), (1, .int (zI ↑k)), (2, .int (zI ↑i))]) hx hb d_Mo_find_204 hl (by decide) rfl ?_
                        clear hl; intro ls hl
                        refine lv_iload hx hb d_Mo_find_206 (lv_at hl 0 rfl) ?_
                        refine k_if_lt (tgt := 218) hx hb d_Mo_find_208 (by decide) ⟨by omega, by omega⟩ (fun c_208 => ?_) (fun c_208 => ?_)
                        · refine k_iinc (v := ↑(i + 1)) (lv' := [(2, .int (zI (↑(i + 1)))), (4, .int (zI (mz (G (30 * o2 + i))))), (0, .ref (w 0)), (1, .int (zI ↑k))]) hx hb d_Mo_find_218 hl (k := 3) rfl (by omega) (by decide) rfl ?_
                          clear hl; intro ls hl
                          refine lv_goto (tgt := 55) hx hb d_Mo_find_221 (by decide) ?_
                          exact ih_55 (i + 1) F3 (by omega) hF3 (by rw [mOuter, mRow_no (a := fun z => G (30 * o1 + z)) (b := fun z => G (30 * o2 + z)) e1 e3 (show ¬ (K k = 1 ∧ G (30 * o2 + i) ≠ 30) from by omega)] at hgo2; exact hgo2) _ _ _ hP hD hS (lv_sub hl [2, 3, 0] rfl)
                        · refine lv_aload_n hx hb d_Mo_find_211 rfl (lv_at hl 1 rfl) ?_
                          refine lv_iload_n hx hb d_Mo_find_212 rfl (lv_at hl 3 rfl) ?_
                          refine lv_iload hx hb d_Mo_find_213 (lv_at hl 0 rfl) ?_
                          refine k_stk (st2 := [.int (zI (↑(G (30 * o2 + i)))), .int (zI ↑i), .ref (w 0)]) (by rw [show (mz (G (30 * o2 + i)) : Int) = ↑(G (30 * o2 + i)) from by omega]) ?_
                          refine k_beV (va_runV (As := [.int (zI ↑i), .int (zI (↑(G (30 * o2 + i))))]) (rest := []) ⟨hx, hb, hml, hown, hkw⟩ (c_Mo_comes l D cI cR cG w n np kn ch le sf st i (G (30 * o2 + i)) F3 (by omega) (by omega) hF3 _) (cwV 2 hkw (k_gV kw_methodLink_Mo_64 kw_instanceMethod_Mo_comes kw_selects_Mo_comes kw_initialized_Mo kw_code_Mo_comes) rfl rfl rfl (by decide +kernel) ⟨(Nat.le_of_ble_eq_true rfl), (Nat.le_of_ble_eq_true rfl)⟩) (k_preV (q0 := 0) hK hG hP hD [0, 7] rfl rfl rfl rfl) rfl rfl hl.1 rfl (lv_room (Nat.le_of_ble_eq_true rfl)) d_Mo_find_215 ⟨Nat.zero_le _, Nat.zero_le _⟩) hP hD hS hA [0, 7] rfl (Eq.trans (b := [w 0, w 9]) rfl rfl) ?_
                          clear hP hD hS; intro H locs hP hD hS
                          replace hP : va_P D k_cl ([(w 0, .inr (4, [.ref (w 1), .int (zI ↑n), .ref (w 2), .ref (w 3), .ref (w 4), .ref (w 5), .int (zI ↑np), .ref (w 6), .ref (w 7), .int (zI ↑kn), .ref (w 8), .ref (w 9), .ref (w 10), .int (zI ↑ch), .int (zI le), .ref (w 11), .int (zI sf), .int (zI st), .ref (w 12)])), (w 1, .inl (cI, 30, .inl (kA t))), (w 2, .inl (cI, 30, .inl (kA K))), (w 3, .inl (cI, 30, .inl (kZ on))), (w 4, .inl (cI, 30, .inl (kZ ot))), (w 5, .inl (cI, 30, .inl (kZ nu))), (w 8, .inl (cI, 900, .inl (kM G))), (w 9, .inl (cI, 30, .inl (kM (rAdd F3 i (G (30 * o2 + i))))))]) H := hP
                          replace hD : va_D A ([(w 0, .inr (4, [.ref (w 1), .int (zI ↑n), .ref (w 2), .ref (w 3), .ref (w 4), .ref (w 5), .int (zI ↑np), .ref (w 6), .ref (w 7), .int (zI ↑kn), .ref (w 8), .ref (w 9), .ref (w 10), .int (zI ↑ch), .int (zI le), .ref (w 11), .int (zI sf), .int (zI st), .ref (w 12)])), (w 1, .inl (cI, 30, .inl (kA t))), (w 2, .inl (cI, 30, .inl (kA K))), (w 3, .inl (cI, 30, .inl (kZ on))), (w 4, .inl (cI, 30, .inl (kZ ot))), (w 5, .inl (cI, 30, .inl (kZ nu))), (w 8, .inl (cI, 900, .inl (kM G))), (w 9, .inl (cI, 30, .inl (kM (rAdd F3 i (G (30 * o2 + i))))))]) := hD
                          refine k_iinc (v := ↑(i + 1)) (lv' := [(2, .int (zI (↑(i + 1)))), (4, .int (zI (mz (G (30 * o2 + i))))), (0, .ref (w 0)), (1, .int (zI ↑k))]) hx hb d_Mo_find_218 hl (k := 3) rfl (by omega) (by decide) rfl ?_
                          clear hl; intro ls hl
                          refine lv_goto (tgt := 55) hx hb d_Mo_find_221 (by decide) ?_
                          exact ih_55 (i + 1) (rAdd F3 i (G (30 * o2 + i))) (by omega) (rAdd_le hF3 (by omega)) (by rw [mOuter, mRow_yes (a := fun z => G (30 * o1 + z)) (b := fun z => G (30 * o2 + z)) e1 e3 (show K k = 1 ∧ G (30 * o2 + i) ≠ 30 from by omega)] at hgo2; exact hgo2) _ _ _ hP hD hS (lv_sub hl [2, 3, 0] rfl)
                    by_cases h7 : K k < 8 ∧ 1 < K k
                    · have h02 := ho2 (by omega)
                      have loop_101 : ∀ (y2 : Nat) (x : Nat) (F2 : Nat → Nat), (x + y2 = 30) → (∀ j, F2 j ≤ 30) → (mInner (K k) (nu k) (fun z => G (30 * o2 + z)) i (G (30 * o1 + i)) y2 x F2 = mInner (K k) (nu k) (fun z => G (30 * o2 + z)) i (G (30 * o1 + i)) 30 0 F1) → ∀ (H : Heap) (locs : List Loc) (ls : Array Slot), va_P D k_cl ([(w 0, .inr (4, [.ref (w 1), .int (zI ↑n), .ref (w 2), .ref (w 3), .ref (w 4), .ref (w 5), .int (zI ↑np), .ref (w 6), .ref (w 7), .int (zI ↑kn), .ref (w 8), .ref (w 9), .ref (w 10), .int (zI ↑ch), .int (zI le), .ref (w 11), .int (zI sf), .int (zI st), .ref (w 12)])), (w 1, .inl (cI, 30, .inl (kA t))), (w 2, .inl (cI, 30, .inl (kA K))), (w 3, .inl (cI, 30, .inl (kZ on))), (w 4, .inl (cI, 30, .inl (kZ ot))), (w 5, .inl (cI, 30, .inl (kZ nu))), (w 8, .inl (cI, 900, .inl (kM G))), (w 9, .inl (cI, 30, .inl (kM F2)))]) H → va_D A ([(w 0, .inr (4, [.ref (w 1), .int (zI ↑n), .ref (w 2), .ref (w 3), .ref (w 4), .ref (w 5), .int (zI ↑np), .ref (w 6), .ref (w 7), .int (zI ↑kn), .ref (w 8), .ref (w 9), .ref (w 10), .int (zI ↑ch), .int (zI le), .ref (w 11), .int (zI sf), .int (zI st), .ref (w 12)])), (w 1, .inl (cI, 30, .inl (kA t))), (w 2, .inl (cI, 30, .inl (kA K))), (w 3, .inl (cI, 30, .inl (kZ on))), (w 4, .inl (cI, 30, .inl (kZ ot))), (w 5, .inl (cI, 30, .inl (kZ nu))), (w 8, .inl (cI, 900, .inl (kM G))), (w 9, .inl (cI, 30, .inl (kM F2)))]) → va_S A s.heap H locs → lv_has ls 6 [(0, .ref (w 0)), (1, .int (zI ↑k)), (2, .int (zI ↑i)), (3, .int (zI (mz (G (30 * o1 + i))))), (4, .int (zI ↑x))] → W p l ev rm_Mo_find s m ar below meth c H locs 0 0 Qf (F0 m 101 ls []) := by
                        intro y2
                        induction y2 with
                        | zero =>
                          intro x F2 hin3 hF2 hgo3 H locs ls hP hD hS hl
                          refine lv_iload hx hb d_Mo_find_101 (lv_at hl 4 rfl) ?_
                          refine lv_bipush (v := zI 30) hx hb d_Mo_find_103 (by decide) ?_
                          refine k_icmp_ge (tgt := 174) hx hb d_Mo_find_105 (by decide) ⟨by omega, by omega⟩ ⟨by omega, by omega⟩ (fun c_105 => ?_) (fun c_105 => ?_)
                          · exact join_174 F2 hF2 ((if_pos h7).trans hgo3.symm).symm _ _ _ hP hD hS (lv_sub hl [0, 1, 2] rfl)
                          · exfalso; omega
                        | succ y2 ih_101 =>
                          intro x F2 hin3 hF2 hgo3 H locs ls hP hD hS hl
                          have hb2 := hG0 (30 * o2 + x)
                          refine lv_iload hx hb d_Mo_find_101 (lv_at hl 4 rfl) ?_
                          refine lv_bipush (v := zI 30) hx hb d_Mo_find_103 (by decide) ?_
                          refine k_icmp_ge (tgt := 174) hx hb d_Mo_find_105 (by decide) ⟨by omega, by omega⟩ ⟨by omega, by omega⟩ (fun c_105 => ?_) (fun c_105 => ?_)
                          · exfalso; omega
                          · refine lv_aload_n hx hb d_Mo_find_108 rfl (lv_at hl 0 rfl) ?_
                            refine va_get (D := D) (ci := 4) (v := .ref (w 2)) (C := R_Mo) (T := T_Mo) (N := 19) hx hb hkw kin_Mo hown hK hP 0 rfl rfl 2 (by decide) (hkw _ kw_fieldLink_Mo_13) (fun _ h9 => h9) rfl d_Mo_find_109 ?_
                            refine lv_iload_n hx hb d_Mo_find_112 rfl (lv_at hl 1 rfl) ?_
                            refine k_ald hx hb hK hP 2 0 rfl rfl (i := k) (by omega) (by omega) (by omega) d_Mo_find_113 ?_
                            have hv_22 := hK0 k
                            refine lv_bipush (v := zI 8) hx hb d_Mo_find_114 (by decide) ?_
                            refine k_icmp_ge (tgt := 174) hx hb d_Mo_find_116 (by decide) ⟨by omega, by omega⟩ ⟨by omega, by omega⟩ (fun c_116 => ?_) (fun c_116 => ?_)
                            · exfalso; omega
                            · refine lv_aload_n hx hb d_Mo_find_119 rfl (lv_at hl 0 rfl) ?_
                              refine va_get (D := D) (ci := 4) (v := .ref (w 2)) (C := R_Mo) (T := T_Mo) (N := 19) hx hb hkw kin_Mo hown hK hP 0 rfl rfl 2 (by decide) (hkw _ kw_fieldLink_Mo_13) (fun _ h9 => h9) rfl d_Mo_find_120 ?_
                              refine lv_iload_n hx hb d_Mo_find_123 rfl (lv_at hl 1 rfl) ?_
                              refine k_ald hx hb hK hP 2 0 rfl rfl (i := k) (by omega) (by omega) (by omega) d_Mo_find_124 ?_
                              have hv_23 := hK0 k
                              refine lv_iconst (v := zI 1) hx hb d_Mo_find_125 (by decide) ?_
                              refine k_icmp_le (tgt := 174) hx hb d_Mo_find_126 (by decide) ⟨by omega, by omega⟩ ⟨by omega, by omega⟩ (fun c_126 => ?_) (fun c_126 => ?_)
                              · exfalso; omega
                              · refine lv_aload_n hx hb d_Mo_find_129 rfl (lv_at hl 0 rfl) ?_
                                refine va_get (D := D) (ci := 4) (v := .ref (w 8)) (C := R_Mo) (T := T_Mo) (N := 19) hx hb hkw kin_Mo hown hK hP 0 rfl rfl 10 (by decide) (hkw _ kw_fieldLink_Mo_31) (fun _ h9 => h9) rfl d_Mo_find_130 ?_
                                refine lv_bipush (v := zI 30) hx hb d_Mo_find_133 (by decide) ?_
                                refine lv_aload_n hx hb d_Mo_find_135 rfl (lv_at hl 0 rfl) ?_
                                refine va_get (D := D) (ci := 4) (v := .ref (w 4)) (C := R_Mo) (T := T_Mo) (N := 19) hx hb hkw kin_Mo hown hK hP 0 rfl rfl 4 (by decide) (hkw _ kw_fieldLink_Mo_19) (fun _ h9 => h9) rfl d_Mo_find_136 ?_
                                refine lv_iload_n hx hb d_Mo_find_139 rfl (lv_at hl 1 rfl) ?_
                                refine k_aldZ hx hb hK hP 4 0 rfl rfl (i := k) (by omega) (by omega) (by omega) d_Mo_find_140 ?_
                                refine k_imul (v := ↑(30 * o2)) hx hb d_Mo_find_141 (by omega) ?_
                                refine lv_iload hx hb d_Mo_find_142 (lv_at hl 4 rfl) ?_
                                refine k_iadd (v := ↑(30 * o2 + x)) hx hb d_Mo_find_144 (by omega) ?_
                                refine k_aldM hx hb hK hP 6 0 rfl rfl (i := (30 * o2 + x)) (by omega) (by omega) (by omega) d_Mo_find_145 ?_
                                have hv_24 := hG0 (30 * o2 + x)
                                have hm_25 := mz_or (G (30 * o2 + x))
                                refine lv_istore (lv' := [(5, .int (zI (mz (G (30 * o2 + x))))), (0, .ref (w 0)), (1, .int (zI ↑k)), (2, .int (zI ↑i)), (3, .int (zI (mz (G (30 * o1 + i))))), (4, .int (zI ↑x))]) hx hb d_Mo_find_146 hl (by decide) rfl ?_
                                clear hl; intro ls hl
                                refine lv_iload_n hx hb d_Mo_find_148 rfl (lv_at hl 4 rfl) ?_
                                refine k_if_lt (tgt := 168) hx hb d_Mo_find_149 (by decide) ⟨by omega, by omega⟩ (fun c_149 => ?_) (fun c_149 => ?_)
                                · refine k_iinc (v := ↑(x + 1)) (lv' := [(4, .int (zI (↑(x + 1)))), (5, .int (zI (mz (G (30 * o2 + x))))), (0, .ref (w 0)), (1, .int (zI ↑k)), (2, .int (zI ↑i)), (3, .int (zI (mz (G (30 * o1 + i)))))]) hx hb d_Mo_find_168 hl (k := 5) rfl (by omega) (by decide) rfl ?_
                                  clear hl; intro ls hl
                                  refine lv_goto (tgt := 101) hx hb d_Mo_find_171 (by decide) ?_
                                  exact ih_101 (x + 1) F2 (by omega) hF2 (by rw [mInner, if_neg (by omega)] at hgo3; exact hgo3) _ _ _ hP hD hS (lv_sub hl [2, 3, 4, 5, 0] rfl)
                                · refine lv_iload hx hb d_Mo_find_152 (lv_at hl 0 rfl) ?_
                                  refine k_if_lt (tgt := 168) hx hb d_Mo_find_154 (by decide) ⟨by omega, by omega⟩ (fun c_154 => ?_) (fun c_154 => ?_)
                                  · refine k_iinc (v := ↑(x + 1)) (lv' := [(4, .int (zI (↑(x + 1)))), (5, .int (zI (mz (G (30 * o2 + x))))), (0, .ref (w 0)), (1, .int (zI ↑k)), (2, .int (zI ↑i)), (3, .int (zI (mz (G (30 * o1 + i)))))]) hx hb d_Mo_find_168 hl (k := 5) rfl (by omega) (by decide) rfl ?_
                                    clear hl; intro ls hl
                                    refine lv_goto (tgt := 101) hx hb d_Mo_find_171 (by decide) ?_
                                    exact ih_101 (x + 1) F2 (by omega) hF2 (by rw [mInner, if_neg (by omega)] at hgo3; exact hgo3) _ _ _ hP hD hS (lv_sub hl [2, 3, 4, 5, 0] rfl)
                                  · refine lv_aload_n hx hb d_Mo_find_157 rfl (lv_at hl 1 rfl) ?_
                                    refine lv_iload_n hx hb d_Mo_find_158 rfl (lv_at hl 2 rfl) ?_
                                    refine lv_iload_n hx hb d_Mo_find_159 rfl (lv_at hl 3 rfl) ?_
                                    refine lv_iload_n hx hb d_Mo_find_160 rfl (lv_at hl 4 rfl) ?_
                                    refine lv_iload hx hb d_Mo_find_161 (lv_at hl 5 rfl) ?_
                                    refine lv_iload hx hb d_Mo_find_163 (lv_at hl 0 rfl) ?_
                                    refine k_stk (st2 := [.int (zI (↑(G (30 * o2 + x)))), .int (zI ↑x), .int (zI (↑(G (30 * o1 + i)))), .int (zI ↑i), .int (zI ↑k), .ref (w 0)]) (by rw [show (mz (G (30 * o2 + x)) : Int) = ↑(G (30 * o2 + x)) from by omega, show (mz (G (30 * o1 + i)) : Int) = ↑(G (30 * o1 + i)) from by omega]) ?_
                                    refine k_beV (va_runV (As := [.int (zI ↑k), .int (zI ↑i), .int (zI (↑(G (30 * o1 + i)))), .int (zI ↑x), .int (zI (↑(G (30 * o2 + x))))]) (rest := []) ⟨hx, hb, hml, hown, hkw⟩ (c_Mo_pair l D cI cR cG w n np kn ch le sf st k i (G (30 * o1 + i)) x (G (30 * o2 + x)) K F2 nu (by omega) (by omega) (by omega) (by omega) (by omega) hK0 hnu hF2 _) (cwV 5 hkw (k_gV kw_methodLink_Mo_80 kw_instanceMethod_Mo_pair kw_selects_Mo_pair kw_initialized_Mo kw_code_Mo_pair) rfl rfl rfl (by decide +kernel) ⟨(Nat.le_of_ble_eq_true rfl), (Nat.le_of_ble_eq_true rfl)⟩) (k_preV (q0 := 0) hK hG hP hD [0, 2, 5, 7] rfl rfl rfl rfl) rfl rfl hl.1 rfl (lv_room (Nat.le_of_ble_eq_true rfl)) d_Mo_find_165 ⟨Nat.zero_le _, Nat.zero_le _⟩) hP hD hS hA [0, 2, 5, 7] rfl (Eq.trans (b := [w 0, w 2, w 5, w 9]) rfl rfl) ?_
                                    clear hP hD hS; intro H locs hP hD hS
                                    replace hP : va_P D k_cl ([(w 0, .inr (4, [.ref (w 1), .int (zI ↑n), .ref (w 2), .ref (w 3), .ref (w 4), .ref (w 5), .int (zI ↑np), .ref (w 6), .ref (w 7), .int (zI ↑kn), .ref (w 8), .ref (w 9), .ref (w 10), .int (zI ↑ch), .int (zI le), .ref (w 11), .int (zI sf), .int (zI st), .ref (w 12)])), (w 1, .inl (cI, 30, .inl (kA t))), (w 2, .inl (cI, 30, .inl (kA K))), (w 3, .inl (cI, 30, .inl (kZ on))), (w 4, .inl (cI, 30, .inl (kZ ot))), (w 5, .inl (cI, 30, .inl (kZ nu))), (w 8, .inl (cI, 900, .inl (kM G))), (w 9, .inl (cI, 30, .inl (kM (mPair (K k) (nu k) F2 i (G (30 * o1 + i)) x (G (30 * o2 + x))))))]) H := hP
                                    replace hD : va_D A ([(w 0, .inr (4, [.ref (w 1), .int (zI ↑n), .ref (w 2), .ref (w 3), .ref (w 4), .ref (w 5), .int (zI ↑np), .ref (w 6), .ref (w 7), .int (zI ↑kn), .ref (w 8), .ref (w 9), .ref (w 10), .int (zI ↑ch), .int (zI le), .ref (w 11), .int (zI sf), .int (zI st), .ref (w 12)])), (w 1, .inl (cI, 30, .inl (kA t))), (w 2, .inl (cI, 30, .inl (kA K))), (w 3, .inl (cI, 30, .inl (kZ on))), (w 4, .inl (cI, 30, .inl (kZ ot))), (w 5, .inl (cI, 30, .inl (kZ nu))), (w 8, .inl (cI, 900, .inl (kM G))), (w 9, .inl (cI, 30, .inl (kM (mPair (K k) (nu k) F2 i (G (30 * o1 + i)) x (G (30 * o2 + x))))))]) := hD
                                    refine k_iinc (v := ↑(x + 1)) (lv' := [(4, .int (zI (↑(x + 1)))), (5, .int (zI (mz (G (30 * o2 + x))))), (0, .ref (w 0)), (1, .int (zI ↑k)), (2, .int (zI ↑i)), (3, .int (zI (mz (G (30 * o1 + i)))))]) hx hb d_Mo_find_168 hl (k := 5) rfl (by omega) (by decide) rfl ?_
                                    clear hl; intro ls hl
                                    refine lv_goto (tgt := 101) hx hb d_Mo_find_171 (by decide) ?_
                                    exact ih_101 (x + 1) (mPair (K k) (nu k) F2 i (G (30 * o1 + i)) x (G (30 * o2 + x))) (by omega) (mPair_le hF2 (by omega) (by omega)) (by rw [mInner, if_pos (by omega)] at hgo3; exact hgo3) _ _ _ hP hD hS (lv_sub hl [2, 3, 4, 5, 0] rfl)
                      exact loop_101 30 0 F1 (by omega) hF1 rfl _ _ _ hP hD hS (lv_sub hl [1, 2, 3, 4, 0] rfl)
                    · have h7b := h7
                      refine lv_iload hx hb d_Mo_find_101 (lv_at hl 0 rfl) ?_
                      refine lv_bipush (v := zI 30) hx hb d_Mo_find_103 (by decide) ?_
                      refine k_icmp_ge (tgt := 174) hx hb d_Mo_find_105 (by decide) ⟨by omega, by omega⟩ ⟨by omega, by omega⟩ (fun c_105 => ?_) (fun c_105 => ?_)
                      · exfalso; omega
                      · refine lv_aload_n hx hb d_Mo_find_108 rfl (lv_at hl 1 rfl) ?_
                        refine va_get (D := D) (ci := 4) (v := .ref (w 2)) (C := R_Mo) (T := T_Mo) (N := 19) hx hb hkw kin_Mo hown hK hP 0 rfl rfl 2 (by decide) (hkw _ kw_fieldLink_Mo_13) (fun _ h9 => h9) rfl d_Mo_find_109 ?_
                        refine lv_iload_n hx hb d_Mo_find_112 rfl (lv_at hl 2 rfl) ?_
                        refine k_ald hx hb hK hP 2 0 rfl rfl (i := k) (by omega) (by omega) (by omega) d_Mo_find_113 ?_
                        have hv_26 := hK0 k
                        refine lv_bipush (v := zI 8) hx hb d_Mo_find_114 (by decide) ?_
                        refine k_icmp_ge (tgt := 174) hx hb d_Mo_find_116 (by decide) ⟨by omega, by omega⟩ ⟨by omega, by omega⟩ (fun c_116 => ?_) (fun c_116 => ?_)
                        · exact join_174 F1 hF1 (if_neg h7).symm _ _ _ hP hD hS (lv_sub hl [1, 2, 3] rfl)
                        · refine lv_aload_n hx hb d_Mo_find_119 rfl (lv_at hl 1 rfl) ?_
                          refine va_get (D := D) (ci := 4) (v := .ref (w 2)) (C := R_Mo) (T := T_Mo) (N := 19) hx hb hkw kin_Mo hown hK hP 0 rfl rfl 2 (by decide) (hkw _ kw_fieldLink_Mo_13) (fun _ h9 => h9) rfl d_Mo_find_120 ?_
                          refine lv_iload_n hx hb d_Mo_find_123 rfl (lv_at hl 2 rfl) ?_
                          refine k_ald hx hb hK hP 2 0 rfl rfl (i := k) (by omega) (by omega) (by omega) d_Mo_find_124 ?_
                          have hv_27 := hK0 k
                          refine lv_iconst (v := zI 1) hx hb d_Mo_find_125 (by decide) ?_
                          refine k_icmp_le (tgt := 174) hx hb d_Mo_find_126 (by decide) ⟨by omega, by omega⟩ ⟨by omega, by omega⟩ (fun c_126 => ?_) (fun c_126 => ?_)
                          · exact join_174 F1 hF1 (if_neg h7).symm _ _ _ hP hD hS (lv_sub hl [1, 2, 3] rfl)
                          · exfalso; omega
                  refine lv_iload_n hx hb d_Mo_find_87 rfl (lv_at hl 0 rfl) ?_
                  refine k_if_lt (tgt := 98) hx hb d_Mo_find_88 (by decide) ⟨by omega, by omega⟩ (fun c_88 => ?_) (fun c_88 => ?_)
                  · exact join_98 F hF (if_neg (by omega)).symm _ _ _ hP hD hS (lv_sub hl [1, 2, 3, 0] rfl)
                  · refine lv_aload_n hx hb d_Mo_find_91 rfl (lv_at hl 1 rfl) ?_
                    refine lv_iload_n hx hb d_Mo_find_92 rfl (lv_at hl 2 rfl) ?_
                    refine lv_iload_n hx hb d_Mo_find_93 rfl (lv_at hl 3 rfl) ?_
                    refine lv_iload_n hx hb d_Mo_find_94 rfl (lv_at hl 0 rfl) ?_
                    refine k_stk (st2 := [.int (zI (↑(G (30 * o1 + i)))), .int (zI ↑i), .int (zI ↑k), .ref (w 0)]) (by rw [show (mz (G (30 * o1 + i)) : Int) = ↑(G (30 * o1 + i)) from by omega]) ?_
                    refine k_beV (va_runV (As := [.int (zI ↑k), .int (zI ↑i), .int (zI (↑(G (30 * o1 + i))))]) (rest := []) ⟨hx, hb, hml, hown, hkw⟩ (c_Mo_alone l D cI cR cG w n np kn ch le sf st k i (G (30 * o1 + i)) o2 K F G ot nu (by omega) (by omega) (by omega) (fun e => ho2 (by omega)) hK0 hnu (fun e => by have := hnn (by omega); omega) hG0 hF _) (cwV 3 hkw (k_gV kw_methodLink_Mo_76 kw_instanceMethod_Mo_alone kw_selects_Mo_alone kw_initialized_Mo kw_code_Mo_alone) rfl rfl rfl (by decide +kernel) ⟨(Nat.le_of_ble_eq_true rfl), (Nat.le_of_ble_eq_true rfl)⟩) (k_preV (q0 := 0) hK hG hP hD [0, 2, 4, 5, 6, 7] rfl rfl rfl rfl) rfl rfl hl.1 rfl (lv_room (Nat.le_of_ble_eq_true rfl)) d_Mo_find_95 ⟨Nat.zero_le _, Nat.zero_le _⟩) hP hD hS hA [0, 2, 4, 5, 6, 7] rfl (Eq.trans (b := [w 0, w 2, w 4, w 5, w 8, w 9]) rfl rfl) ?_
                    clear hP hD hS; intro H locs hP hD hS
                    replace hP : va_P D k_cl ([(w 0, .inr (4, [.ref (w 1), .int (zI ↑n), .ref (w 2), .ref (w 3), .ref (w 4), .ref (w 5), .int (zI ↑np), .ref (w 6), .ref (w 7), .int (zI ↑kn), .ref (w 8), .ref (w 9), .ref (w 10), .int (zI ↑ch), .int (zI le), .ref (w 11), .int (zI sf), .int (zI st), .ref (w 12)])), (w 1, .inl (cI, 30, .inl (kA t))), (w 2, .inl (cI, 30, .inl (kA K))), (w 3, .inl (cI, 30, .inl (kZ on))), (w 4, .inl (cI, 30, .inl (kZ ot))), (w 5, .inl (cI, 30, .inl (kZ nu))), (w 8, .inl (cI, 900, .inl (kM G))), (w 9, .inl (cI, 30, .inl (kM (mAlone (K k) (nu k) (fun z => G (30 * o2 + z)) F i (G (30 * o1 + i))))))]) H := hP
                    replace hD : va_D A ([(w 0, .inr (4, [.ref (w 1), .int (zI ↑n), .ref (w 2), .ref (w 3), .ref (w 4), .ref (w 5), .int (zI ↑np), .ref (w 6), .ref (w 7), .int (zI ↑kn), .ref (w 8), .ref (w 9), .ref (w 10), .int (zI ↑ch), .int (zI le), .ref (w 11), .int (zI sf), .int (zI st), .ref (w 12)])), (w 1, .inl (cI, 30, .inl (kA t))), (w 2, .inl (cI, 30, .inl (kA K))), (w 3, .inl (cI, 30, .inl (kZ on))), (w 4, .inl (cI, 30, .inl (kZ ot))), (w 5, .inl (cI, 30, .inl (kZ nu))), (w 8, .inl (cI, 900, .inl (kM G))), (w 9, .inl (cI, 30, .inl (kM (mAlone (K k) (nu k) (fun z => G (30 * o2 + z)) F i (G (30 * o1 + i))))))]) := hD
                    exact join_98 (mAlone (K k) (nu k) (fun z => G (30 * o2 + z)) F i (G (30 * o1 + i))) (mAlone_le hF (by omega)) (if_pos (by omega)).symm _ _ _ hP hD hS (lv_sub hl [1, 2, 3, 0] rfl)
          exact loop_55 30 0 e30 (by omega) e30_le rfl _ _ _ hP hD hS (lv_sub hl [1, 2, 0] rfl)
      · exfalso; omega
    | succ y ih_2 =>
      intro p0 F hin hF hgo H locs ls hP hD hS hl
      refine lv_iload_n hx hb d_Mo_find_2 rfl (lv_at hl 2 rfl) ?_
      refine lv_bipush (v := zI 30) hx hb d_Mo_find_3 (by decide) ?_
      refine k_icmp_ge (tgt := 53) hx hb d_Mo_find_5 (by decide) ⟨by omega, by omega⟩ ⟨by omega, by omega⟩ (fun c_5 => ?_) (fun c_5 => ?_)
      · exfalso; omega
      · refine lv_aload_n hx hb d_Mo_find_8 rfl (lv_at hl 0 rfl) ?_
        refine va_get (D := D) (ci := 4) (v := .ref (w 9)) (C := R_Mo) (T := T_Mo) (N := 19) hx hb hkw kin_Mo hown hK hP 0 rfl rfl 11 (by decide) (hkw _ kw_fieldLink_Mo_34) (fun _ h9 => h9) rfl d_Mo_find_9 ?_
        refine lv_iload_n hx hb d_Mo_find_12 rfl (lv_at hl 2 rfl) ?_
        refine lv_aload_n hx hb d_Mo_find_13 rfl (lv_at hl 0 rfl) ?_
        refine va_get (D := D) (ci := 4) (v := .ref (w 2)) (C := R_Mo) (T := T_Mo) (N := 19) hx hb hkw kin_Mo hown hK hP 0 rfl rfl 2 (by decide) (hkw _ kw_fieldLink_Mo_13) (fun _ h9 => h9) rfl d_Mo_find_14 ?_
        refine lv_iload_n hx hb d_Mo_find_17 rfl (lv_at hl 1 rfl) ?_
        refine k_ald hx hb hK hP 2 0 rfl rfl (i := k) (by omega) (by omega) (by omega) d_Mo_find_18 ?_
        have hv_28 := hK0 k
        refine k_if_ne (tgt := 45) hx hb d_Mo_find_19 (by decide) ⟨by omega, by omega⟩ (fun c_19 => ?_) (fun c_19 => ?_)
        · refine lv_iconst (v := zI (-1)) hx hb d_Mo_find_45 (by decide) ?_
          have hm_29 := mz_or (30)
          refine k_astM hx hb hK hP hD hS 7 0 rfl rfl (i := p0) (v := 30) (by omega) (by omega) (by omega) (by omega) d_Mo_find_46 ?_
          clear hP hD hS; intro H locs hP hD hS
          replace hP : va_P D k_cl ([(w 0, .inr (4, [.ref (w 1), .int (zI ↑n), .ref (w 2), .ref (w 3), .ref (w 4), .ref (w 5), .int (zI ↑np), .ref (w 6), .ref (w 7), .int (zI ↑kn), .ref (w 8), .ref (w 9), .ref (w 10), .int (zI ↑ch), .int (zI le), .ref (w 11), .int (zI sf), .int (zI st), .ref (w 12)])), (w 1, .inl (cI, 30, .inl (kA t))), (w 2, .inl (cI, 30, .inl (kA K))), (w 3, .inl (cI, 30, .inl (kZ on))), (w 4, .inl (cI, 30, .inl (kZ ot))), (w 5, .inl (cI, 30, .inl (kZ nu))), (w 8, .inl (cI, 900, .inl (kM G))), (w 9, .inl (cI, 30, .inl (kM (va_up F p0 30))))]) H := hP
          replace hD : va_D A ([(w 0, .inr (4, [.ref (w 1), .int (zI ↑n), .ref (w 2), .ref (w 3), .ref (w 4), .ref (w 5), .int (zI ↑np), .ref (w 6), .ref (w 7), .int (zI ↑kn), .ref (w 8), .ref (w 9), .ref (w 10), .int (zI ↑ch), .int (zI le), .ref (w 11), .int (zI sf), .int (zI st), .ref (w 12)])), (w 1, .inl (cI, 30, .inl (kA t))), (w 2, .inl (cI, 30, .inl (kA K))), (w 3, .inl (cI, 30, .inl (kZ on))), (w 4, .inl (cI, 30, .inl (kZ ot))), (w 5, .inl (cI, 30, .inl (kZ nu))), (w 8, .inl (cI, 900, .inl (kM G))), (w 9, .inl (cI, 30, .inl (kM (va_up F p0 30))))]) := hD
          refine k_iinc (v := ↑(p0 + 1)) (lv' := [(2, .int (zI (↑(p0 + 1)))), (0, .ref (w 0)), (1, .int (zI ↑k))]) hx hb d_Mo_find_47 hl (k := 2) rfl (by omega) (by decide) rfl ?_
          clear hl; intro ls hl
          refine lv_goto (tgt := 2) hx hb d_Mo_find_50 (by decide) ?_
          exact ih_2 (p0 + 1) (va_up F p0 30) (by omega) (k_upB hF (by omega)) (by intro j hj; unfold va_up; split; rename_i hjp; (subst hjp; unfold mTerm; split <;> first | rfl | (exfalso; omega)); exact hgo j (by omega)) _ _ _ hP hD hS (lv_sub hl [1, 2, 0] rfl)
        · refine lv_aload_n hx hb d_Mo_find_22 rfl (lv_at hl 0 rfl) ?_
          refine va_get (D := D) (ci := 4) (v := .ref (w 1)) (C := R_Mo) (T := T_Mo) (N := 19) hx hb hkw kin_Mo hown hK hP 0 rfl rfl 0 (by decide) (hkw _ kw_fieldLink_Mo_7) (fun _ h9 => h9) rfl d_Mo_find_23 ?_
          refine lv_iload_n hx hb d_Mo_find_26 rfl (lv_at hl 2 rfl) ?_
          refine k_ald hx hb hK hP 1 0 rfl rfl (i := p0) (by omega) (by omega) (by omega) d_Mo_find_27 ?_
          have hv_30 := ht p0
          refine lv_aload_n hx hb d_Mo_find_28 rfl (lv_at hl 0 rfl) ?_
          refine va_get (D := D) (ci := 4) (v := .ref (w 5)) (C := R_Mo) (T := T_Mo) (N := 19) hx hb hkw kin_Mo hown hK hP 0 rfl rfl 5 (by decide) (hkw _ kw_fieldLink_Mo_22) (fun _ h9 => h9) rfl d_Mo_find_29 ?_
          refine lv_iload_n hx hb d_Mo_find_32 rfl (lv_at hl 1 rfl) ?_
          refine k_aldZ hx hb hK hP 5 0 rfl rfl (i := k) (by omega) (by omega) (by omega) d_Mo_find_33 ?_
          have hv_31 := hnu k
          have h19 := hnn (by omega)
          have h18 := hn9 (by omega)
          have htp := ht p0
          refine k_stk (st2 := [.int (zI ↑nn), .int (zI (↑(t p0))), .int (zI ↑p0), .ref (w 9)]) (by rw [show (nu k : Int) = ↑nn from by omega]) ?_
          refine k_bit (t := (t p0)) (n := nn) hx hb (by omega) (by omega) d_Mo_find_34 ?_
          refine lv_iconst (v := zI 1) hx hb d_Mo_find_35 (by decide) ?_
          refine k_iand (a := ((t p0) / 2 ^ nn)) (b := 1) hx hb d_Mo_find_36 ?_
          refine lv_iconst (v := zI 1) hx hb d_Mo_find_37 (by decide) ?_
          have hand := Nat.and_one_is_mod (t p0 / 2 ^ nn)
          refine k_icmp_ne (tgt := 45) hx hb d_Mo_find_38 (by decide) ⟨by omega, by omega⟩ ⟨by omega, by omega⟩ (fun c_38 => ?_) (fun c_38 => ?_)
          · refine lv_iconst (v := zI (-1)) hx hb d_Mo_find_45 (by decide) ?_
            have hm_32 := mz_or (30)
            refine k_astM hx hb hK hP hD hS 7 0 rfl rfl (i := p0) (v := 30) (by omega) (by omega) (by omega) (by omega) d_Mo_find_46 ?_
            clear hP hD hS; intro H locs hP hD hS
            replace hP : va_P D k_cl ([(w 0, .inr (4, [.ref (w 1), .int (zI ↑n), .ref (w 2), .ref (w 3), .ref (w 4), .ref (w 5), .int (zI ↑np), .ref (w 6), .ref (w 7), .int (zI ↑kn), .ref (w 8), .ref (w 9), .ref (w 10), .int (zI ↑ch), .int (zI le), .ref (w 11), .int (zI sf), .int (zI st), .ref (w 12)])), (w 1, .inl (cI, 30, .inl (kA t))), (w 2, .inl (cI, 30, .inl (kA K))), (w 3, .inl (cI, 30, .inl (kZ on))), (w 4, .inl (cI, 30, .inl (kZ ot))), (w 5, .inl (cI, 30, .inl (kZ nu))), (w 8, .inl (cI, 900, .inl (kM G))), (w 9, .inl (cI, 30, .inl (kM (va_up F p0 30))))]) H := hP
            replace hD : va_D A ([(w 0, .inr (4, [.ref (w 1), .int (zI ↑n), .ref (w 2), .ref (w 3), .ref (w 4), .ref (w 5), .int (zI ↑np), .ref (w 6), .ref (w 7), .int (zI ↑kn), .ref (w 8), .ref (w 9), .ref (w 10), .int (zI ↑ch), .int (zI le), .ref (w 11), .int (zI sf), .int (zI st), .ref (w 12)])), (w 1, .inl (cI, 30, .inl (kA t))), (w 2, .inl (cI, 30, .inl (kA K))), (w 3, .inl (cI, 30, .inl (kZ on))), (w 4, .inl (cI, 30, .inl (kZ ot))), (w 5, .inl (cI, 30, .inl (kZ nu))), (w 8, .inl (cI, 900, .inl (kM G))), (w 9, .inl (cI, 30, .inl (kM (va_up F p0 30))))]) := hD
            refine k_iinc (v := ↑(p0 + 1)) (lv' := [(2, .int (zI (↑(p0 + 1)))), (0, .ref (w 0)), (1, .int (zI ↑k))]) hx hb d_Mo_find_47 hl (k := 2) rfl (by omega) (by decide) rfl ?_
            clear hl; intro ls hl
            refine lv_goto (tgt := 2) hx hb d_Mo_find_50 (by decide) ?_
            exact ih_2 (p0 + 1) (va_up F p0 30) (by omega) (k_upB hF (by omega)) (by intro j hj; unfold va_up; split; rename_i hjp; (subst hjp; unfold mTerm; split <;> first | rfl | (exfalso; omega)); exact hgo j (by omega)) _ _ _ hP hD hS (lv_sub hl [1, 2, 0] rfl)
          · refine lv_iload_n hx hb d_Mo_find_41 rfl (lv_at hl 2 rfl) ?_
            refine lv_goto (tgt := 46) hx hb d_Mo_find_42 (by decide) ?_
            have hm_33 := mz_or (p0)
            refine k_astM hx hb hK hP hD hS 7 0 rfl rfl (i := p0) (v := p0) (by omega) (by omega) (by omega) (by omega) d_Mo_find_46 ?_
            clear hP hD hS; intro H locs hP hD hS
            replace hP : va_P D k_cl ([(w 0, .inr (4, [.ref (w 1), .int (zI ↑n), .ref (w 2), .ref (w 3), .ref (w 4), .ref (w 5), .int (zI ↑np), .ref (w 6), .ref (w 7), .int (zI ↑kn), .ref (w 8), .ref (w 9), .ref (w 10), .int (zI ↑ch), .int (zI le), .ref (w 11), .int (zI sf), .int (zI st), .ref (w 12)])), (w 1, .inl (cI, 30, .inl (kA t))), (w 2, .inl (cI, 30, .inl (kA K))), (w 3, .inl (cI, 30, .inl (kZ on))), (w 4, .inl (cI, 30, .inl (kZ ot))), (w 5, .inl (cI, 30, .inl (kZ nu))), (w 8, .inl (cI, 900, .inl (kM G))), (w 9, .inl (cI, 30, .inl (kM (va_up F p0 p0))))]) H := hP
            replace hD : va_D A ([(w 0, .inr (4, [.ref (w 1), .int (zI ↑n), .ref (w 2), .ref (w 3), .ref (w 4), .ref (w 5), .int (zI ↑np), .ref (w 6), .ref (w 7), .int (zI ↑kn), .ref (w 8), .ref (w 9), .ref (w 10), .int (zI ↑ch), .int (zI le), .ref (w 11), .int (zI sf), .int (zI st), .ref (w 12)])), (w 1, .inl (cI, 30, .inl (kA t))), (w 2, .inl (cI, 30, .inl (kA K))), (w 3, .inl (cI, 30, .inl (kZ on))), (w 4, .inl (cI, 30, .inl (kZ ot))), (w 5, .inl (cI, 30, .inl (kZ nu))), (w 8, .inl (cI, 900, .inl (kM G))), (w 9, .inl (cI, 30, .inl (kM (va_up F p0 p0))))]) := hD
            refine k_iinc (v := ↑(p0 + 1)) (lv' := [(2, .int (zI (↑(p0 + 1)))), (0, .ref (w 0)), (1, .int (zI ↑k))]) hx hb d_Mo_find_47 hl (k := 2) rfl (by omega) (by decide) rfl ?_
            clear hl; intro ls hl
            refine lv_goto (tgt := 2) hx hb d_Mo_find_50 (by decide) ?_
            exact ih_2 (p0 + 1) (va_up F p0 p0) (by omega) (k_upB hF (by omega)) (by intro j hj; unfold va_up; split; rename_i hjp; (subst hjp; unfold mTerm; split <;> first | rfl | (exfalso; omega)); exact hgo j (by omega)) _ _ _ hP hD hS (lv_sub hl [1, 2, 0] rfl)
  exact loop_2 30 0 E0 (by omega) hE0 (by omega) _ _ _ hP hD hS (lv_sub hl [1, 2, 0] rfl)

abbrev rm_Mo_findAll : Room := { frames := 4, cells := 0, slots := 0, locals := 100 }
set_option maxHeartbeats 4000000 in
set_option maxRecDepth 100000 in
theorem c_Mo_findAll (l : Launch) (D : va_G) (cI cR cG : ClassId) (w : Nat → Nat) (n np kn ch : Nat) (le sf st : Int) (q : Nat) (t K fi sc nn : Nat → Nat) (on ot nu : Nat → Int) (G E0 : Nat → Nat) (hq : q < n) (hn30 : n ≤ 30) (hok : askOK n K fi sc nn) (hmo : moOK n K fi sc nn on ot nu) (hK0 : ∀ u, K u ≤ 10) (hnu : ∀ u, k_sm (nu u)) (ht : ∀ j, t j ≤ 1023) (hG0 : ∀ u, G u ≤ 30) (hE0 : ∀ u, E0 u ≤ 30) : k_M l y_Mo_findAll (.code y_Mo_findAll b_Mo_findAll 3 none :: kW) rm_Mo_findAll D k_cl (k_ty cI cR cG) [.ref (w 0), .int (zI ↑q)] ([(w 0, .inr (4, [.ref (w 1), .int (zI ↑n), .ref (w 2), .ref (w 3), .ref (w 4), .ref (w 5), .int (zI ↑np), .ref (w 6), .ref (w 7), .int (zI ↑kn), .ref (w 8), .ref (w 9), .ref (w 10), .int (zI ↑ch), .int (zI le), .ref (w 11), .int (zI sf), .int (zI st), .ref (w 12)])), (w 1, .inl (cI, 30, .inl (kA t))), (w 2, .inl (cI, 30, .inl (kA K))), (w 3, .inl (cI, 30, .inl (kZ on))), (w 4, .inl (cI, 30, .inl (kZ ot))), (w 5, .inl (cI, 30, .inl (kZ nu))), (w 8, .inl (cI, 900, .inl (kM G))), (w 9, .inl (cI, 30, .inl (kM E0)))]) (k_Qv D k_cl [(w 0, .inr (4, [.ref (w 1), .int (zI ↑n), .ref (w 2), .ref (w 3), .ref (w 4), .ref (w 5), .int (zI ↑np), .ref (w 6), .ref (w 7), .int (zI ↑kn), .ref (w 8), .ref (w 9), .ref (w 10), .int (zI ↑ch), .int (zI le), .ref (w 11), .int (zI sf), .int (zI st), .ref (w 12)])), (w 1, .inl (cI, 30, .inl (kA t))), (w 2, .inl (cI, 30, .inl (kA K))), (w 3, .inl (cI, 30, .inl (kZ on))), (w 4, .inl (cI, 30, .inl (kZ ot))), (w 5, .inl (cI, 30, .inl (kZ nu))), (w 8, .inl (cI, 900, .inl (kM ((mFA t K fi sc nn nu (q + 1) 0 (G, E0)).1)))), (w 9, .inl (cI, 30, .inl (kM ((mFA t K fi sc nn nu (q + 1) 0 (G, E0)).2))))]) := by
  refine k_start (cc := b_Mo_findAll) (maxL := 3) (ret := none) (by decide) rfl (Nat.le_of_ble_eq_true rfl) ?_
  intro p ev s m ar below meth c A ls Qf hQf hx hb hr hml hts hown hlocks hin hK hG hA hP hD hS hl
  replace hown : s.vm.findClass R_Mo = some m.cls := hown
  replace hl : lv_has ls 3 [(0, .ref (w 0)), (1, .int (zI ↑q))] := hl
  have hkw : ∀ w ∈ kW, w.before ar s = true := fun w h => hts w (List.mem_cons_of_mem _ h)
  replace hP : va_P D k_cl ([(w 0, .inr (4, [.ref (w 1), .int (zI ↑n), .ref (w 2), .ref (w 3), .ref (w 4), .ref (w 5), .int (zI ↑np), .ref (w 6), .ref (w 7), .int (zI ↑kn), .ref (w 8), .ref (w 9), .ref (w 10), .int (zI ↑ch), .int (zI le), .ref (w 11), .int (zI sf), .int (zI st), .ref (w 12)])), (w 1, .inl (cI, 30, .inl (kA t))), (w 2, .inl (cI, 30, .inl (kA K))), (w 3, .inl (cI, 30, .inl (kZ on))), (w 4, .inl (cI, 30, .inl (kZ ot))), (w 5, .inl (cI, 30, .inl (kZ nu))), (w 8, .inl (cI, 900, .inl (kM G))), (w 9, .inl (cI, 30, .inl (kM E0)))]) s.heap := hP
  replace hD : va_D A ([(w 0, .inr (4, [.ref (w 1), .int (zI ↑n), .ref (w 2), .ref (w 3), .ref (w 4), .ref (w 5), .int (zI ↑np), .ref (w 6), .ref (w 7), .int (zI ↑kn), .ref (w 8), .ref (w 9), .ref (w 10), .int (zI ↑ch), .int (zI le), .ref (w 11), .int (zI sf), .int (zI st), .ref (w 12)])), (w 1, .inl (cI, 30, .inl (kA t))), (w 2, .inl (cI, 30, .inl (kA K))), (w 3, .inl (cI, 30, .inl (kZ on))), (w 4, .inl (cI, 30, .inl (kZ ot))), (w 5, .inl (cI, 30, .inl (kZ nu))), (w 8, .inl (cI, 900, .inl (kM G))), (w 9, .inl (cI, 30, .inl (kM E0)))]) := hD
  refine lv_iconst (v := zI 0) hx hb d_Mo_findAll_0 (by decide) ?_
  refine lv_istore_n (lv' := [(2, .int (zI 0)), (0, .ref (w 0)), (1, .int (zI ↑q))]) hx hb d_Mo_findAll_1 rfl hl (by decide) rfl ?_
  clear hl; intro ls hl
  have loop_2 : ∀ (y : Nat) (k : Nat) (G1 : Nat → Nat) (F1 : Nat → Nat), (k + y = q + 1) → ((∀ u, G1 u ≤ 30) ∧ ∀ u, F1 u ≤ 30) → (mFA t K fi sc nn nu y k (G1, F1) = mFA t K fi sc nn nu (q + 1) 0 (G, E0)) → ∀ (H : Heap) (locs : List Loc) (ls : Array Slot), va_P D k_cl ([(w 0, .inr (4, [.ref (w 1), .int (zI ↑n), .ref (w 2), .ref (w 3), .ref (w 4), .ref (w 5), .int (zI ↑np), .ref (w 6), .ref (w 7), .int (zI ↑kn), .ref (w 8), .ref (w 9), .ref (w 10), .int (zI ↑ch), .int (zI le), .ref (w 11), .int (zI sf), .int (zI st), .ref (w 12)])), (w 1, .inl (cI, 30, .inl (kA t))), (w 2, .inl (cI, 30, .inl (kA K))), (w 3, .inl (cI, 30, .inl (kZ on))), (w 4, .inl (cI, 30, .inl (kZ ot))), (w 5, .inl (cI, 30, .inl (kZ nu))), (w 8, .inl (cI, 900, .inl (kM G1))), (w 9, .inl (cI, 30, .inl (kM F1)))]) H → va_D A ([(w 0, .inr (4, [.ref (w 1), .int (zI ↑n), .ref (w 2), .ref (w 3), .ref (w 4), .ref (w 5), .int (zI ↑np), .ref (w 6), .ref (w 7), .int (zI ↑kn), .ref (w 8), .ref (w 9), .ref (w 10), .int (zI ↑ch), .int (zI le), .ref (w 11), .int (zI sf), .int (zI st), .ref (w 12)])), (w 1, .inl (cI, 30, .inl (kA t))), (w 2, .inl (cI, 30, .inl (kA K))), (w 3, .inl (cI, 30, .inl (kZ on))), (w 4, .inl (cI, 30, .inl (kZ ot))), (w 5, .inl (cI, 30, .inl (kZ nu))), (w 8, .inl (cI, 900, .inl (kM G1))), (w 9, .inl (cI, 30, .inl (kM F1)))]) → va_S A s.heap H locs → lv_has ls 3 [(0, .ref (w 0)), (1, .int (zI ↑q)), (2, .int (zI ↑k))] → W p l ev rm_Mo_findAll s m ar below meth c H locs 0 0 Qf (F0 m 2 ls []) := by
    intro y
    induction y with
    | zero =>
      intro k G1 F1 hin hb1 hgo H locs ls hP hD hS hl
      refine lv_iload_n hx hb d_Mo_findAll_2 rfl (lv_at hl 2 rfl) ?_
      refine lv_iload_n hx hb d_Mo_findAll_3 rfl (lv_at hl 1 rfl) ?_
      refine k_icmp_gt (tgt := 18) hx hb d_Mo_findAll_4 (by decide) ⟨by omega, by omega⟩ ⟨by omega, by omega⟩ (fun c_4 => ?_) (fun c_4 => ?_)
      · replace hP : va_P D k_cl [(w 0, .inr (4, [.ref (w 1), .int (zI ↑n), .ref (w 2), .ref (w 3), .ref (w 4), .ref (w 5), .int (zI ↑np), .ref (w 6), .ref (w 7), .int (zI ↑kn), .ref (w 8), .ref (w 9), .ref (w 10), .int (zI ↑ch), .int (zI le), .ref (w 11), .int (zI sf), .int (zI st), .ref (w 12)])), (w 1, .inl (cI, 30, .inl (kA t))), (w 2, .inl (cI, 30, .inl (kA K))), (w 3, .inl (cI, 30, .inl (kZ on))), (w 4, .inl (cI, 30, .inl (kZ ot))), (w 5, .inl (cI, 30, .inl (kZ nu))), (w 8, .inl (cI, 900, .inl (kM ((mFA t K fi sc nn nu (q + 1) 0 (G, E0)).1)))), (w 9, .inl (cI, 30, .inl (kM ((mFA t K fi sc nn nu (q + 1) 0 (G, E0)).2))))] H := by rw [← hgo]; exact hP
        rw [← hQf]
        exact k_vret hx hb hr hlocks hP hS d_Mo_findAll_18
      · exfalso; omega
    | succ y ih_2 =>
      intro k G1 F1 hin hb1 hgo H locs ls hP hD hS hl
      refine lv_iload_n hx hb d_Mo_findAll_2 rfl (lv_at hl 2 rfl) ?_
      refine lv_iload_n hx hb d_Mo_findAll_3 rfl (lv_at hl 1 rfl) ?_
      refine k_icmp_gt (tgt := 18) hx hb d_Mo_findAll_4 (by decide) ⟨by omega, by omega⟩ ⟨by omega, by omega⟩ (fun c_4 => ?_) (fun c_4 => ?_)
      · exfalso; omega
      · refine lv_aload_n hx hb d_Mo_findAll_7 rfl (lv_at hl 0 rfl) ?_
        refine lv_iload_n hx hb d_Mo_findAll_8 rfl (lv_at hl 2 rfl) ?_
        obtain ⟨ha1, ha2, ha3, ha4⟩ := hok k (by omega)
        obtain ⟨hm1, hm2, hm3⟩ := hmo k (by omega)
        refine k_beV (va_runV (As := [.int (zI ↑k)]) (rest := []) ⟨hx, hb, hml, hown, hkw⟩ (c_Mo_find l D cI cR cG w n np kn ch le sf st k (fi k) (sc k) (nn k) t K G1 F1 on ot nu (by omega) (fun e => ⟨hm1 e, by have := ha4 e; omega⟩) (fun e => ⟨hm2 e, by have := ha4 (by omega); omega⟩) (fun e => ⟨hm3 e, ha2⟩) (fun e => (ha3 e).1) hK0 hnu ht hb1.1 hb1.2 _) (cwV 1 hkw (k_gV kw_methodLink_Mo_84 kw_instanceMethod_Mo_find kw_selects_Mo_find kw_initialized_Mo kw_code_Mo_find) rfl rfl rfl (by decide +kernel) ⟨Nat.le_of_ble_eq_true rfl, Nat.le_of_ble_eq_true rfl⟩) (k_preV (q0 := 0) hK hG hP hD [0, 1, 2, 3, 4, 5, 6, 7] rfl rfl rfl rfl) rfl rfl hl.1 rfl (lv_room (Nat.le_of_ble_eq_true rfl)) d_Mo_findAll_9 ⟨Nat.zero_le _, Nat.zero_le _⟩) hP hD hS hA [0, 1, 2, 3, 4, 5, 6, 7] rfl (Eq.trans (b := [w 0, w 1, w 2, w 3, w 4, w 5, w 8, w 9]) rfl rfl) ?_
        clear hP hD hS; intro H locs hP hD hS
        replace hP : va_P D k_cl ([(w 0, .inr (4, [.ref (w 1), .int (zI ↑n), .ref (w 2), .ref (w 3), .ref (w 4), .ref (w 5), .int (zI ↑np), .ref (w 6), .ref (w 7), .int (zI ↑kn), .ref (w 8), .ref (w 9), .ref (w 10), .int (zI ↑ch), .int (zI le), .ref (w 11), .int (zI sf), .int (zI st), .ref (w 12)])), (w 1, .inl (cI, 30, .inl (kA t))), (w 2, .inl (cI, 30, .inl (kA K))), (w 3, .inl (cI, 30, .inl (kZ on))), (w 4, .inl (cI, 30, .inl (kZ ot))), (w 5, .inl (cI, 30, .inl (kZ nu))), (w 8, .inl (cI, 900, .inl (kM (mLast k (mUnder t (K k) (nu k) (nn k) (fun z => G1 (30 * fi k + z)) (fun z => G1 (30 * sc k + z))) 30 30 G1)))), (w 9, .inl (cI, 30, .inl (kM (mUnder t (K k) (nu k) (nn k) (fun z => G1 (30 * fi k + z)) (fun z => G1 (30 * sc k + z))))))]) H := hP
        replace hD : va_D A ([(w 0, .inr (4, [.ref (w 1), .int (zI ↑n), .ref (w 2), .ref (w 3), .ref (w 4), .ref (w 5), .int (zI ↑np), .ref (w 6), .ref (w 7), .int (zI ↑kn), .ref (w 8), .ref (w 9), .ref (w 10), .int (zI ↑ch), .int (zI le), .ref (w 11), .int (zI sf), .int (zI st), .ref (w 12)])), (w 1, .inl (cI, 30, .inl (kA t))), (w 2, .inl (cI, 30, .inl (kA K))), (w 3, .inl (cI, 30, .inl (kZ on))), (w 4, .inl (cI, 30, .inl (kZ ot))), (w 5, .inl (cI, 30, .inl (kZ nu))), (w 8, .inl (cI, 900, .inl (kM (mLast k (mUnder t (K k) (nu k) (nn k) (fun z => G1 (30 * fi k + z)) (fun z => G1 (30 * sc k + z))) 30 30 G1)))), (w 9, .inl (cI, 30, .inl (kM (mUnder t (K k) (nu k) (nn k) (fun z => G1 (30 * fi k + z)) (fun z => G1 (30 * sc k + z))))))]) := hD
        refine k_iinc (v := ↑(k + 1)) (lv' := [(2, .int (zI (↑(k + 1)))), (0, .ref (w 0)), (1, .int (zI ↑q))]) hx hb d_Mo_findAll_12 hl (k := 2) rfl (by omega) (by decide) rfl ?_
        clear hl; intro ls hl
        refine lv_goto (tgt := 2) hx hb d_Mo_findAll_15 (by decide) ?_
        exact ih_2 (k + 1) _ _ (by omega) (mFA_le (c := 1) (k := k) (S := (G1, F1)) hb1) hgo _ _ _ hP hD hS (lv_sub hl [1, 2, 0] rfl)
  exact loop_2 (q + 1) 0 G E0 (by omega) ⟨hG0, hE0⟩ rfl _ _ _ hP hD hS (lv_sub hl [1, 2, 0] rfl)

abbrev rm_Mo_count_1 : Room := { frames := 1, cells := 0, slots := 0, locals := 21 }
set_option maxHeartbeats 4000000 in
set_option maxRecDepth 100000 in
theorem c_Mo_count_1 (l : Launch) (D : va_G) (cI cR cG : ClassId) (w : Nat → Nat) (n np kn ch : Nat) (le sf st : Int) (x : Int) (hx1 : k_sm x) (hn : n ≤ 30) (hb : ¬ (0 ≤ x ∧ x < ↑n)) : k_M l y_Mo_count (.code y_Mo_count b_Mo_count 4 (some .int) :: kW) rm_Mo_count_1 D k_cl (k_ty cI cR cG) [.ref (w 0), .int (zI x)] ([(w 0, .inr (4, [.ref (w 1), .int (zI ↑n), .ref (w 2), .ref (w 3), .ref (w 4), .ref (w 5), .int (zI ↑np), .ref (w 6), .ref (w 7), .int (zI ↑kn), .ref (w 8), .ref (w 9), .ref (w 10), .int (zI ↑ch), .int (zI le), .ref (w 11), .int (zI sf), .int (zI st), .ref (w 12)]))]) (k_Qi D k_cl (zI (-1)) [(w 0, .inr (4, [.ref (w 1), .int (zI ↑n), .ref (w 2), .ref (w 3), .ref (w 4), .ref (w 5), .int (zI ↑np), .ref (w 6), .ref (w 7), .int (zI ↑kn), .ref (w 8), .ref (w 9), .ref (w 10), .int (zI ↑ch), .int (zI le), .ref (w 11), .int (zI sf), .int (zI st), .ref (w 12)]))]) := by
  refine k_start (cc := b_Mo_count) (maxL := 4) (ret := (some .int)) (by decide) rfl (Nat.le_of_ble_eq_true rfl) ?_
  intro p ev s m ar below meth c A ls Qf hQf hx hb hr hml hts hown hlocks hin hK hG hA hP hD hS hl
  replace hown : s.vm.findClass R_Mo = some m.cls := hown
  replace hl : lv_has ls 4 [(0, .ref (w 0)), (1, .int (zI x))] := hl
  have hkw : ∀ w ∈ kW, w.before ar s = true := fun w h => hts w (List.mem_cons_of_mem _ h)
  replace hP : va_P D k_cl ([(w 0, .inr (4, [.ref (w 1), .int (zI ↑n), .ref (w 2), .ref (w 3), .ref (w 4), .ref (w 5), .int (zI ↑np), .ref (w 6), .ref (w 7), .int (zI ↑kn), .ref (w 8), .ref (w 9), .ref (w 10), .int (zI ↑ch), .int (zI le), .ref (w 11), .int (zI sf), .int (zI st), .ref (w 12)]))]) s.heap := hP
  replace hD : va_D A ([(w 0, .inr (4, [.ref (w 1), .int (zI ↑n), .ref (w 2), .ref (w 3), .ref (w 4), .ref (w 5), .int (zI ↑np), .ref (w 6), .ref (w 7), .int (zI ↑kn), .ref (w 8), .ref (w 9), .ref (w 10), .int (zI ↑ch), .int (zI le), .ref (w 11), .int (zI sf), .int (zI st), .ref (w 12)]))]) := hD
  have hx2 := hx1.1
  have hx3 := hx1.2
  refine lv_aload_n hx hb d_Mo_count_0 rfl (lv_at hl 0 rfl) ?_
  refine lv_iload_n hx hb d_Mo_count_1 rfl (lv_at hl 1 rfl) ?_
  refine k_beI (va_runV (As := [.int (zI x)]) (rest := []) ⟨hx, hb, hml, hown, hkw⟩ (c_Mo_isAsk l D cI cR cG w n np kn ch le sf st x ⟨by omega, by omega⟩ (by omega) _) (cwV 1 hkw (k_gV kw_methodLink_Mo_61 kw_instanceMethod_Mo_isAsk kw_selects_Mo_isAsk kw_initialized_Mo kw_code_Mo_isAsk) rfl rfl rfl (by decide +kernel) ⟨(Nat.le_of_ble_eq_true rfl), (Nat.le_of_ble_eq_true rfl)⟩) (k_preV (q0 := 0) hK hG hP hD [0] rfl rfl rfl rfl) rfl rfl hl.1 rfl (lv_room (Nat.le_of_ble_eq_true rfl)) d_Mo_count_2 ⟨Nat.zero_le _, Nat.zero_le _⟩) hP hD hS hA [0] rfl (Eq.trans (b := [w 0]) rfl rfl) ?_
  clear hP hD hS; intro H locs hP hD hS
  replace hP : va_P D k_cl ([(w 0, .inr (4, [.ref (w 1), .int (zI ↑n), .ref (w 2), .ref (w 3), .ref (w 4), .ref (w 5), .int (zI ↑np), .ref (w 6), .ref (w 7), .int (zI ↑kn), .ref (w 8), .ref (w 9), .ref (w 10), .int (zI ↑ch), .int (zI le), .ref (w 11), .int (zI sf), .int (zI st), .ref (w 12)]))]) H := hP
  replace hD : va_D A ([(w 0, .inr (4, [.ref (w 1), .int (zI ↑n), .ref (w 2), .ref (w 3), .ref (w 4), .ref (w 5), .int (zI ↑np), .ref (w 6), .ref (w 7), .int (zI ↑kn), .ref (w 8), .ref (w 9), .ref (w 10), .int (zI ↑ch), .int (zI le), .ref (w 11), .int (zI sf), .int (zI st), .ref (w 12)]))]) := hD
  refine k_bif_ne (tgt := 10) hx hb d_Mo_count_5 (by decide) (fun c_5 => ?_) (fun c_5 => ?_)
  · exfalso; omega
  · refine lv_iconst (v := zI (-1)) hx hb d_Mo_count_8 (by decide) ?_
    rw [← hQf]
    exact k_iret hx hb hr hlocks hP hS rfl d_Mo_count_9

abbrev rm_Mo_begin_1 : Room := { frames := 1, cells := 0, slots := 0, locals := 21 }
set_option maxHeartbeats 4000000 in
set_option maxRecDepth 100000 in
theorem c_Mo_begin_1 (l : Launch) (D : va_G) (cI cR cG : ClassId) (w : Nat → Nat) (n np kn ch : Nat) (le sf st : Int) (x y : Int) (hx1 : k_sm x) (hy1 : k_sm y) (hn : n ≤ 30) (hb : ¬ (0 ≤ x ∧ x < ↑n)) : k_M l y_Mo_begin (.code y_Mo_begin b_Mo_begin 3 (some .int) :: kW) rm_Mo_begin_1 D k_cl (k_ty cI cR cG) [.ref (w 0), .int (zI x), .int (zI y)] ([(w 0, .inr (4, [.ref (w 1), .int (zI ↑n), .ref (w 2), .ref (w 3), .ref (w 4), .ref (w 5), .int (zI ↑np), .ref (w 6), .ref (w 7), .int (zI ↑kn), .ref (w 8), .ref (w 9), .ref (w 10), .int (zI ↑ch), .int (zI le), .ref (w 11), .int (zI sf), .int (zI st), .ref (w 12)]))]) (k_Qi D k_cl (zI (-1)) [(w 0, .inr (4, [.ref (w 1), .int (zI ↑n), .ref (w 2), .ref (w 3), .ref (w 4), .ref (w 5), .int (zI ↑np), .ref (w 6), .ref (w 7), .int (zI ↑kn), .ref (w 8), .ref (w 9), .ref (w 10), .int (zI ↑ch), .int (zI le), .ref (w 11), .int (zI sf), .int (zI st), .ref (w 12)]))]) := by
  refine k_start (cc := b_Mo_begin) (maxL := 3) (ret := (some .int)) (by decide) rfl (Nat.le_of_ble_eq_true rfl) ?_
  intro p ev s m ar below meth c A ls Qf hQf hx hb hr hml hts hown hlocks hin hK hG hA hP hD hS hl
  replace hown : s.vm.findClass R_Mo = some m.cls := hown
  replace hl : lv_has ls 3 [(0, .ref (w 0)), (1, .int (zI x)), (2, .int (zI y))] := hl
  have hkw : ∀ w ∈ kW, w.before ar s = true := fun w h => hts w (List.mem_cons_of_mem _ h)
  replace hP : va_P D k_cl ([(w 0, .inr (4, [.ref (w 1), .int (zI ↑n), .ref (w 2), .ref (w 3), .ref (w 4), .ref (w 5), .int (zI ↑np), .ref (w 6), .ref (w 7), .int (zI ↑kn), .ref (w 8), .ref (w 9), .ref (w 10), .int (zI ↑ch), .int (zI le), .ref (w 11), .int (zI sf), .int (zI st), .ref (w 12)]))]) s.heap := hP
  replace hD : va_D A ([(w 0, .inr (4, [.ref (w 1), .int (zI ↑n), .ref (w 2), .ref (w 3), .ref (w 4), .ref (w 5), .int (zI ↑np), .ref (w 6), .ref (w 7), .int (zI ↑kn), .ref (w 8), .ref (w 9), .ref (w 10), .int (zI ↑ch), .int (zI le), .ref (w 11), .int (zI sf), .int (zI st), .ref (w 12)]))]) := hD
  have hx2 := hx1.1
  have hx3 := hx1.2
  have hy2 := hy1.1
  have hy3 := hy1.2
  refine lv_aload_n hx hb d_Mo_begin_0 rfl (lv_at hl 0 rfl) ?_
  refine lv_iload_n hx hb d_Mo_begin_1 rfl (lv_at hl 1 rfl) ?_
  refine k_beI (va_runV (As := [.int (zI x)]) (rest := []) ⟨hx, hb, hml, hown, hkw⟩ (c_Mo_isAsk l D cI cR cG w n np kn ch le sf st x ⟨by omega, by omega⟩ (by omega) _) (cwV 1 hkw (k_gV kw_methodLink_Mo_61 kw_instanceMethod_Mo_isAsk kw_selects_Mo_isAsk kw_initialized_Mo kw_code_Mo_isAsk) rfl rfl rfl (by decide +kernel) ⟨(Nat.le_of_ble_eq_true rfl), (Nat.le_of_ble_eq_true rfl)⟩) (k_preV (q0 := 0) hK hG hP hD [0] rfl rfl rfl rfl) rfl rfl hl.1 rfl (lv_room (Nat.le_of_ble_eq_true rfl)) d_Mo_begin_2 ⟨Nat.zero_le _, Nat.zero_le _⟩) hP hD hS hA [0] rfl (Eq.trans (b := [w 0]) rfl rfl) ?_
  clear hP hD hS; intro H locs hP hD hS
  replace hP : va_P D k_cl ([(w 0, .inr (4, [.ref (w 1), .int (zI ↑n), .ref (w 2), .ref (w 3), .ref (w 4), .ref (w 5), .int (zI ↑np), .ref (w 6), .ref (w 7), .int (zI ↑kn), .ref (w 8), .ref (w 9), .ref (w 10), .int (zI ↑ch), .int (zI le), .ref (w 11), .int (zI sf), .int (zI st), .ref (w 12)]))]) H := hP
  replace hD : va_D A ([(w 0, .inr (4, [.ref (w 1), .int (zI ↑n), .ref (w 2), .ref (w 3), .ref (w 4), .ref (w 5), .int (zI ↑np), .ref (w 6), .ref (w 7), .int (zI ↑kn), .ref (w 8), .ref (w 9), .ref (w 10), .int (zI ↑ch), .int (zI le), .ref (w 11), .int (zI sf), .int (zI st), .ref (w 12)]))]) := hD
  refine k_bif_ne (tgt := 10) hx hb d_Mo_begin_5 (by decide) (fun c_5 => ?_) (fun c_5 => ?_)
  · exfalso; omega
  · refine lv_iconst (v := zI (-1)) hx hb d_Mo_begin_8 (by decide) ?_
    rw [← hQf]
    exact k_iret hx hb hr hlocks hP hS rfl d_Mo_begin_9

abbrev rm_Mo_end_1 : Room := { frames := 1, cells := 0, slots := 0, locals := 21 }
set_option maxHeartbeats 4000000 in
set_option maxRecDepth 100000 in
theorem c_Mo_end_1 (l : Launch) (D : va_G) (cI cR cG : ClassId) (w : Nat → Nat) (n np kn ch : Nat) (le sf st : Int) (x y : Int) (hx1 : k_sm x) (hy1 : k_sm y) (hn : n ≤ 30) (hb : ¬ (0 ≤ x ∧ x < ↑n)) : k_M l y_Mo_end (.code y_Mo_end b_Mo_end 4 (some .int) :: kW) rm_Mo_end_1 D k_cl (k_ty cI cR cG) [.ref (w 0), .int (zI x), .int (zI y)] ([(w 0, .inr (4, [.ref (w 1), .int (zI ↑n), .ref (w 2), .ref (w 3), .ref (w 4), .ref (w 5), .int (zI ↑np), .ref (w 6), .ref (w 7), .int (zI ↑kn), .ref (w 8), .ref (w 9), .ref (w 10), .int (zI ↑ch), .int (zI le), .ref (w 11), .int (zI sf), .int (zI st), .ref (w 12)]))]) (k_Qi D k_cl (zI (-1)) [(w 0, .inr (4, [.ref (w 1), .int (zI ↑n), .ref (w 2), .ref (w 3), .ref (w 4), .ref (w 5), .int (zI ↑np), .ref (w 6), .ref (w 7), .int (zI ↑kn), .ref (w 8), .ref (w 9), .ref (w 10), .int (zI ↑ch), .int (zI le), .ref (w 11), .int (zI sf), .int (zI st), .ref (w 12)]))]) := by
  refine k_start (cc := b_Mo_end) (maxL := 4) (ret := (some .int)) (by decide) rfl (Nat.le_of_ble_eq_true rfl) ?_
  intro p ev s m ar below meth c A ls Qf hQf hx hb hr hml hts hown hlocks hin hK hG hA hP hD hS hl
  replace hown : s.vm.findClass R_Mo = some m.cls := hown
  replace hl : lv_has ls 4 [(0, .ref (w 0)), (1, .int (zI x)), (2, .int (zI y))] := hl
  have hkw : ∀ w ∈ kW, w.before ar s = true := fun w h => hts w (List.mem_cons_of_mem _ h)
  replace hP : va_P D k_cl ([(w 0, .inr (4, [.ref (w 1), .int (zI ↑n), .ref (w 2), .ref (w 3), .ref (w 4), .ref (w 5), .int (zI ↑np), .ref (w 6), .ref (w 7), .int (zI ↑kn), .ref (w 8), .ref (w 9), .ref (w 10), .int (zI ↑ch), .int (zI le), .ref (w 11), .int (zI sf), .int (zI st), .ref (w 12)]))]) s.heap := hP
  replace hD : va_D A ([(w 0, .inr (4, [.ref (w 1), .int (zI ↑n), .ref (w 2), .ref (w 3), .ref (w 4), .ref (w 5), .int (zI ↑np), .ref (w 6), .ref (w 7), .int (zI ↑kn), .ref (w 8), .ref (w 9), .ref (w 10), .int (zI ↑ch), .int (zI le), .ref (w 11), .int (zI sf), .int (zI st), .ref (w 12)]))]) := hD
  have hx2 := hx1.1
  have hx3 := hx1.2
  have hy2 := hy1.1
  have hy3 := hy1.2
  refine lv_aload_n hx hb d_Mo_end_0 rfl (lv_at hl 0 rfl) ?_
  refine lv_iload_n hx hb d_Mo_end_1 rfl (lv_at hl 1 rfl) ?_
  refine k_beI (va_runV (As := [.int (zI x)]) (rest := []) ⟨hx, hb, hml, hown, hkw⟩ (c_Mo_isAsk l D cI cR cG w n np kn ch le sf st x ⟨by omega, by omega⟩ (by omega) _) (cwV 1 hkw (k_gV kw_methodLink_Mo_61 kw_instanceMethod_Mo_isAsk kw_selects_Mo_isAsk kw_initialized_Mo kw_code_Mo_isAsk) rfl rfl rfl (by decide +kernel) ⟨(Nat.le_of_ble_eq_true rfl), (Nat.le_of_ble_eq_true rfl)⟩) (k_preV (q0 := 0) hK hG hP hD [0] rfl rfl rfl rfl) rfl rfl hl.1 rfl (lv_room (Nat.le_of_ble_eq_true rfl)) d_Mo_end_2 ⟨Nat.zero_le _, Nat.zero_le _⟩) hP hD hS hA [0] rfl (Eq.trans (b := [w 0]) rfl rfl) ?_
  clear hP hD hS; intro H locs hP hD hS
  replace hP : va_P D k_cl ([(w 0, .inr (4, [.ref (w 1), .int (zI ↑n), .ref (w 2), .ref (w 3), .ref (w 4), .ref (w 5), .int (zI ↑np), .ref (w 6), .ref (w 7), .int (zI ↑kn), .ref (w 8), .ref (w 9), .ref (w 10), .int (zI ↑ch), .int (zI le), .ref (w 11), .int (zI sf), .int (zI st), .ref (w 12)]))]) H := hP
  replace hD : va_D A ([(w 0, .inr (4, [.ref (w 1), .int (zI ↑n), .ref (w 2), .ref (w 3), .ref (w 4), .ref (w 5), .int (zI ↑np), .ref (w 6), .ref (w 7), .int (zI ↑kn), .ref (w 8), .ref (w 9), .ref (w 10), .int (zI ↑ch), .int (zI le), .ref (w 11), .int (zI sf), .int (zI st), .ref (w 12)]))]) := hD
  refine k_bif_ne (tgt := 10) hx hb d_Mo_end_5 (by decide) (fun c_5 => ?_) (fun c_5 => ?_)
  · exfalso; omega
  · refine lv_iconst (v := zI (-1)) hx hb d_Mo_end_8 (by decide) ?_
    rw [← hQf]
    exact k_iret hx hb hr hlocks hP hS rfl d_Mo_end_9

abbrev rm_Mo_covered_1 : Room := { frames := 1, cells := 0, slots := 0, locals := 21 }
set_option maxHeartbeats 4000000 in
set_option maxRecDepth 100000 in
theorem c_Mo_covered_1 (l : Launch) (D : va_G) (cI cR cG : ClassId) (w : Nat → Nat) (n np kn ch : Nat) (le sf st : Int) (x : Int) (hx1 : k_sm x) (hn : n ≤ 30) (hb : ¬ (0 ≤ x ∧ x < ↑n)) : k_M l y_Mo_covered (.code y_Mo_covered b_Mo_covered 6 (some .int) :: kW) rm_Mo_covered_1 D k_cl (k_ty cI cR cG) [.ref (w 0), .int (zI x)] ([(w 0, .inr (4, [.ref (w 1), .int (zI ↑n), .ref (w 2), .ref (w 3), .ref (w 4), .ref (w 5), .int (zI ↑np), .ref (w 6), .ref (w 7), .int (zI ↑kn), .ref (w 8), .ref (w 9), .ref (w 10), .int (zI ↑ch), .int (zI le), .ref (w 11), .int (zI sf), .int (zI st), .ref (w 12)]))]) (k_Qi D k_cl (zI (-1)) [(w 0, .inr (4, [.ref (w 1), .int (zI ↑n), .ref (w 2), .ref (w 3), .ref (w 4), .ref (w 5), .int (zI ↑np), .ref (w 6), .ref (w 7), .int (zI ↑kn), .ref (w 8), .ref (w 9), .ref (w 10), .int (zI ↑ch), .int (zI le), .ref (w 11), .int (zI sf), .int (zI st), .ref (w 12)]))]) := by
  refine k_start (cc := b_Mo_covered) (maxL := 6) (ret := (some .int)) (by decide) rfl (Nat.le_of_ble_eq_true rfl) ?_
  intro p ev s m ar below meth c A ls Qf hQf hx hb hr hml hts hown hlocks hin hK hG hA hP hD hS hl
  replace hown : s.vm.findClass R_Mo = some m.cls := hown
  replace hl : lv_has ls 6 [(0, .ref (w 0)), (1, .int (zI x))] := hl
  have hkw : ∀ w ∈ kW, w.before ar s = true := fun w h => hts w (List.mem_cons_of_mem _ h)
  replace hP : va_P D k_cl ([(w 0, .inr (4, [.ref (w 1), .int (zI ↑n), .ref (w 2), .ref (w 3), .ref (w 4), .ref (w 5), .int (zI ↑np), .ref (w 6), .ref (w 7), .int (zI ↑kn), .ref (w 8), .ref (w 9), .ref (w 10), .int (zI ↑ch), .int (zI le), .ref (w 11), .int (zI sf), .int (zI st), .ref (w 12)]))]) s.heap := hP
  replace hD : va_D A ([(w 0, .inr (4, [.ref (w 1), .int (zI ↑n), .ref (w 2), .ref (w 3), .ref (w 4), .ref (w 5), .int (zI ↑np), .ref (w 6), .ref (w 7), .int (zI ↑kn), .ref (w 8), .ref (w 9), .ref (w 10), .int (zI ↑ch), .int (zI le), .ref (w 11), .int (zI sf), .int (zI st), .ref (w 12)]))]) := hD
  have hx2 := hx1.1
  have hx3 := hx1.2
  refine lv_aload_n hx hb d_Mo_covered_0 rfl (lv_at hl 0 rfl) ?_
  refine lv_iload_n hx hb d_Mo_covered_1 rfl (lv_at hl 1 rfl) ?_
  refine k_beI (va_runV (As := [.int (zI x)]) (rest := []) ⟨hx, hb, hml, hown, hkw⟩ (c_Mo_isAsk l D cI cR cG w n np kn ch le sf st x ⟨by omega, by omega⟩ (by omega) _) (cwV 1 hkw (k_gV kw_methodLink_Mo_61 kw_instanceMethod_Mo_isAsk kw_selects_Mo_isAsk kw_initialized_Mo kw_code_Mo_isAsk) rfl rfl rfl (by decide +kernel) ⟨(Nat.le_of_ble_eq_true rfl), (Nat.le_of_ble_eq_true rfl)⟩) (k_preV (q0 := 0) hK hG hP hD [0] rfl rfl rfl rfl) rfl rfl hl.1 rfl (lv_room (Nat.le_of_ble_eq_true rfl)) d_Mo_covered_2 ⟨Nat.zero_le _, Nat.zero_le _⟩) hP hD hS hA [0] rfl (Eq.trans (b := [w 0]) rfl rfl) ?_
  clear hP hD hS; intro H locs hP hD hS
  replace hP : va_P D k_cl ([(w 0, .inr (4, [.ref (w 1), .int (zI ↑n), .ref (w 2), .ref (w 3), .ref (w 4), .ref (w 5), .int (zI ↑np), .ref (w 6), .ref (w 7), .int (zI ↑kn), .ref (w 8), .ref (w 9), .ref (w 10), .int (zI ↑ch), .int (zI le), .ref (w 11), .int (zI sf), .int (zI st), .ref (w 12)]))]) H := hP
  replace hD : va_D A ([(w 0, .inr (4, [.ref (w 1), .int (zI ↑n), .ref (w 2), .ref (w 3), .ref (w 4), .ref (w 5), .int (zI ↑np), .ref (w 6), .ref (w 7), .int (zI ↑kn), .ref (w 8), .ref (w 9), .ref (w 10), .int (zI ↑ch), .int (zI le), .ref (w 11), .int (zI sf), .int (zI st), .ref (w 12)]))]) := hD
  refine k_bif_ne (tgt := 10) hx hb d_Mo_covered_5 (by decide) (fun c_5 => ?_) (fun c_5 => ?_)
  · exfalso; omega
  · refine lv_iconst (v := zI (-1)) hx hb d_Mo_covered_8 (by decide) ?_
    rw [← hQf]
    exact k_iret hx hb hr hlocks hP hS rfl d_Mo_covered_9

abbrev rm_Mo_nth : Room := { frames := 0, cells := 0, slots := 0, locals := 0 }
set_option maxHeartbeats 4000000 in
set_option maxRecDepth 100000 in
theorem c_Mo_nth (l : Launch) (D : va_G) (cI cR cG : ClassId) (w : Nat → Nat) (n np kn ch : Nat) (le sf st : Int) (x : Nat) (k : Int) (G : Nat → Nat) (hx0 : x < 30) (hk1 : k_sm k) (hG0 : ∀ u, G u ≤ 30) : k_M l y_Mo_nth (.code y_Mo_nth b_Mo_nth 5 (some .int) :: kW) rm_Mo_nth D k_cl (k_ty cI cR cG) [.ref (w 0), .int (zI ↑x), .int (zI k)] ([(w 0, .inr (4, [.ref (w 1), .int (zI ↑n), .ref (w 2), .ref (w 3), .ref (w 4), .ref (w 5), .int (zI ↑np), .ref (w 6), .ref (w 7), .int (zI ↑kn), .ref (w 8), .ref (w 9), .ref (w 10), .int (zI ↑ch), .int (zI le), .ref (w 11), .int (zI sf), .int (zI st), .ref (w 12)])), (w 8, .inl (cI, 900, .inl (kM G)))]) (k_Qi D k_cl (zI (rBegin (fun z => G (30 * x + z)) k 30 0 0)) [(w 0, .inr (4, [.ref (w 1), .int (zI ↑n), .ref (w 2), .ref (w 3), .ref (w 4), .ref (w 5), .int (zI ↑np), .ref (w 6), .ref (w 7), .int (zI ↑kn), .ref (w 8), .ref (w 9), .ref (w 10), .int (zI ↑ch), .int (zI le), .ref (w 11), .int (zI sf), .int (zI st), .ref (w 12)])), (w 8, .inl (cI, 900, .inl (kM G)))]) := by
  refine k_start (cc := b_Mo_nth) (maxL := 5) (ret := (some .int)) (by decide) rfl (Nat.le_of_ble_eq_true rfl) ?_
  intro p ev s m ar below meth c A ls Qf hQf hx hb hr hml hts hown hlocks hin hK hG hA hP hD hS hl
  replace hown : s.vm.findClass R_Mo = some m.cls := hown
  replace hl : lv_has ls 5 [(0, .ref (w 0)), (1, .int (zI ↑x)), (2, .int (zI k))] := hl
  have hkw : ∀ w ∈ kW, w.before ar s = true := fun w h => hts w (List.mem_cons_of_mem _ h)
  replace hP : va_P D k_cl ([(w 0, .inr (4, [.ref (w 1), .int (zI ↑n), .ref (w 2), .ref (w 3), .ref (w 4), .ref (w 5), .int (zI ↑np), .ref (w 6), .ref (w 7), .int (zI ↑kn), .ref (w 8), .ref (w 9), .ref (w 10), .int (zI ↑ch), .int (zI le), .ref (w 11), .int (zI sf), .int (zI st), .ref (w 12)])), (w 8, .inl (cI, 900, .inl (kM G)))]) s.heap := hP
  replace hD : va_D A ([(w 0, .inr (4, [.ref (w 1), .int (zI ↑n), .ref (w 2), .ref (w 3), .ref (w 4), .ref (w 5), .int (zI ↑np), .ref (w 6), .ref (w 7), .int (zI ↑kn), .ref (w 8), .ref (w 9), .ref (w 10), .int (zI ↑ch), .int (zI le), .ref (w 11), .int (zI sf), .int (zI st), .ref (w 12)])), (w 8, .inl (cI, 900, .inl (kM G)))]) := hD
  have hk2 := hk1.1
  have hk3 := hk1.2
  refine lv_iload_n hx hb d_Mo_nth_0 rfl (lv_at hl 2 rfl) ?_
  refine k_stk (st2 := [.int (zI (k - ↑0))]) (by rw [show (k - ↑0 : Int) = k from by omega]) ?_
  refine lv_istore_n (lv' := [(3, .int (zI (k - ↑0))), (0, .ref (w 0)), (1, .int (zI ↑x)), (2, .int (zI k))]) hx hb d_Mo_nth_1 rfl hl (by decide) rfl ?_
  clear hl; intro ls hl
  refine lv_iconst (v := zI 0) hx hb d_Mo_nth_2 (by decide) ?_
  refine lv_istore (lv' := [(4, .int (zI 0)), (3, .int (zI (k - ↑0))), (0, .ref (w 0)), (1, .int (zI ↑x)), (2, .int (zI k))]) hx hb d_Mo_nth_3 hl (by decide) rfl ?_
  clear hl; intro ls hl
  have loop_5 : ∀ (y : Nat) (i : Nat) (b : Nat), (i + y = 30) → (b ≤ i) → (rBegin (fun z => G (30 * x + z)) k y i b = rBegin (fun z => G (30 * x + z)) k 30 0 0) → ∀ (H : Heap) (locs : List Loc) (ls : Array Slot), va_P D k_cl ([(w 0, .inr (4, [.ref (w 1), .int (zI ↑n), .ref (w 2), .ref (w 3), .ref (w 4), .ref (w 5), .int (zI ↑np), .ref (w 6), .ref (w 7), .int (zI ↑kn), .ref (w 8), .ref (w 9), .ref (w 10), .int (zI ↑ch), .int (zI le), .ref (w 11), .int (zI sf), .int (zI st), .ref (w 12)])), (w 8, .inl (cI, 900, .inl (kM G)))]) H → va_D A ([(w 0, .inr (4, [.ref (w 1), .int (zI ↑n), .ref (w 2), .ref (w 3), .ref (w 4), .ref (w 5), .int (zI ↑np), .ref (w 6), .ref (w 7), .int (zI ↑kn), .ref (w 8), .ref (w 9), .ref (w 10), .int (zI ↑ch), .int (zI le), .ref (w 11), .int (zI sf), .int (zI st), .ref (w 12)])), (w 8, .inl (cI, 900, .inl (kM G)))]) → va_S A s.heap H locs → lv_has ls 5 [(0, .ref (w 0)), (1, .int (zI ↑x)), (2, .int (zI k)), (3, .int (zI (k - ↑b))), (4, .int (zI ↑i))] → W p l ev rm_Mo_nth s m ar below meth c H locs 0 0 Qf (F0 m 5 ls []) := by
    intro y
    induction y with
    | zero =>
      intro i b hin hbi hgo H locs ls hP hD hS hl
      refine lv_iload hx hb d_Mo_nth_5 (lv_at hl 4 rfl) ?_
      refine lv_bipush (v := zI 30) hx hb d_Mo_nth_7 (by decide) ?_
      refine k_icmp_ge (tgt := 43) hx hb d_Mo_nth_9 (by decide) ⟨by omega, by omega⟩ ⟨by omega, by omega⟩ (fun c_9 => ?_) (fun c_9 => ?_)
      · refine lv_iconst (v := zI (-1)) hx hb d_Mo_nth_43 (by decide) ?_
        rw [← hQf]
        exact k_iret hx hb hr hlocks hP hS (by rw [← hgo]; rfl) d_Mo_nth_44
      · exfalso; omega
    | succ y ih_5 =>
      intro i b hin hbi hgo H locs ls hP hD hS hl
      refine lv_iload hx hb d_Mo_nth_5 (lv_at hl 4 rfl) ?_
      refine lv_bipush (v := zI 30) hx hb d_Mo_nth_7 (by decide) ?_
      refine k_icmp_ge (tgt := 43) hx hb d_Mo_nth_9 (by decide) ⟨by omega, by omega⟩ ⟨by omega, by omega⟩ (fun c_9 => ?_) (fun c_9 => ?_)
      · exfalso; omega
      · refine lv_aload_n hx hb d_Mo_nth_12 rfl (lv_at hl 0 rfl) ?_
        refine va_get (D := D) (ci := 4) (v := .ref (w 8)) (C := R_Mo) (T := T_Mo) (N := 19) hx hb hkw kin_Mo hown hK hP 0 rfl rfl 10 (by decide) (hkw _ kw_fieldLink_Mo_31) (fun _ h9 => h9) rfl d_Mo_nth_13 ?_
        refine lv_bipush (v := zI 30) hx hb d_Mo_nth_16 (by decide) ?_
        refine lv_iload_n hx hb d_Mo_nth_18 rfl (lv_at hl 1 rfl) ?_
        refine k_imul (v := ↑(30 * x)) hx hb d_Mo_nth_19 (by omega) ?_
        refine lv_iload hx hb d_Mo_nth_20 (lv_at hl 4 rfl) ?_
        refine k_iadd (v := ↑(30 * x + i)) hx hb d_Mo_nth_22 (by omega) ?_
        refine k_aldM hx hb hK hP 1 0 rfl rfl (i := (30 * x + i)) (by omega) (by omega) (by omega) d_Mo_nth_23 ?_
        have hv_1 := hG0 (30 * x + i)
        have hm_2 := mz_or (G (30 * x + i))
        refine k_if_lt (tgt := 37) hx hb d_Mo_nth_24 (by decide) ⟨by omega, by omega⟩ (fun c_24 => ?_) (fun c_24 => ?_)
        · refine k_iinc (v := ↑(i + 1)) (lv' := [(4, .int (zI (↑(i + 1)))), (0, .ref (w 0)), (1, .int (zI ↑x)), (2, .int (zI k)), (3, .int (zI (k - ↑b)))]) hx hb d_Mo_nth_37 hl (k := 4) rfl (by omega) (by decide) rfl ?_
          clear hl; intro ls hl
          refine lv_goto (tgt := 5) hx hb d_Mo_nth_40 (by decide) ?_
          exact ih_5 (i + 1) b (by omega) (by omega) (by rw [rBegin] at hgo; (repeat' split at hgo); all_goals first | exact hgo | (exfalso; omega)) _ _ _ hP hD hS (lv_sub hl [1, 2, 3, 4, 0] rfl)
        · refine lv_iload_n hx hb d_Mo_nth_27 rfl (lv_at hl 3 rfl) ?_
          refine k_if_ne0 (tgt := 34) hx hb d_Mo_nth_28 (by decide) ⟨by omega, by omega⟩ (fun c_28 => ?_) (fun c_28 => ?_)
          · refine k_iinc (v := k - ↑(b + 1)) (lv' := [(3, .int (zI (k - ↑(b + 1)))), (0, .ref (w 0)), (1, .int (zI ↑x)), (2, .int (zI k)), (4, .int (zI ↑i))]) hx hb d_Mo_nth_34 hl (k := 3) rfl (by omega) (by decide) rfl ?_
            clear hl; intro ls hl
            refine k_iinc (v := ↑(i + 1)) (lv' := [(4, .int (zI (↑(i + 1)))), (3, .int (zI (k - ↑(b + 1)))), (0, .ref (w 0)), (1, .int (zI ↑x)), (2, .int (zI k))]) hx hb d_Mo_nth_37 hl (k := 4) rfl (by omega) (by decide) rfl ?_
            clear hl; intro ls hl
            refine lv_goto (tgt := 5) hx hb d_Mo_nth_40 (by decide) ?_
            exact ih_5 (i + 1) (b + 1) (by omega) (by omega) (by rw [rBegin] at hgo; (repeat' split at hgo); all_goals first | exact hgo | (exfalso; omega)) _ _ _ hP hD hS (lv_sub hl [2, 3, 4, 1, 0] rfl)
          · refine lv_iload hx hb d_Mo_nth_31 (lv_at hl 4 rfl) ?_
            rw [← hQf]
            exact k_iret hx hb hr hlocks hP hS (congrArg zI (by rw [rBegin] at hgo; (repeat' split at hgo); all_goals first | exact hgo | (exfalso; omega))) d_Mo_nth_33
  exact loop_5 30 0 0 (by omega) (by omega) rfl _ _ _ hP hD hS (lv_sub hl [2, 3, 4, 1, 0] rfl)

abbrev rm_Mo_begin_2 : Room := { frames := 5, cells := 0, slots := 0, locals := 122 }
set_option maxHeartbeats 4000000 in
set_option maxRecDepth 100000 in
theorem c_Mo_begin_2 (l : Launch) (D : va_G) (cI cR cG : ClassId) (w : Nat → Nat) (n np kn ch : Nat) (le sf st : Int) (x : Nat) (y : Int) (t K fi sc nn : Nat → Nat) (on ot nu : Nat → Int) (G E0 : Nat → Nat) (hy1 : k_sm y) (hxn : x < n) (hn30 : n ≤ 30) (hok : askOK n K fi sc nn) (hmo : moOK n K fi sc nn on ot nu) (hK0 : ∀ u, K u ≤ 10) (hnu : ∀ u, k_sm (nu u)) (ht : ∀ j, t j ≤ 1023) (hG0 : ∀ u, G u ≤ 30) (hE0 : ∀ u, E0 u ≤ 30) : k_M l y_Mo_begin (.code y_Mo_begin b_Mo_begin 3 (some .int) :: kW) rm_Mo_begin_2 D k_cl (k_ty cI cR cG) [.ref (w 0), .int (zI ↑x), .int (zI y)] ([(w 0, .inr (4, [.ref (w 1), .int (zI ↑n), .ref (w 2), .ref (w 3), .ref (w 4), .ref (w 5), .int (zI ↑np), .ref (w 6), .ref (w 7), .int (zI ↑kn), .ref (w 8), .ref (w 9), .ref (w 10), .int (zI ↑ch), .int (zI le), .ref (w 11), .int (zI sf), .int (zI st), .ref (w 12)])), (w 1, .inl (cI, 30, .inl (kA t))), (w 2, .inl (cI, 30, .inl (kA K))), (w 3, .inl (cI, 30, .inl (kZ on))), (w 4, .inl (cI, 30, .inl (kZ ot))), (w 5, .inl (cI, 30, .inl (kZ nu))), (w 8, .inl (cI, 900, .inl (kM G))), (w 9, .inl (cI, 30, .inl (kM E0)))]) (k_Qi D k_cl (zI (rBegin (fun z => (mFA t K fi sc nn nu (x + 1) 0 (G, E0)).1 (30 * x + z)) y 30 0 0)) [(w 0, .inr (4, [.ref (w 1), .int (zI ↑n), .ref (w 2), .ref (w 3), .ref (w 4), .ref (w 5), .int (zI ↑np), .ref (w 6), .ref (w 7), .int (zI ↑kn), .ref (w 8), .ref (w 9), .ref (w 10), .int (zI ↑ch), .int (zI le), .ref (w 11), .int (zI sf), .int (zI st), .ref (w 12)])), (w 1, .inl (cI, 30, .inl (kA t))), (w 2, .inl (cI, 30, .inl (kA K))), (w 3, .inl (cI, 30, .inl (kZ on))), (w 4, .inl (cI, 30, .inl (kZ ot))), (w 5, .inl (cI, 30, .inl (kZ nu))), (w 8, .inl (cI, 900, .inl (kM ((mFA t K fi sc nn nu (x + 1) 0 (G, E0)).1)))), (w 9, .inl (cI, 30, .inl (kM ((mFA t K fi sc nn nu (x + 1) 0 (G, E0)).2))))]) := by
  refine k_start (cc := b_Mo_begin) (maxL := 3) (ret := (some .int)) (by decide) rfl (Nat.le_of_ble_eq_true rfl) ?_
  intro p ev s m ar below meth c A ls Qf hQf hx hb hr hml hts hown hlocks hin hK hG hA hP hD hS hl
  replace hown : s.vm.findClass R_Mo = some m.cls := hown
  replace hl : lv_has ls 3 [(0, .ref (w 0)), (1, .int (zI ↑x)), (2, .int (zI y))] := hl
  have hkw : ∀ w ∈ kW, w.before ar s = true := fun w h => hts w (List.mem_cons_of_mem _ h)
  replace hP : va_P D k_cl ([(w 0, .inr (4, [.ref (w 1), .int (zI ↑n), .ref (w 2), .ref (w 3), .ref (w 4), .ref (w 5), .int (zI ↑np), .ref (w 6), .ref (w 7), .int (zI ↑kn), .ref (w 8), .ref (w 9), .ref (w 10), .int (zI ↑ch), .int (zI le), .ref (w 11), .int (zI sf), .int (zI st), .ref (w 12)])), (w 1, .inl (cI, 30, .inl (kA t))), (w 2, .inl (cI, 30, .inl (kA K))), (w 3, .inl (cI, 30, .inl (kZ on))), (w 4, .inl (cI, 30, .inl (kZ ot))), (w 5, .inl (cI, 30, .inl (kZ nu))), (w 8, .inl (cI, 900, .inl (kM G))), (w 9, .inl (cI, 30, .inl (kM E0)))]) s.heap := hP
  replace hD : va_D A ([(w 0, .inr (4, [.ref (w 1), .int (zI ↑n), .ref (w 2), .ref (w 3), .ref (w 4), .ref (w 5), .int (zI ↑np), .ref (w 6), .ref (w 7), .int (zI ↑kn), .ref (w 8), .ref (w 9), .ref (w 10), .int (zI ↑ch), .int (zI le), .ref (w 11), .int (zI sf), .int (zI st), .ref (w 12)])), (w 1, .inl (cI, 30, .inl (kA t))), (w 2, .inl (cI, 30, .inl (kA K))), (w 3, .inl (cI, 30, .inl (kZ on))), (w 4, .inl (cI, 30, .inl (kZ ot))), (w 5, .inl (cI, 30, .inl (kZ nu))), (w 8, .inl (cI, 900, .inl (kM G))), (w 9, .inl (cI, 30, .inl (kM E0)))]) := hD
  have hy2 := hy1.1
  have hy3 := hy1.2
  refine lv_aload_n hx hb d_Mo_begin_0 rfl (lv_at hl 0 rfl) ?_
  refine lv_iload_n hx hb d_Mo_begin_1 rfl (lv_at hl 1 rfl) ?_
  refine k_beI (va_runV (As := [.int (zI ↑x)]) (rest := []) ⟨hx, hb, hml, hown, hkw⟩ (c_Mo_isAsk l D cI cR cG w n np kn ch le sf st ↑x ⟨by omega, by omega⟩ (by omega) _) (cwV 1 hkw (k_gV kw_methodLink_Mo_61 kw_instanceMethod_Mo_isAsk kw_selects_Mo_isAsk kw_initialized_Mo kw_code_Mo_isAsk) rfl rfl rfl (by decide +kernel) ⟨(Nat.le_of_ble_eq_true rfl), (Nat.le_of_ble_eq_true rfl)⟩) (k_preV (q0 := 0) hK hG hP hD [0] rfl rfl rfl rfl) rfl rfl hl.1 rfl (lv_room (Nat.le_of_ble_eq_true rfl)) d_Mo_begin_2 ⟨Nat.zero_le _, Nat.zero_le _⟩) hP hD hS hA [0] rfl (Eq.trans (b := [w 0]) rfl rfl) ?_
  clear hP hD hS; intro H locs hP hD hS
  replace hP : va_P D k_cl ([(w 0, .inr (4, [.ref (w 1), .int (zI ↑n), .ref (w 2), .ref (w 3), .ref (w 4), .ref (w 5), .int (zI ↑np), .ref (w 6), .ref (w 7), .int (zI ↑kn), .ref (w 8), .ref (w 9), .ref (w 10), .int (zI ↑ch), .int (zI le), .ref (w 11), .int (zI sf), .int (zI st), .ref (w 12)])), (w 1, .inl (cI, 30, .inl (kA t))), (w 2, .inl (cI, 30, .inl (kA K))), (w 3, .inl (cI, 30, .inl (kZ on))), (w 4, .inl (cI, 30, .inl (kZ ot))), (w 5, .inl (cI, 30, .inl (kZ nu))), (w 8, .inl (cI, 900, .inl (kM G))), (w 9, .inl (cI, 30, .inl (kM E0)))]) H := hP
  replace hD : va_D A ([(w 0, .inr (4, [.ref (w 1), .int (zI ↑n), .ref (w 2), .ref (w 3), .ref (w 4), .ref (w 5), .int (zI ↑np), .ref (w 6), .ref (w 7), .int (zI ↑kn), .ref (w 8), .ref (w 9), .ref (w 10), .int (zI ↑ch), .int (zI le), .ref (w 11), .int (zI sf), .int (zI st), .ref (w 12)])), (w 1, .inl (cI, 30, .inl (kA t))), (w 2, .inl (cI, 30, .inl (kA K))), (w 3, .inl (cI, 30, .inl (kZ on))), (w 4, .inl (cI, 30, .inl (kZ ot))), (w 5, .inl (cI, 30, .inl (kZ nu))), (w 8, .inl (cI, 900, .inl (kM G))), (w 9, .inl (cI, 30, .inl (kM E0)))]) := hD
  refine k_bif_ne (tgt := 10) hx hb d_Mo_begin_5 (by decide) (fun c_5 => ?_) (fun c_5 => ?_)
  · refine lv_aload_n hx hb d_Mo_begin_10 rfl (lv_at hl 0 rfl) ?_
    refine lv_iload_n hx hb d_Mo_begin_11 rfl (lv_at hl 1 rfl) ?_
    refine k_beV (va_runV (As := [.int (zI ↑x)]) (rest := []) ⟨hx, hb, hml, hown, hkw⟩ (c_Mo_findAll l D cI cR cG w n np kn ch le sf st x t K fi sc nn on ot nu G E0 hxn hn30 hok hmo hK0 hnu ht hG0 hE0 _) (cwV 1 hkw (k_gV kw_methodLink_Mo_88 kw_instanceMethod_Mo_findAll kw_selects_Mo_findAll kw_initialized_Mo kw_code_Mo_findAll) rfl rfl rfl (by decide +kernel) ⟨Nat.le_of_ble_eq_true rfl, Nat.le_of_ble_eq_true rfl⟩) (k_preV (q0 := 0) hK hG hP hD [0, 1, 2, 3, 4, 5, 6, 7] rfl rfl rfl rfl) rfl rfl hl.1 rfl (lv_room (Nat.le_of_ble_eq_true rfl)) d_Mo_begin_12 ⟨Nat.zero_le _, Nat.zero_le _⟩) hP hD hS hA [0, 1, 2, 3, 4, 5, 6, 7] rfl (Eq.trans (b := [w 0, w 1, w 2, w 3, w 4, w 5, w 8, w 9]) rfl rfl) ?_
    clear hP hD hS; intro H locs hP hD hS
    replace hP : va_P D k_cl ([(w 0, .inr (4, [.ref (w 1), .int (zI ↑n), .ref (w 2), .ref (w 3), .ref (w 4), .ref (w 5), .int (zI ↑np), .ref (w 6), .ref (w 7), .int (zI ↑kn), .ref (w 8), .ref (w 9), .ref (w 10), .int (zI ↑ch), .int (zI le), .ref (w 11), .int (zI sf), .int (zI st), .ref (w 12)])), (w 1, .inl (cI, 30, .inl (kA t))), (w 2, .inl (cI, 30, .inl (kA K))), (w 3, .inl (cI, 30, .inl (kZ on))), (w 4, .inl (cI, 30, .inl (kZ ot))), (w 5, .inl (cI, 30, .inl (kZ nu))), (w 8, .inl (cI, 900, .inl (kM ((mFA t K fi sc nn nu (x + 1) 0 (G, E0)).1)))), (w 9, .inl (cI, 30, .inl (kM ((mFA t K fi sc nn nu (x + 1) 0 (G, E0)).2))))]) H := hP
    replace hD : va_D A ([(w 0, .inr (4, [.ref (w 1), .int (zI ↑n), .ref (w 2), .ref (w 3), .ref (w 4), .ref (w 5), .int (zI ↑np), .ref (w 6), .ref (w 7), .int (zI ↑kn), .ref (w 8), .ref (w 9), .ref (w 10), .int (zI ↑ch), .int (zI le), .ref (w 11), .int (zI sf), .int (zI st), .ref (w 12)])), (w 1, .inl (cI, 30, .inl (kA t))), (w 2, .inl (cI, 30, .inl (kA K))), (w 3, .inl (cI, 30, .inl (kZ on))), (w 4, .inl (cI, 30, .inl (kZ ot))), (w 5, .inl (cI, 30, .inl (kZ nu))), (w 8, .inl (cI, 900, .inl (kM ((mFA t K fi sc nn nu (x + 1) 0 (G, E0)).1)))), (w 9, .inl (cI, 30, .inl (kM ((mFA t K fi sc nn nu (x + 1) 0 (G, E0)).2))))]) := hD
    obtain ⟨G9, hG9⟩ : ∃ G9 : Nat → Nat, G9 = (mFA t K fi sc nn nu (x + 1) 0 (G, E0)).1 := ⟨_, rfl⟩
    obtain ⟨F9, hF9⟩ : ∃ F9 : Nat → Nat, F9 = (mFA t K fi sc nn nu (x + 1) 0 (G, E0)).2 := ⟨_, rfl⟩
    replace hP : va_P D k_cl [(w 0, .inr (4, [.ref (w 1), .int (zI ↑n), .ref (w 2), .ref (w 3), .ref (w 4), .ref (w 5), .int (zI ↑np), .ref (w 6), .ref (w 7), .int (zI ↑kn), .ref (w 8), .ref (w 9), .ref (w 10), .int (zI ↑ch), .int (zI le), .ref (w 11), .int (zI sf), .int (zI st), .ref (w 12)])), (w 1, .inl (cI, 30, .inl (kA t))), (w 2, .inl (cI, 30, .inl (kA K))), (w 3, .inl (cI, 30, .inl (kZ on))), (w 4, .inl (cI, 30, .inl (kZ ot))), (w 5, .inl (cI, 30, .inl (kZ nu))), (w 8, .inl (cI, 900, .inl (kM G9))), (w 9, .inl (cI, 30, .inl (kM F9)))] H := by rw [hG9, hF9]; exact hP
    replace hD : va_D A [(w 0, .inr (4, [.ref (w 1), .int (zI ↑n), .ref (w 2), .ref (w 3), .ref (w 4), .ref (w 5), .int (zI ↑np), .ref (w 6), .ref (w 7), .int (zI ↑kn), .ref (w 8), .ref (w 9), .ref (w 10), .int (zI ↑ch), .int (zI le), .ref (w 11), .int (zI sf), .int (zI st), .ref (w 12)])), (w 1, .inl (cI, 30, .inl (kA t))), (w 2, .inl (cI, 30, .inl (kA K))), (w 3, .inl (cI, 30, .inl (kZ on))), (w 4, .inl (cI, 30, .inl (kZ ot))), (w 5, .inl (cI, 30, .inl (kZ nu))), (w 8, .inl (cI, 900, .inl (kM G9))), (w 9, .inl (cI, 30, .inl (kM F9)))] := by rw [hG9, hF9]; exact hD
    have hb9 : ∀ u, G9 u ≤ 30 := by rw [hG9]; exact (mFA_le ⟨hG0, hE0⟩).1
    refine lv_aload_n hx hb d_Mo_begin_15 rfl (lv_at hl 0 rfl) ?_
    refine lv_iload_n hx hb d_Mo_begin_16 rfl (lv_at hl 1 rfl) ?_
    refine lv_iload_n hx hb d_Mo_begin_17 rfl (lv_at hl 2 rfl) ?_
    refine k_beI (va_runV (As := [.int (zI ↑x), .int (zI y)]) (rest := []) ⟨hx, hb, hml, hown, hkw⟩ (c_Mo_nth l D cI cR cG w n np kn ch le sf st x y G9 (by omega) hy1 hb9 _) (cwV 2 hkw (k_gV kw_methodLink_Mo_91 kw_instanceMethod_Mo_nth kw_selects_Mo_nth kw_initialized_Mo kw_code_Mo_nth) rfl rfl rfl (by decide +kernel) ⟨(Nat.le_of_ble_eq_true rfl), (Nat.le_of_ble_eq_true rfl)⟩) (k_preV (q0 := 0) hK hG hP hD [0, 6] rfl rfl rfl rfl) rfl rfl hl.1 rfl (lv_room (Nat.le_of_ble_eq_true rfl)) d_Mo_begin_18 ⟨Nat.zero_le _, Nat.zero_le _⟩) hP hD hS hA [0, 6] rfl (Eq.trans (b := [w 0, w 8]) rfl rfl) ?_
    clear hP hD hS; intro H locs hP hD hS
    replace hP : va_P D k_cl ([(w 0, .inr (4, [.ref (w 1), .int (zI ↑n), .ref (w 2), .ref (w 3), .ref (w 4), .ref (w 5), .int (zI ↑np), .ref (w 6), .ref (w 7), .int (zI ↑kn), .ref (w 8), .ref (w 9), .ref (w 10), .int (zI ↑ch), .int (zI le), .ref (w 11), .int (zI sf), .int (zI st), .ref (w 12)])), (w 1, .inl (cI, 30, .inl (kA t))), (w 2, .inl (cI, 30, .inl (kA K))), (w 3, .inl (cI, 30, .inl (kZ on))), (w 4, .inl (cI, 30, .inl (kZ ot))), (w 5, .inl (cI, 30, .inl (kZ nu))), (w 8, .inl (cI, 900, .inl (kM G9))), (w 9, .inl (cI, 30, .inl (kM F9)))]) H := hP
    replace hD : va_D A ([(w 0, .inr (4, [.ref (w 1), .int (zI ↑n), .ref (w 2), .ref (w 3), .ref (w 4), .ref (w 5), .int (zI ↑np), .ref (w 6), .ref (w 7), .int (zI ↑kn), .ref (w 8), .ref (w 9), .ref (w 10), .int (zI ↑ch), .int (zI le), .ref (w 11), .int (zI sf), .int (zI st), .ref (w 12)])), (w 1, .inl (cI, 30, .inl (kA t))), (w 2, .inl (cI, 30, .inl (kA K))), (w 3, .inl (cI, 30, .inl (kZ on))), (w 4, .inl (cI, 30, .inl (kZ ot))), (w 5, .inl (cI, 30, .inl (kZ nu))), (w 8, .inl (cI, 900, .inl (kM G9))), (w 9, .inl (cI, 30, .inl (kM F9)))]) := hD
    subst hG9 hF9
    rw [← hQf]
    exact k_iret hx hb hr hlocks hP hS rfl d_Mo_begin_21
  · exfalso; omega

abbrev rm_Mo_end_2 : Room := { frames := 5, cells := 0, slots := 0, locals := 122 }
set_option maxHeartbeats 4000000 in
set_option maxRecDepth 100000 in
theorem c_Mo_end_2 (l : Launch) (D : va_G) (cI cR cG : ClassId) (w : Nat → Nat) (n np kn ch : Nat) (le sf st : Int) (x : Nat) (y : Int) (t K fi sc nn : Nat → Nat) (on ot nu : Nat → Int) (G E0 : Nat → Nat) (hy1 : k_sm y) (hxn : x < n) (hn30 : n ≤ 30) (hok : askOK n K fi sc nn) (hmo : moOK n K fi sc nn on ot nu) (hK0 : ∀ u, K u ≤ 10) (hnu : ∀ u, k_sm (nu u)) (ht : ∀ j, t j ≤ 1023) (hG0 : ∀ u, G u ≤ 30) (hE0 : ∀ u, E0 u ≤ 30) : k_M l y_Mo_end (.code y_Mo_end b_Mo_end 4 (some .int) :: kW) rm_Mo_end_2 D k_cl (k_ty cI cR cG) [.ref (w 0), .int (zI ↑x), .int (zI y)] ([(w 0, .inr (4, [.ref (w 1), .int (zI ↑n), .ref (w 2), .ref (w 3), .ref (w 4), .ref (w 5), .int (zI ↑np), .ref (w 6), .ref (w 7), .int (zI ↑kn), .ref (w 8), .ref (w 9), .ref (w 10), .int (zI ↑ch), .int (zI le), .ref (w 11), .int (zI sf), .int (zI st), .ref (w 12)])), (w 1, .inl (cI, 30, .inl (kA t))), (w 2, .inl (cI, 30, .inl (kA K))), (w 3, .inl (cI, 30, .inl (kZ on))), (w 4, .inl (cI, 30, .inl (kZ ot))), (w 5, .inl (cI, 30, .inl (kZ nu))), (w 8, .inl (cI, 900, .inl (kM G))), (w 9, .inl (cI, 30, .inl (kM E0)))]) (k_Qi D k_cl (zI (rEnd (fun z => (mFA t K fi sc nn nu (x + 1) 0 (G, E0)).1 (30 * x + z)) y)) [(w 0, .inr (4, [.ref (w 1), .int (zI ↑n), .ref (w 2), .ref (w 3), .ref (w 4), .ref (w 5), .int (zI ↑np), .ref (w 6), .ref (w 7), .int (zI ↑kn), .ref (w 8), .ref (w 9), .ref (w 10), .int (zI ↑ch), .int (zI le), .ref (w 11), .int (zI sf), .int (zI st), .ref (w 12)])), (w 1, .inl (cI, 30, .inl (kA t))), (w 2, .inl (cI, 30, .inl (kA K))), (w 3, .inl (cI, 30, .inl (kZ on))), (w 4, .inl (cI, 30, .inl (kZ ot))), (w 5, .inl (cI, 30, .inl (kZ nu))), (w 8, .inl (cI, 900, .inl (kM ((mFA t K fi sc nn nu (x + 1) 0 (G, E0)).1)))), (w 9, .inl (cI, 30, .inl (kM ((mFA t K fi sc nn nu (x + 1) 0 (G, E0)).2))))]) := by
  refine k_start (cc := b_Mo_end) (maxL := 4) (ret := (some .int)) (by decide) rfl (Nat.le_of_ble_eq_true rfl) ?_
  intro p ev s m ar below meth c A ls Qf hQf hx hb hr hml hts hown hlocks hin hK hG hA hP hD hS hl
  replace hown : s.vm.findClass R_Mo = some m.cls := hown
  replace hl : lv_has ls 4 [(0, .ref (w 0)), (1, .int (zI ↑x)), (2, .int (zI y))] := hl
  have hkw : ∀ w ∈ kW, w.before ar s = true := fun w h => hts w (List.mem_cons_of_mem _ h)
  replace hP : va_P D k_cl ([(w 0, .inr (4, [.ref (w 1), .int (zI ↑n), .ref (w 2), .ref (w 3), .ref (w 4), .ref (w 5), .int (zI ↑np), .ref (w 6), .ref (w 7), .int (zI ↑kn), .ref (w 8), .ref (w 9), .ref (w 10), .int (zI ↑ch), .int (zI le), .ref (w 11), .int (zI sf), .int (zI st), .ref (w 12)])), (w 1, .inl (cI, 30, .inl (kA t))), (w 2, .inl (cI, 30, .inl (kA K))), (w 3, .inl (cI, 30, .inl (kZ on))), (w 4, .inl (cI, 30, .inl (kZ ot))), (w 5, .inl (cI, 30, .inl (kZ nu))), (w 8, .inl (cI, 900, .inl (kM G))), (w 9, .inl (cI, 30, .inl (kM E0)))]) s.heap := hP
  replace hD : va_D A ([(w 0, .inr (4, [.ref (w 1), .int (zI ↑n), .ref (w 2), .ref (w 3), .ref (w 4), .ref (w 5), .int (zI ↑np), .ref (w 6), .ref (w 7), .int (zI ↑kn), .ref (w 8), .ref (w 9), .ref (w 10), .int (zI ↑ch), .int (zI le), .ref (w 11), .int (zI sf), .int (zI st), .ref (w 12)])), (w 1, .inl (cI, 30, .inl (kA t))), (w 2, .inl (cI, 30, .inl (kA K))), (w 3, .inl (cI, 30, .inl (kZ on))), (w 4, .inl (cI, 30, .inl (kZ ot))), (w 5, .inl (cI, 30, .inl (kZ nu))), (w 8, .inl (cI, 900, .inl (kM G))), (w 9, .inl (cI, 30, .inl (kM E0)))]) := hD
  have hy2 := hy1.1
  have hy3 := hy1.2
  refine lv_aload_n hx hb d_Mo_end_0 rfl (lv_at hl 0 rfl) ?_
  refine lv_iload_n hx hb d_Mo_end_1 rfl (lv_at hl 1 rfl) ?_
  refine k_beI (va_runV (As := [.int (zI ↑x)]) (rest := []) ⟨hx, hb, hml, hown, hkw⟩ (c_Mo_isAsk l D cI cR cG w n np kn ch le sf st ↑x ⟨by omega, by omega⟩ (by omega) _) (cwV 1 hkw (k_gV kw_methodLink_Mo_61 kw_instanceMethod_Mo_isAsk kw_selects_Mo_isAsk kw_initialized_Mo kw_code_Mo_isAsk) rfl rfl rfl (by decide +kernel) ⟨(Nat.le_of_ble_eq_true rfl), (Nat.le_of_ble_eq_true rfl)⟩) (k_preV (q0 := 0) hK hG hP hD [0] rfl rfl rfl rfl) rfl rfl hl.1 rfl (lv_room (Nat.le_of_ble_eq_true rfl)) d_Mo_end_2 ⟨Nat.zero_le _, Nat.zero_le _⟩) hP hD hS hA [0] rfl (Eq.trans (b := [w 0]) rfl rfl) ?_
  clear hP hD hS; intro H locs hP hD hS
  replace hP : va_P D k_cl ([(w 0, .inr (4, [.ref (w 1), .int (zI ↑n), .ref (w 2), .ref (w 3), .ref (w 4), .ref (w 5), .int (zI ↑np), .ref (w 6), .ref (w 7), .int (zI ↑kn), .ref (w 8), .ref (w 9), .ref (w 10), .int (zI ↑ch), .int (zI le), .ref (w 11), .int (zI sf), .int (zI st), .ref (w 12)])), (w 1, .inl (cI, 30, .inl (kA t))), (w 2, .inl (cI, 30, .inl (kA K))), (w 3, .inl (cI, 30, .inl (kZ on))), (w 4, .inl (cI, 30, .inl (kZ ot))), (w 5, .inl (cI, 30, .inl (kZ nu))), (w 8, .inl (cI, 900, .inl (kM G))), (w 9, .inl (cI, 30, .inl (kM E0)))]) H := hP
  replace hD : va_D A ([(w 0, .inr (4, [.ref (w 1), .int (zI ↑n), .ref (w 2), .ref (w 3), .ref (w 4), .ref (w 5), .int (zI ↑np), .ref (w 6), .ref (w 7), .int (zI ↑kn), .ref (w 8), .ref (w 9), .ref (w 10), .int (zI ↑ch), .int (zI le), .ref (w 11), .int (zI sf), .int (zI st), .ref (w 12)])), (w 1, .inl (cI, 30, .inl (kA t))), (w 2, .inl (cI, 30, .inl (kA K))), (w 3, .inl (cI, 30, .inl (kZ on))), (w 4, .inl (cI, 30, .inl (kZ ot))), (w 5, .inl (cI, 30, .inl (kZ nu))), (w 8, .inl (cI, 900, .inl (kM G))), (w 9, .inl (cI, 30, .inl (kM E0)))]) := hD
  refine k_bif_ne (tgt := 10) hx hb d_Mo_end_5 (by decide) (fun c_5 => ?_) (fun c_5 => ?_)
  · refine lv_aload_n hx hb d_Mo_end_10 rfl (lv_at hl 0 rfl) ?_
    refine lv_iload_n hx hb d_Mo_end_11 rfl (lv_at hl 1 rfl) ?_
    refine k_beV (va_runV (As := [.int (zI ↑x)]) (rest := []) ⟨hx, hb, hml, hown, hkw⟩ (c_Mo_findAll l D cI cR cG w n np kn ch le sf st x t K fi sc nn on ot nu G E0 hxn hn30 hok hmo hK0 hnu ht hG0 hE0 _) (cwV 1 hkw (k_gV kw_methodLink_Mo_88 kw_instanceMethod_Mo_findAll kw_selects_Mo_findAll kw_initialized_Mo kw_code_Mo_findAll) rfl rfl rfl (by decide +kernel) ⟨Nat.le_of_ble_eq_true rfl, Nat.le_of_ble_eq_true rfl⟩) (k_preV (q0 := 0) hK hG hP hD [0, 1, 2, 3, 4, 5, 6, 7] rfl rfl rfl rfl) rfl rfl hl.1 rfl (lv_room (Nat.le_of_ble_eq_true rfl)) d_Mo_end_12 ⟨Nat.zero_le _, Nat.zero_le _⟩) hP hD hS hA [0, 1, 2, 3, 4, 5, 6, 7] rfl (Eq.trans (b := [w 0, w 1, w 2, w 3, w 4, w 5, w 8, w 9]) rfl rfl) ?_
    clear hP hD hS; intro H locs hP hD hS
    replace hP : va_P D k_cl ([(w 0, .inr (4, [.ref (w 1), .int (zI ↑n), .ref (w 2), .ref (w 3), .ref (w 4), .ref (w 5), .int (zI ↑np), .ref (w 6), .ref (w 7), .int (zI ↑kn), .ref (w 8), .ref (w 9), .ref (w 10), .int (zI ↑ch), .int (zI le), .ref (w 11), .int (zI sf), .int (zI st), .ref (w 12)])), (w 1, .inl (cI, 30, .inl (kA t))), (w 2, .inl (cI, 30, .inl (kA K))), (w 3, .inl (cI, 30, .inl (kZ on))), (w 4, .inl (cI, 30, .inl (kZ ot))), (w 5, .inl (cI, 30, .inl (kZ nu))), (w 8, .inl (cI, 900, .inl (kM ((mFA t K fi sc nn nu (x + 1) 0 (G, E0)).1)))), (w 9, .inl (cI, 30, .inl (kM ((mFA t K fi sc nn nu (x + 1) 0 (G, E0)).2))))]) H := hP
    replace hD : va_D A ([(w 0, .inr (4, [.ref (w 1), .int (zI ↑n), .ref (w 2), .ref (w 3), .ref (w 4), .ref (w 5), .int (zI ↑np), .ref (w 6), .ref (w 7), .int (zI ↑kn), .ref (w 8), .ref (w 9), .ref (w 10), .int (zI ↑ch), .int (zI le), .ref (w 11), .int (zI sf), .int (zI st), .ref (w 12)])), (w 1, .inl (cI, 30, .inl (kA t))), (w 2, .inl (cI, 30, .inl (kA K))), (w 3, .inl (cI, 30, .inl (kZ on))), (w 4, .inl (cI, 30, .inl (kZ ot))), (w 5, .inl (cI, 30, .inl (kZ nu))), (w 8, .inl (cI, 900, .inl (kM ((mFA t K fi sc nn nu (x + 1) 0 (G, E0)).1)))), (w 9, .inl (cI, 30, .inl (kM ((mFA t K fi sc nn nu (x + 1) 0 (G, E0)).2))))]) := hD
    obtain ⟨G9, hG9⟩ : ∃ G9 : Nat → Nat, G9 = (mFA t K fi sc nn nu (x + 1) 0 (G, E0)).1 := ⟨_, rfl⟩
    obtain ⟨F9, hF9⟩ : ∃ F9 : Nat → Nat, F9 = (mFA t K fi sc nn nu (x + 1) 0 (G, E0)).2 := ⟨_, rfl⟩
    replace hP : va_P D k_cl [(w 0, .inr (4, [.ref (w 1), .int (zI ↑n), .ref (w 2), .ref (w 3), .ref (w 4), .ref (w 5), .int (zI ↑np), .ref (w 6), .ref (w 7), .int (zI ↑kn), .ref (w 8), .ref (w 9), .ref (w 10), .int (zI ↑ch), .int (zI le), .ref (w 11), .int (zI sf), .int (zI st), .ref (w 12)])), (w 1, .inl (cI, 30, .inl (kA t))), (w 2, .inl (cI, 30, .inl (kA K))), (w 3, .inl (cI, 30, .inl (kZ on))), (w 4, .inl (cI, 30, .inl (kZ ot))), (w 5, .inl (cI, 30, .inl (kZ nu))), (w 8, .inl (cI, 900, .inl (kM G9))), (w 9, .inl (cI, 30, .inl (kM F9)))] H := by rw [hG9, hF9]; exact hP
    replace hD : va_D A [(w 0, .inr (4, [.ref (w 1), .int (zI ↑n), .ref (w 2), .ref (w 3), .ref (w 4), .ref (w 5), .int (zI ↑np), .ref (w 6), .ref (w 7), .int (zI ↑kn), .ref (w 8), .ref (w 9), .ref (w 10), .int (zI ↑ch), .int (zI le), .ref (w 11), .int (zI sf), .int (zI st), .ref (w 12)])), (w 1, .inl (cI, 30, .inl (kA t))), (w 2, .inl (cI, 30, .inl (kA K))), (w 3, .inl (cI, 30, .inl (kZ on))), (w 4, .inl (cI, 30, .inl (kZ ot))), (w 5, .inl (cI, 30, .inl (kZ nu))), (w 8, .inl (cI, 900, .inl (kM G9))), (w 9, .inl (cI, 30, .inl (kM F9)))] := by rw [hG9, hF9]; exact hD
    have hb9 : ∀ u, G9 u ≤ 30 := by rw [hG9]; exact (mFA_le ⟨hG0, hE0⟩).1
    refine lv_aload_n hx hb d_Mo_end_15 rfl (lv_at hl 0 rfl) ?_
    refine lv_iload_n hx hb d_Mo_end_16 rfl (lv_at hl 1 rfl) ?_
    refine lv_iload_n hx hb d_Mo_end_17 rfl (lv_at hl 2 rfl) ?_
    refine k_beI (va_runV (As := [.int (zI ↑x), .int (zI y)]) (rest := []) ⟨hx, hb, hml, hown, hkw⟩ (c_Mo_nth l D cI cR cG w n np kn ch le sf st x y G9 (by omega) hy1 hb9 _) (cwV 2 hkw (k_gV kw_methodLink_Mo_91 kw_instanceMethod_Mo_nth kw_selects_Mo_nth kw_initialized_Mo kw_code_Mo_nth) rfl rfl rfl (by decide +kernel) ⟨(Nat.le_of_ble_eq_true rfl), (Nat.le_of_ble_eq_true rfl)⟩) (k_preV (q0 := 0) hK hG hP hD [0, 6] rfl rfl rfl rfl) rfl rfl hl.1 rfl (lv_room (Nat.le_of_ble_eq_true rfl)) d_Mo_end_18 ⟨Nat.zero_le _, Nat.zero_le _⟩) hP hD hS hA [0, 6] rfl (Eq.trans (b := [w 0, w 8]) rfl rfl) ?_
    clear hP hD hS; intro H locs hP hD hS
    replace hP : va_P D k_cl ([(w 0, .inr (4, [.ref (w 1), .int (zI ↑n), .ref (w 2), .ref (w 3), .ref (w 4), .ref (w 5), .int (zI ↑np), .ref (w 6), .ref (w 7), .int (zI ↑kn), .ref (w 8), .ref (w 9), .ref (w 10), .int (zI ↑ch), .int (zI le), .ref (w 11), .int (zI sf), .int (zI st), .ref (w 12)])), (w 1, .inl (cI, 30, .inl (kA t))), (w 2, .inl (cI, 30, .inl (kA K))), (w 3, .inl (cI, 30, .inl (kZ on))), (w 4, .inl (cI, 30, .inl (kZ ot))), (w 5, .inl (cI, 30, .inl (kZ nu))), (w 8, .inl (cI, 900, .inl (kM G9))), (w 9, .inl (cI, 30, .inl (kM F9)))]) H := hP
    replace hD : va_D A ([(w 0, .inr (4, [.ref (w 1), .int (zI ↑n), .ref (w 2), .ref (w 3), .ref (w 4), .ref (w 5), .int (zI ↑np), .ref (w 6), .ref (w 7), .int (zI ↑kn), .ref (w 8), .ref (w 9), .ref (w 10), .int (zI ↑ch), .int (zI le), .ref (w 11), .int (zI sf), .int (zI st), .ref (w 12)])), (w 1, .inl (cI, 30, .inl (kA t))), (w 2, .inl (cI, 30, .inl (kA K))), (w 3, .inl (cI, 30, .inl (kZ on))), (w 4, .inl (cI, 30, .inl (kZ ot))), (w 5, .inl (cI, 30, .inl (kZ nu))), (w 8, .inl (cI, 900, .inl (kM G9))), (w 9, .inl (cI, 30, .inl (kM F9)))]) := hD
    refine lv_istore_n (lv' := [(3, .int (zI (rBegin (fun z => G9 (30 * x + z)) y 30 0 0))), (0, .ref (w 0)), (1, .int (zI ↑x)), (2, .int (zI y))]) hx hb d_Mo_end_21 rfl hl (by decide) rfl ?_
    clear hl; intro ls hl
    have hzb := rBegin_bd (fun z => G9 (30 * x + z)) y 30 0 0 (by omega)
    have hzh := rBegin_has (F := fun z => G9 (30 * x + z)) (k := y) 30 0 0
    have hre : rEnd (fun z => G9 (30 * x + z)) y = if 0 ≤ rBegin (fun z => G9 (30 * x + z)) y 30 0 0 then (G9 (30 * x + (rBegin (fun z => G9 (30 * x + z)) y 30 0 0).toNat) : Int) else -1 := rfl
    refine lv_iload_n hx hb d_Mo_end_22 rfl (lv_at hl 0 rfl) ?_
    refine k_if_ge (tgt := 30) hx hb d_Mo_end_23 (by decide) ⟨by omega, by omega⟩ (fun c_23 => ?_) (fun c_23 => ?_)
    · refine lv_aload_n hx hb d_Mo_end_30 rfl (lv_at hl 1 rfl) ?_
      refine va_get (D := D) (ci := 4) (v := .ref (w 8)) (C := R_Mo) (T := T_Mo) (N := 19) hx hb hkw kin_Mo hown hK hP 0 rfl rfl 10 (by decide) (hkw _ kw_fieldLink_Mo_31) (fun _ h9 => h9) rfl d_Mo_end_31 ?_
      refine lv_bipush (v := zI 30) hx hb d_Mo_end_34 (by decide) ?_
      refine lv_iload_n hx hb d_Mo_end_36 rfl (lv_at hl 2 rfl) ?_
      refine k_imul (v := ↑(30 * x)) hx hb d_Mo_end_37 (by omega) ?_
      refine lv_iload_n hx hb d_Mo_end_38 rfl (lv_at hl 0 rfl) ?_
      refine k_iadd (v := ↑(30 * x + (rBegin (fun z => G9 (30 * x + z)) y 30 0 0).toNat)) hx hb d_Mo_end_39 (by omega) ?_
      refine k_aldM hx hb hK hP 6 0 rfl rfl (i := (30 * x + (rBegin (fun z => G9 (30 * x + z)) y 30 0 0).toNat)) (by omega) (by omega) (by omega) d_Mo_end_40 ?_
      have hv_1 := hb9 (30 * x + (rBegin (fun z => G9 (30 * x + z)) y 30 0 0).toNat)
      have hm_2 := mz_or (G9 (30 * x + (rBegin (fun z => G9 (30 * x + z)) y 30 0 0).toNat))
      have e9 : rEnd (fun z => G9 (30 * x + z)) y = mz (G9 (30 * x + (rBegin (fun z => G9 (30 * x + z)) y 30 0 0).toNat)) := by rw [hre, if_pos (by omega)]; have h77 := hzh (by omega); (try dsimp only at h77); omega
      subst hG9 hF9
      rw [← hQf]
      exact k_iret hx hb hr hlocks hP hS (congrArg zI e9.symm) d_Mo_end_41
    · refine lv_iconst (v := zI (-1)) hx hb d_Mo_end_26 (by decide) ?_
      refine lv_goto (tgt := 41) hx hb d_Mo_end_27 (by decide) ?_
      have e9 : rEnd (fun z => G9 (30 * x + z)) y = -1 := by rw [hre]; exact if_neg (by omega)
      subst hG9 hF9
      rw [← hQf]
      exact k_iret hx hb hr hlocks hP hS (congrArg zI e9.symm) d_Mo_end_41
  · exfalso; omega

abbrev rm_Mo_count_2 : Room := { frames := 5, cells := 0, slots := 0, locals := 122 }
set_option maxHeartbeats 4000000 in
set_option maxRecDepth 100000 in
theorem c_Mo_count_2 (l : Launch) (D : va_G) (cI cR cG : ClassId) (w : Nat → Nat) (n np kn ch : Nat) (le sf st : Int) (x : Nat) (t K fi sc nn : Nat → Nat) (on ot nu : Nat → Int) (G E0 : Nat → Nat) (hxn : x < n) (hn30 : n ≤ 30) (hok : askOK n K fi sc nn) (hmo : moOK n K fi sc nn on ot nu) (hK0 : ∀ u, K u ≤ 10) (hnu : ∀ u, k_sm (nu u)) (ht : ∀ j, t j ≤ 1023) (hG0 : ∀ u, G u ≤ 30) (hE0 : ∀ u, E0 u ≤ 30) : k_M l y_Mo_count (.code y_Mo_count b_Mo_count 4 (some .int) :: kW) rm_Mo_count_2 D k_cl (k_ty cI cR cG) [.ref (w 0), .int (zI ↑x)] ([(w 0, .inr (4, [.ref (w 1), .int (zI ↑n), .ref (w 2), .ref (w 3), .ref (w 4), .ref (w 5), .int (zI ↑np), .ref (w 6), .ref (w 7), .int (zI ↑kn), .ref (w 8), .ref (w 9), .ref (w 10), .int (zI ↑ch), .int (zI le), .ref (w 11), .int (zI sf), .int (zI st), .ref (w 12)])), (w 1, .inl (cI, 30, .inl (kA t))), (w 2, .inl (cI, 30, .inl (kA K))), (w 3, .inl (cI, 30, .inl (kZ on))), (w 4, .inl (cI, 30, .inl (kZ ot))), (w 5, .inl (cI, 30, .inl (kZ nu))), (w 8, .inl (cI, 900, .inl (kM G))), (w 9, .inl (cI, 30, .inl (kM E0)))]) (k_Qi D k_cl (zI (↑(rSize (fun z => (mFA t K fi sc nn nu (x + 1) 0 (G, E0)).1 (30 * x + z)) 30 0 0))) [(w 0, .inr (4, [.ref (w 1), .int (zI ↑n), .ref (w 2), .ref (w 3), .ref (w 4), .ref (w 5), .int (zI ↑np), .ref (w 6), .ref (w 7), .int (zI ↑kn), .ref (w 8), .ref (w 9), .ref (w 10), .int (zI ↑ch), .int (zI le), .ref (w 11), .int (zI sf), .int (zI st), .ref (w 12)])), (w 1, .inl (cI, 30, .inl (kA t))), (w 2, .inl (cI, 30, .inl (kA K))), (w 3, .inl (cI, 30, .inl (kZ on))), (w 4, .inl (cI, 30, .inl (kZ ot))), (w 5, .inl (cI, 30, .inl (kZ nu))), (w 8, .inl (cI, 900, .inl (kM ((mFA t K fi sc nn nu (x + 1) 0 (G, E0)).1)))), (w 9, .inl (cI, 30, .inl (kM ((mFA t K fi sc nn nu (x + 1) 0 (G, E0)).2))))]) := by
  refine k_start (cc := b_Mo_count) (maxL := 4) (ret := (some .int)) (by decide) rfl (Nat.le_of_ble_eq_true rfl) ?_
  intro p ev s m ar below meth c A ls Qf hQf hx hb hr hml hts hown hlocks hin hK hG hA hP hD hS hl
  replace hown : s.vm.findClass R_Mo = some m.cls := hown
  replace hl : lv_has ls 4 [(0, .ref (w 0)), (1, .int (zI ↑x))] := hl
  have hkw : ∀ w ∈ kW, w.before ar s = true := fun w h => hts w (List.mem_cons_of_mem _ h)
  replace hP : va_P D k_cl ([(w 0, .inr (4, [.ref (w 1), .int (zI ↑n), .ref (w 2), .ref (w 3), .ref (w 4), .ref (w 5), .int (zI ↑np), .ref (w 6), .ref (w 7), .int (zI ↑kn), .ref (w 8), .ref (w 9), .ref (w 10), .int (zI ↑ch), .int (zI le), .ref (w 11), .int (zI sf), .int (zI st), .ref (w 12)])), (w 1, .inl (cI, 30, .inl (kA t))), (w 2, .inl (cI, 30, .inl (kA K))), (w 3, .inl (cI, 30, .inl (kZ on))), (w 4, .inl (cI, 30, .inl (kZ ot))), (w 5, .inl (cI, 30, .inl (kZ nu))), (w 8, .inl (cI, 900, .inl (kM G))), (w 9, .inl (cI, 30, .inl (kM E0)))]) s.heap := hP
  replace hD : va_D A ([(w 0, .inr (4, [.ref (w 1), .int (zI ↑n), .ref (w 2), .ref (w 3), .ref (w 4), .ref (w 5), .int (zI ↑np), .ref (w 6), .ref (w 7), .int (zI ↑kn), .ref (w 8), .ref (w 9), .ref (w 10), .int (zI ↑ch), .int (zI le), .ref (w 11), .int (zI sf), .int (zI st), .ref (w 12)])), (w 1, .inl (cI, 30, .inl (kA t))), (w 2, .inl (cI, 30, .inl (kA K))), (w 3, .inl (cI, 30, .inl (kZ on))), (w 4, .inl (cI, 30, .inl (kZ ot))), (w 5, .inl (cI, 30, .inl (kZ nu))), (w 8, .inl (cI, 900, .inl (kM G))), (w 9, .inl (cI, 30, .inl (kM E0)))]) := hD
  refine lv_aload_n hx hb d_Mo_count_0 rfl (lv_at hl 0 rfl) ?_
  refine lv_iload_n hx hb d_Mo_count_1 rfl (lv_at hl 1 rfl) ?_
  refine k_beI (va_runV (As := [.int (zI ↑x)]) (rest := []) ⟨hx, hb, hml, hown, hkw⟩ (c_Mo_isAsk l D cI cR cG w n np kn ch le sf st ↑x ⟨by omega, by omega⟩ (by omega) _) (cwV 1 hkw (k_gV kw_methodLink_Mo_61 kw_instanceMethod_Mo_isAsk kw_selects_Mo_isAsk kw_initialized_Mo kw_code_Mo_isAsk) rfl rfl rfl (by decide +kernel) ⟨(Nat.le_of_ble_eq_true rfl), (Nat.le_of_ble_eq_true rfl)⟩) (k_preV (q0 := 0) hK hG hP hD [0] rfl rfl rfl rfl) rfl rfl hl.1 rfl (lv_room (Nat.le_of_ble_eq_true rfl)) d_Mo_count_2 ⟨Nat.zero_le _, Nat.zero_le _⟩) hP hD hS hA [0] rfl (Eq.trans (b := [w 0]) rfl rfl) ?_
  clear hP hD hS; intro H locs hP hD hS
  replace hP : va_P D k_cl ([(w 0, .inr (4, [.ref (w 1), .int (zI ↑n), .ref (w 2), .ref (w 3), .ref (w 4), .ref (w 5), .int (zI ↑np), .ref (w 6), .ref (w 7), .int (zI ↑kn), .ref (w 8), .ref (w 9), .ref (w 10), .int (zI ↑ch), .int (zI le), .ref (w 11), .int (zI sf), .int (zI st), .ref (w 12)])), (w 1, .inl (cI, 30, .inl (kA t))), (w 2, .inl (cI, 30, .inl (kA K))), (w 3, .inl (cI, 30, .inl (kZ on))), (w 4, .inl (cI, 30, .inl (kZ ot))), (w 5, .inl (cI, 30, .inl (kZ nu))), (w 8, .inl (cI, 900, .inl (kM G))), (w 9, .inl (cI, 30, .inl (kM E0)))]) H := hP
  replace hD : va_D A ([(w 0, .inr (4, [.ref (w 1), .int (zI ↑n), .ref (w 2), .ref (w 3), .ref (w 4), .ref (w 5), .int (zI ↑np), .ref (w 6), .ref (w 7), .int (zI ↑kn), .ref (w 8), .ref (w 9), .ref (w 10), .int (zI ↑ch), .int (zI le), .ref (w 11), .int (zI sf), .int (zI st), .ref (w 12)])), (w 1, .inl (cI, 30, .inl (kA t))), (w 2, .inl (cI, 30, .inl (kA K))), (w 3, .inl (cI, 30, .inl (kZ on))), (w 4, .inl (cI, 30, .inl (kZ ot))), (w 5, .inl (cI, 30, .inl (kZ nu))), (w 8, .inl (cI, 900, .inl (kM G))), (w 9, .inl (cI, 30, .inl (kM E0)))]) := hD
  refine k_bif_ne (tgt := 10) hx hb d_Mo_count_5 (by decide) (fun c_5 => ?_) (fun c_5 => ?_)
  · refine lv_aload_n hx hb d_Mo_count_10 rfl (lv_at hl 0 rfl) ?_
    refine lv_iload_n hx hb d_Mo_count_11 rfl (lv_at hl 1 rfl) ?_
    refine k_beV (va_runV (As := [.int (zI ↑x)]) (rest := []) ⟨hx, hb, hml, hown, hkw⟩ (c_Mo_findAll l D cI cR cG w n np kn ch le sf st x t K fi sc nn on ot nu G E0 hxn hn30 hok hmo hK0 hnu ht hG0 hE0 _) (cwV 1 hkw (k_gV kw_methodLink_Mo_88 kw_instanceMethod_Mo_findAll kw_selects_Mo_findAll kw_initialized_Mo kw_code_Mo_findAll) rfl rfl rfl (by decide +kernel) ⟨Nat.le_of_ble_eq_true rfl, Nat.le_of_ble_eq_true rfl⟩) (k_preV (q0 := 0) hK hG hP hD [0, 1, 2, 3, 4, 5, 6, 7] rfl rfl rfl rfl) rfl rfl hl.1 rfl (lv_room (Nat.le_of_ble_eq_true rfl)) d_Mo_count_12 ⟨Nat.zero_le _, Nat.zero_le _⟩) hP hD hS hA [0, 1, 2, 3, 4, 5, 6, 7] rfl (Eq.trans (b := [w 0, w 1, w 2, w 3, w 4, w 5, w 8, w 9]) rfl rfl) ?_
    clear hP hD hS; intro H locs hP hD hS
    replace hP : va_P D k_cl ([(w 0, .inr (4, [.ref (w 1), .int (zI ↑n), .ref (w 2), .ref (w 3), .ref (w 4), .ref (w 5), .int (zI ↑np), .ref (w 6), .ref (w 7), .int (zI ↑kn), .ref (w 8), .ref (w 9), .ref (w 10), .int (zI ↑ch), .int (zI le), .ref (w 11), .int (zI sf), .int (zI st), .ref (w 12)])), (w 1, .inl (cI, 30, .inl (kA t))), (w 2, .inl (cI, 30, .inl (kA K))), (w 3, .inl (cI, 30, .inl (kZ on))), (w 4, .inl (cI, 30, .inl (kZ ot))), (w 5, .inl (cI, 30, .inl (kZ nu))), (w 8, .inl (cI, 900, .inl (kM ((mFA t K fi sc nn nu (x + 1) 0 (G, E0)).1)))), (w 9, .inl (cI, 30, .inl (kM ((mFA t K fi sc nn nu (x + 1) 0 (G, E0)).2))))]) H := hP
    replace hD : va_D A ([(w 0, .inr (4, [.ref (w 1), .int (zI ↑n), .ref (w 2), .ref (w 3), .ref (w 4), .ref (w 5), .int (zI ↑np), .ref (w 6), .ref (w 7), .int (zI ↑kn), .ref (w 8), .ref (w 9), .ref (w 10), .int (zI ↑ch), .int (zI le), .ref (w 11), .int (zI sf), .int (zI st), .ref (w 12)])), (w 1, .inl (cI, 30, .inl (kA t))), (w 2, .inl (cI, 30, .inl (kA K))), (w 3, .inl (cI, 30, .inl (kZ on))), (w 4, .inl (cI, 30, .inl (kZ ot))), (w 5, .inl (cI, 30, .inl (kZ nu))), (w 8, .inl (cI, 900, .inl (kM ((mFA t K fi sc nn nu (x + 1) 0 (G, E0)).1)))), (w 9, .inl (cI, 30, .inl (kM ((mFA t K fi sc nn nu (x + 1) 0 (G, E0)).2))))]) := hD
    obtain ⟨G9, hG9⟩ : ∃ G9 : Nat → Nat, G9 = (mFA t K fi sc nn nu (x + 1) 0 (G, E0)).1 := ⟨_, rfl⟩
    obtain ⟨F9, hF9⟩ : ∃ F9 : Nat → Nat, F9 = (mFA t K fi sc nn nu (x + 1) 0 (G, E0)).2 := ⟨_, rfl⟩
    replace hP : va_P D k_cl [(w 0, .inr (4, [.ref (w 1), .int (zI ↑n), .ref (w 2), .ref (w 3), .ref (w 4), .ref (w 5), .int (zI ↑np), .ref (w 6), .ref (w 7), .int (zI ↑kn), .ref (w 8), .ref (w 9), .ref (w 10), .int (zI ↑ch), .int (zI le), .ref (w 11), .int (zI sf), .int (zI st), .ref (w 12)])), (w 1, .inl (cI, 30, .inl (kA t))), (w 2, .inl (cI, 30, .inl (kA K))), (w 3, .inl (cI, 30, .inl (kZ on))), (w 4, .inl (cI, 30, .inl (kZ ot))), (w 5, .inl (cI, 30, .inl (kZ nu))), (w 8, .inl (cI, 900, .inl (kM G9))), (w 9, .inl (cI, 30, .inl (kM F9)))] H := by rw [hG9, hF9]; exact hP
    replace hD : va_D A [(w 0, .inr (4, [.ref (w 1), .int (zI ↑n), .ref (w 2), .ref (w 3), .ref (w 4), .ref (w 5), .int (zI ↑np), .ref (w 6), .ref (w 7), .int (zI ↑kn), .ref (w 8), .ref (w 9), .ref (w 10), .int (zI ↑ch), .int (zI le), .ref (w 11), .int (zI sf), .int (zI st), .ref (w 12)])), (w 1, .inl (cI, 30, .inl (kA t))), (w 2, .inl (cI, 30, .inl (kA K))), (w 3, .inl (cI, 30, .inl (kZ on))), (w 4, .inl (cI, 30, .inl (kZ ot))), (w 5, .inl (cI, 30, .inl (kZ nu))), (w 8, .inl (cI, 900, .inl (kM G9))), (w 9, .inl (cI, 30, .inl (kM F9)))] := by rw [hG9, hF9]; exact hD
    have hb9 : ∀ u, G9 u ≤ 30 := by rw [hG9]; exact (mFA_le ⟨hG0, hE0⟩).1
    refine lv_iconst (v := zI 0) hx hb d_Mo_count_15 (by decide) ?_
    refine lv_istore_n (lv' := [(2, .int (zI 0)), (0, .ref (w 0)), (1, .int (zI ↑x))]) hx hb d_Mo_count_16 rfl hl (by decide) rfl ?_
    clear hl; intro ls hl
    refine lv_iconst (v := zI 0) hx hb d_Mo_count_17 (by decide) ?_
    refine lv_istore_n (lv' := [(3, .int (zI 0)), (2, .int (zI 0)), (0, .ref (w 0)), (1, .int (zI ↑x))]) hx hb d_Mo_count_18 rfl hl (by decide) rfl ?_
    clear hl; intro ls hl
    have loop_19 : ∀ (u : Nat) (i : Nat) (acc : Nat), (i + u = 30) → (rSize (fun z => G9 (30 * x + z)) u i acc = rSize (fun z => G9 (30 * x + z)) 30 0 0) → ∀ (H : Heap) (locs : List Loc) (ls : Array Slot), va_P D k_cl ([(w 0, .inr (4, [.ref (w 1), .int (zI ↑n), .ref (w 2), .ref (w 3), .ref (w 4), .ref (w 5), .int (zI ↑np), .ref (w 6), .ref (w 7), .int (zI ↑kn), .ref (w 8), .ref (w 9), .ref (w 10), .int (zI ↑ch), .int (zI le), .ref (w 11), .int (zI sf), .int (zI st), .ref (w 12)])), (w 1, .inl (cI, 30, .inl (kA t))), (w 2, .inl (cI, 30, .inl (kA K))), (w 3, .inl (cI, 30, .inl (kZ on))), (w 4, .inl (cI, 30, .inl (kZ ot))), (w 5, .inl (cI, 30, .inl (kZ nu))), (w 8, .inl (cI, 900, .inl (kM G9))), (w 9, .inl (cI, 30, .inl (kM F9)))]) H → va_D A ([(w 0, .inr (4, [.ref (w 1), .int (zI ↑n), .ref (w 2), .ref (w 3), .ref (w 4), .ref (w 5), .int (zI ↑np), .ref (w 6), .ref (w 7), .int (zI ↑kn), .ref (w 8), .ref (w 9), .ref (w 10), .int (zI ↑ch), .int (zI le), .ref (w 11), .int (zI sf), .int (zI st), .ref (w 12)])), (w 1, .inl (cI, 30, .inl (kA t))), (w 2, .inl (cI, 30, .inl (kA K))), (w 3, .inl (cI, 30, .inl (kZ on))), (w 4, .inl (cI, 30, .inl (kZ ot))), (w 5, .inl (cI, 30, .inl (kZ nu))), (w 8, .inl (cI, 900, .inl (kM G9))), (w 9, .inl (cI, 30, .inl (kM F9)))]) → va_S A s.heap H locs → lv_has ls 4 [(0, .ref (w 0)), (1, .int (zI ↑x)), (2, .int (zI ↑acc)), (3, .int (zI ↑i))] → W p l ev rm_Mo_count_2 s m ar below meth c H locs 0 0 Qf (F0 m 19 ls []) := by
      intro u
      induction u with
      | zero =>
        intro i acc hin hgo H locs ls hP hD hS hl
        refine lv_iload_n hx hb d_Mo_count_19 rfl (lv_at hl 3 rfl) ?_
        refine lv_bipush (v := zI 30) hx hb d_Mo_count_20 (by decide) ?_
        refine k_icmp_ge (tgt := 53) hx hb d_Mo_count_22 (by decide) ⟨by omega, by omega⟩ ⟨by omega, by omega⟩ (fun c_22 => ?_) (fun c_22 => ?_)
        · refine lv_iload_n hx hb d_Mo_count_53 rfl (lv_at hl 2 rfl) ?_
          subst hG9 hF9
          rw [← hQf]
          exact k_iret hx hb hr hlocks hP hS (by rw [← hgo]; rfl) d_Mo_count_54
        · exfalso; omega
      | succ u ih_19 =>
        intro i acc hin hgo H locs ls hP hD hS hl
        refine lv_iload_n hx hb d_Mo_count_19 rfl (lv_at hl 3 rfl) ?_
        refine lv_bipush (v := zI 30) hx hb d_Mo_count_20 (by decide) ?_
        refine k_icmp_ge (tgt := 53) hx hb d_Mo_count_22 (by decide) ⟨by omega, by omega⟩ ⟨by omega, by omega⟩ (fun c_22 => ?_) (fun c_22 => ?_)
        · exfalso; omega
        · refine lv_iload_n hx hb d_Mo_count_25 rfl (lv_at hl 2 rfl) ?_
          refine lv_aload_n hx hb d_Mo_count_26 rfl (lv_at hl 0 rfl) ?_
          refine va_get (D := D) (ci := 4) (v := .ref (w 8)) (C := R_Mo) (T := T_Mo) (N := 19) hx hb hkw kin_Mo hown hK hP 0 rfl rfl 10 (by decide) (hkw _ kw_fieldLink_Mo_31) (fun _ h9 => h9) rfl d_Mo_count_27 ?_
          refine lv_bipush (v := zI 30) hx hb d_Mo_count_30 (by decide) ?_
          refine lv_iload_n hx hb d_Mo_count_32 rfl (lv_at hl 1 rfl) ?_
          refine k_imul (v := ↑(30 * x)) hx hb d_Mo_count_33 (by omega) ?_
          refine lv_iload_n hx hb d_Mo_count_34 rfl (lv_at hl 3 rfl) ?_
          refine k_iadd (v := ↑(30 * x + i)) hx hb d_Mo_count_35 (by omega) ?_
          refine k_aldM hx hb hK hP 6 0 rfl rfl (i := (30 * x + i)) (by omega) (by omega) (by omega) d_Mo_count_36 ?_
          have hv_1 := hb9 (30 * x + i)
          have hm_2 := mz_or (G9 (30 * x + i))
          refine k_if_lt (tgt := 44) hx hb d_Mo_count_37 (by decide) ⟨by omega, by omega⟩ (fun c_37 => ?_) (fun c_37 => ?_)
          · refine lv_iconst (v := zI 0) hx hb d_Mo_count_44 (by decide) ?_
            refine k_iadd (v := ↑acc) hx hb d_Mo_count_45 (by omega) ?_
            refine lv_istore_n (lv' := [(2, .int (zI ↑acc)), (0, .ref (w 0)), (1, .int (zI ↑x)), (3, .int (zI ↑i))]) hx hb d_Mo_count_46 rfl hl (by decide) rfl ?_
            clear hl; intro ls hl
            refine k_iinc (v := ↑(i + 1)) (lv' := [(3, .int (zI (↑(i + 1)))), (2, .int (zI ↑acc)), (0, .ref (w 0)), (1, .int (zI ↑x))]) hx hb d_Mo_count_47 hl (k := 3) rfl (by omega) (by decide) rfl ?_
            clear hl; intro ls hl
            refine lv_goto (tgt := 19) hx hb d_Mo_count_50 (by decide) ?_
            exact ih_19 (i + 1) acc (by omega) (by rw [rSize] at hgo; (repeat' split at hgo); all_goals first | exact hgo | (exfalso; omega)) _ _ _ hP hD hS (lv_sub hl [2, 3, 1, 0] rfl)
          · refine lv_iconst (v := zI 1) hx hb d_Mo_count_40 (by decide) ?_
            refine lv_goto (tgt := 45) hx hb d_Mo_count_41 (by decide) ?_
            refine k_iadd (v := ↑(acc + 1)) hx hb d_Mo_count_45 (by omega) ?_
            refine lv_istore_n (lv' := [(2, .int (zI (↑(acc + 1)))), (0, .ref (w 0)), (1, .int (zI ↑x)), (3, .int (zI ↑i))]) hx hb d_Mo_count_46 rfl hl (by decide) rfl ?_
            clear hl; intro ls hl
            refine k_iinc (v := ↑(i + 1)) (lv' := [(3, .int (zI (↑(i + 1)))), (2, .int (zI (↑(acc + 1)))), (0, .ref (w 0)), (1, .int (zI ↑x))]) hx hb d_Mo_count_47 hl (k := 3) rfl (by omega) (by decide) rfl ?_
            clear hl; intro ls hl
            refine lv_goto (tgt := 19) hx hb d_Mo_count_50 (by decide) ?_
            exact ih_19 (i + 1) (acc + 1) (by omega) (by rw [rSize] at hgo; (repeat' split at hgo); all_goals first | exact hgo | (exfalso; omega)) _ _ _ hP hD hS (lv_sub hl [2, 3, 1, 0] rfl)
    exact loop_19 30 0 0 (by omega) rfl _ _ _ hP hD hS (lv_sub hl [2, 3, 1, 0] rfl)
  · exfalso; omega

abbrev rm_Mo_covered_2 : Room := { frames := 5, cells := 0, slots := 0, locals := 122 }
set_option maxHeartbeats 4000000 in
set_option maxRecDepth 100000 in
theorem c_Mo_covered_2 (l : Launch) (D : va_G) (cI cR cG : ClassId) (w : Nat → Nat) (n np kn ch : Nat) (le sf st : Int) (x : Nat) (t K fi sc nn : Nat → Nat) (on ot nu : Nat → Int) (G E0 : Nat → Nat) (hxn : x < n) (hn30 : n ≤ 30) (hok : askOK n K fi sc nn) (hmo : moOK n K fi sc nn on ot nu) (hK0 : ∀ u, K u ≤ 10) (hnu : ∀ u, k_sm (nu u)) (ht : ∀ j, t j ≤ 1023) (hG0 : ∀ u, G u ≤ 30) (hE0 : ∀ u, E0 u ≤ 30) : k_M l y_Mo_covered (.code y_Mo_covered b_Mo_covered 6 (some .int) :: kW) rm_Mo_covered_2 D k_cl (k_ty cI cR cG) [.ref (w 0), .int (zI ↑x)] ([(w 0, .inr (4, [.ref (w 1), .int (zI ↑n), .ref (w 2), .ref (w 3), .ref (w 4), .ref (w 5), .int (zI ↑np), .ref (w 6), .ref (w 7), .int (zI ↑kn), .ref (w 8), .ref (w 9), .ref (w 10), .int (zI ↑ch), .int (zI le), .ref (w 11), .int (zI sf), .int (zI st), .ref (w 12)])), (w 1, .inl (cI, 30, .inl (kA t))), (w 2, .inl (cI, 30, .inl (kA K))), (w 3, .inl (cI, 30, .inl (kZ on))), (w 4, .inl (cI, 30, .inl (kZ ot))), (w 5, .inl (cI, 30, .inl (kZ nu))), (w 8, .inl (cI, 900, .inl (kM G))), (w 9, .inl (cI, 30, .inl (kM E0)))]) (k_Qi D k_cl (zI (↑(mCov (fun z => (mFA t K fi sc nn nu (x + 1) 0 (G, E0)).1 (30 * x + z)) 30 0 0))) [(w 0, .inr (4, [.ref (w 1), .int (zI ↑n), .ref (w 2), .ref (w 3), .ref (w 4), .ref (w 5), .int (zI ↑np), .ref (w 6), .ref (w 7), .int (zI ↑kn), .ref (w 8), .ref (w 9), .ref (w 10), .int (zI ↑ch), .int (zI le), .ref (w 11), .int (zI sf), .int (zI st), .ref (w 12)])), (w 1, .inl (cI, 30, .inl (kA t))), (w 2, .inl (cI, 30, .inl (kA K))), (w 3, .inl (cI, 30, .inl (kZ on))), (w 4, .inl (cI, 30, .inl (kZ ot))), (w 5, .inl (cI, 30, .inl (kZ nu))), (w 8, .inl (cI, 900, .inl (kM ((mFA t K fi sc nn nu (x + 1) 0 (G, E0)).1)))), (w 9, .inl (cI, 30, .inl (kM ((mFA t K fi sc nn nu (x + 1) 0 (G, E0)).2))))]) := by
  refine k_start (cc := b_Mo_covered) (maxL := 6) (ret := (some .int)) (by decide) rfl (Nat.le_of_ble_eq_true rfl) ?_
  intro p ev s m ar below meth c A ls Qf hQf hx hb hr hml hts hown hlocks hin hK hG hA hP hD hS hl
  replace hown : s.vm.findClass R_Mo = some m.cls := hown
  replace hl : lv_has ls 6 [(0, .ref (w 0)), (1, .int (zI ↑x))] := hl
  have hkw : ∀ w ∈ kW, w.before ar s = true := fun w h => hts w (List.mem_cons_of_mem _ h)
  replace hP : va_P D k_cl ([(w 0, .inr (4, [.ref (w 1), .int (zI ↑n), .ref (w 2), .ref (w 3), .ref (w 4), .ref (w 5), .int (zI ↑np), .ref (w 6), .ref (w 7), .int (zI ↑kn), .ref (w 8), .ref (w 9), .ref (w 10), .int (zI ↑ch), .int (zI le), .ref (w 11), .int (zI sf), .int (zI st), .ref (w 12)])), (w 1, .inl (cI, 30, .inl (kA t))), (w 2, .inl (cI, 30, .inl (kA K))), (w 3, .inl (cI, 30, .inl (kZ on))), (w 4, .inl (cI, 30, .inl (kZ ot))), (w 5, .inl (cI, 30, .inl (kZ nu))), (w 8, .inl (cI, 900, .inl (kM G))), (w 9, .inl (cI, 30, .inl (kM E0)))]) s.heap := hP
  replace hD : va_D A ([(w 0, .inr (4, [.ref (w 1), .int (zI ↑n), .ref (w 2), .ref (w 3), .ref (w 4), .ref (w 5), .int (zI ↑np), .ref (w 6), .ref (w 7), .int (zI ↑kn), .ref (w 8), .ref (w 9), .ref (w 10), .int (zI ↑ch), .int (zI le), .ref (w 11), .int (zI sf), .int (zI st), .ref (w 12)])), (w 1, .inl (cI, 30, .inl (kA t))), (w 2, .inl (cI, 30, .inl (kA K))), (w 3, .inl (cI, 30, .inl (kZ on))), (w 4, .inl (cI, 30, .inl (kZ ot))), (w 5, .inl (cI, 30, .inl (kZ nu))), (w 8, .inl (cI, 900, .inl (kM G))), (w 9, .inl (cI, 30, .inl (kM E0)))]) := hD
  refine lv_aload_n hx hb d_Mo_covered_0 rfl (lv_at hl 0 rfl) ?_
  refine lv_iload_n hx hb d_Mo_covered_1 rfl (lv_at hl 1 rfl) ?_
  refine k_beI (va_runV (As := [.int (zI ↑x)]) (rest := []) ⟨hx, hb, hml, hown, hkw⟩ (c_Mo_isAsk l D cI cR cG w n np kn ch le sf st ↑x ⟨by omega, by omega⟩ (by omega) _) (cwV 1 hkw (k_gV kw_methodLink_Mo_61 kw_instanceMethod_Mo_isAsk kw_selects_Mo_isAsk kw_initialized_Mo kw_code_Mo_isAsk) rfl rfl rfl (by decide +kernel) ⟨(Nat.le_of_ble_eq_true rfl), (Nat.le_of_ble_eq_true rfl)⟩) (k_preV (q0 := 0) hK hG hP hD [0] rfl rfl rfl rfl) rfl rfl hl.1 rfl (lv_room (Nat.le_of_ble_eq_true rfl)) d_Mo_covered_2 ⟨Nat.zero_le _, Nat.zero_le _⟩) hP hD hS hA [0] rfl (Eq.trans (b := [w 0]) rfl rfl) ?_
  clear hP hD hS; intro H locs hP hD hS
  replace hP : va_P D k_cl ([(w 0, .inr (4, [.ref (w 1), .int (zI ↑n), .ref (w 2), .ref (w 3), .ref (w 4), .ref (w 5), .int (zI ↑np), .ref (w 6), .ref (w 7), .int (zI ↑kn), .ref (w 8), .ref (w 9), .ref (w 10), .int (zI ↑ch), .int (zI le), .ref (w 11), .int (zI sf), .int (zI st), .ref (w 12)])), (w 1, .inl (cI, 30, .inl (kA t))), (w 2, .inl (cI, 30, .inl (kA K))), (w 3, .inl (cI, 30, .inl (kZ on))), (w 4, .inl (cI, 30, .inl (kZ ot))), (w 5, .inl (cI, 30, .inl (kZ nu))), (w 8, .inl (cI, 900, .inl (kM G))), (w 9, .inl (cI, 30, .inl (kM E0)))]) H := hP
  replace hD : va_D A ([(w 0, .inr (4, [.ref (w 1), .int (zI ↑n), .ref (w 2), .ref (w 3), .ref (w 4), .ref (w 5), .int (zI ↑np), .ref (w 6), .ref (w 7), .int (zI ↑kn), .ref (w 8), .ref (w 9), .ref (w 10), .int (zI ↑ch), .int (zI le), .ref (w 11), .int (zI sf), .int (zI st), .ref (w 12)])), (w 1, .inl (cI, 30, .inl (kA t))), (w 2, .inl (cI, 30, .inl (kA K))), (w 3, .inl (cI, 30, .inl (kZ on))), (w 4, .inl (cI, 30, .inl (kZ ot))), (w 5, .inl (cI, 30, .inl (kZ nu))), (w 8, .inl (cI, 900, .inl (kM G))), (w 9, .inl (cI, 30, .inl (kM E0)))]) := hD
  refine k_bif_ne (tgt := 10) hx hb d_Mo_covered_5 (by decide) (fun c_5 => ?_) (fun c_5 => ?_)
  · refine lv_aload_n hx hb d_Mo_covered_10 rfl (lv_at hl 0 rfl) ?_
    refine lv_iload_n hx hb d_Mo_covered_11 rfl (lv_at hl 1 rfl) ?_
    refine k_beV (va_runV (As := [.int (zI ↑x)]) (rest := []) ⟨hx, hb, hml, hown, hkw⟩ (c_Mo_findAll l D cI cR cG w n np kn ch le sf st x t K fi sc nn on ot nu G E0 hxn hn30 hok hmo hK0 hnu ht hG0 hE0 _) (cwV 1 hkw (k_gV kw_methodLink_Mo_88 kw_instanceMethod_Mo_findAll kw_selects_Mo_findAll kw_initialized_Mo kw_code_Mo_findAll) rfl rfl rfl (by decide +kernel) ⟨Nat.le_of_ble_eq_true rfl, Nat.le_of_ble_eq_true rfl⟩) (k_preV (q0 := 0) hK hG hP hD [0, 1, 2, 3, 4, 5, 6, 7] rfl rfl rfl rfl) rfl rfl hl.1 rfl (lv_room (Nat.le_of_ble_eq_true rfl)) d_Mo_covered_12 ⟨Nat.zero_le _, Nat.zero_le _⟩) hP hD hS hA [0, 1, 2, 3, 4, 5, 6, 7] rfl (Eq.trans (b := [w 0, w 1, w 2, w 3, w 4, w 5, w 8, w 9]) rfl rfl) ?_
    clear hP hD hS; intro H locs hP hD hS
    replace hP : va_P D k_cl ([(w 0, .inr (4, [.ref (w 1), .int (zI ↑n), .ref (w 2), .ref (w 3), .ref (w 4), .ref (w 5), .int (zI ↑np), .ref (w 6), .ref (w 7), .int (zI ↑kn), .ref (w 8), .ref (w 9), .ref (w 10), .int (zI ↑ch), .int (zI le), .ref (w 11), .int (zI sf), .int (zI st), .ref (w 12)])), (w 1, .inl (cI, 30, .inl (kA t))), (w 2, .inl (cI, 30, .inl (kA K))), (w 3, .inl (cI, 30, .inl (kZ on))), (w 4, .inl (cI, 30, .inl (kZ ot))), (w 5, .inl (cI, 30, .inl (kZ nu))), (w 8, .inl (cI, 900, .inl (kM ((mFA t K fi sc nn nu (x + 1) 0 (G, E0)).1)))), (w 9, .inl (cI, 30, .inl (kM ((mFA t K fi sc nn nu (x + 1) 0 (G, E0)).2))))]) H := hP
    replace hD : va_D A ([(w 0, .inr (4, [.ref (w 1), .int (zI ↑n), .ref (w 2), .ref (w 3), .ref (w 4), .ref (w 5), .int (zI ↑np), .ref (w 6), .ref (w 7), .int (zI ↑kn), .ref (w 8), .ref (w 9), .ref (w 10), .int (zI ↑ch), .int (zI le), .ref (w 11), .int (zI sf), .int (zI st), .ref (w 12)])), (w 1, .inl (cI, 30, .inl (kA t))), (w 2, .inl (cI, 30, .inl (kA K))), (w 3, .inl (cI, 30, .inl (kZ on))), (w 4, .inl (cI, 30, .inl (kZ ot))), (w 5, .inl (cI, 30, .inl (kZ nu))), (w 8, .inl (cI, 900, .inl (kM ((mFA t K fi sc nn nu (x + 1) 0 (G, E0)).1)))), (w 9, .inl (cI, 30, .inl (kM ((mFA t K fi sc nn nu (x + 1) 0 (G, E0)).2))))]) := hD
    obtain ⟨G9, hG9⟩ : ∃ G9 : Nat → Nat, G9 = (mFA t K fi sc nn nu (x + 1) 0 (G, E0)).1 := ⟨_, rfl⟩
    obtain ⟨F9, hF9⟩ : ∃ F9 : Nat → Nat, F9 = (mFA t K fi sc nn nu (x + 1) 0 (G, E0)).2 := ⟨_, rfl⟩
    replace hP : va_P D k_cl [(w 0, .inr (4, [.ref (w 1), .int (zI ↑n), .ref (w 2), .ref (w 3), .ref (w 4), .ref (w 5), .int (zI ↑np), .ref (w 6), .ref (w 7), .int (zI ↑kn), .ref (w 8), .ref (w 9), .ref (w 10), .int (zI ↑ch), .int (zI le), .ref (w 11), .int (zI sf), .int (zI st), .ref (w 12)])), (w 1, .inl (cI, 30, .inl (kA t))), (w 2, .inl (cI, 30, .inl (kA K))), (w 3, .inl (cI, 30, .inl (kZ on))), (w 4, .inl (cI, 30, .inl (kZ ot))), (w 5, .inl (cI, 30, .inl (kZ nu))), (w 8, .inl (cI, 900, .inl (kM G9))), (w 9, .inl (cI, 30, .inl (kM F9)))] H := by rw [hG9, hF9]; exact hP
    replace hD : va_D A [(w 0, .inr (4, [.ref (w 1), .int (zI ↑n), .ref (w 2), .ref (w 3), .ref (w 4), .ref (w 5), .int (zI ↑np), .ref (w 6), .ref (w 7), .int (zI ↑kn), .ref (w 8), .ref (w 9), .ref (w 10), .int (zI ↑ch), .int (zI le), .ref (w 11), .int (zI sf), .int (zI st), .ref (w 12)])), (w 1, .inl (cI, 30, .inl (kA t))), (w 2, .inl (cI, 30, .inl (kA K))), (w 3, .inl (cI, 30, .inl (kZ on))), (w 4, .inl (cI, 30, .inl (kZ ot))), (w 5, .inl (cI, 30, .inl (kZ nu))), (w 8, .inl (cI, 900, .inl (kM G9))), (w 9, .inl (cI, 30, .inl (kM F9)))] := by rw [hG9, hF9]; exact hD
    have hb9 : ∀ u, G9 u ≤ 30 := by rw [hG9]; exact (mFA_le ⟨hG0, hE0⟩).1
    refine lv_iconst (v := zI 0) hx hb d_Mo_covered_15 (by decide) ?_
    refine lv_istore_n (lv' := [(2, .int (zI 0)), (0, .ref (w 0)), (1, .int (zI ↑x))]) hx hb d_Mo_covered_16 rfl hl (by decide) rfl ?_
    clear hl; intro ls hl
    refine lv_iconst (v := zI 0) hx hb d_Mo_covered_17 (by decide) ?_
    refine lv_istore_n (lv' := [(3, .int (zI 0)), (2, .int (zI 0)), (0, .ref (w 0)), (1, .int (zI ↑x))]) hx hb d_Mo_covered_18 rfl hl (by decide) rfl ?_
    clear hl; intro ls hl
    have loop_19 : ∀ (u : Nat) (p0 : Nat) (acc : Nat), (p0 + u = 30) → (mCov (fun z => G9 (30 * x + z)) u p0 acc = mCov (fun z => G9 (30 * x + z)) 30 0 0) → ∀ (H : Heap) (locs : List Loc) (ls : Array Slot), va_P D k_cl ([(w 0, .inr (4, [.ref (w 1), .int (zI ↑n), .ref (w 2), .ref (w 3), .ref (w 4), .ref (w 5), .int (zI ↑np), .ref (w 6), .ref (w 7), .int (zI ↑kn), .ref (w 8), .ref (w 9), .ref (w 10), .int (zI ↑ch), .int (zI le), .ref (w 11), .int (zI sf), .int (zI st), .ref (w 12)])), (w 1, .inl (cI, 30, .inl (kA t))), (w 2, .inl (cI, 30, .inl (kA K))), (w 3, .inl (cI, 30, .inl (kZ on))), (w 4, .inl (cI, 30, .inl (kZ ot))), (w 5, .inl (cI, 30, .inl (kZ nu))), (w 8, .inl (cI, 900, .inl (kM G9))), (w 9, .inl (cI, 30, .inl (kM F9)))]) H → va_D A ([(w 0, .inr (4, [.ref (w 1), .int (zI ↑n), .ref (w 2), .ref (w 3), .ref (w 4), .ref (w 5), .int (zI ↑np), .ref (w 6), .ref (w 7), .int (zI ↑kn), .ref (w 8), .ref (w 9), .ref (w 10), .int (zI ↑ch), .int (zI le), .ref (w 11), .int (zI sf), .int (zI st), .ref (w 12)])), (w 1, .inl (cI, 30, .inl (kA t))), (w 2, .inl (cI, 30, .inl (kA K))), (w 3, .inl (cI, 30, .inl (kZ on))), (w 4, .inl (cI, 30, .inl (kZ ot))), (w 5, .inl (cI, 30, .inl (kZ nu))), (w 8, .inl (cI, 900, .inl (kM G9))), (w 9, .inl (cI, 30, .inl (kM F9)))]) → va_S A s.heap H locs → lv_has ls 6 [(0, .ref (w 0)), (1, .int (zI ↑x)), (2, .int (zI ↑acc)), (3, .int (zI ↑p0))] → W p l ev rm_Mo_covered_2 s m ar below meth c H locs 0 0 Qf (F0 m 19 ls []) := by
      intro u
      induction u with
      | zero =>
        intro p0 acc hin hgo H locs ls hP hD hS hl
        refine lv_iload_n hx hb d_Mo_covered_19 rfl (lv_at hl 3 rfl) ?_
        refine lv_bipush (v := zI 30) hx hb d_Mo_covered_20 (by decide) ?_
        refine k_icmp_ge (tgt := 90) hx hb d_Mo_covered_22 (by decide) ⟨by omega, by omega⟩ ⟨by omega, by omega⟩ (fun c_22 => ?_) (fun c_22 => ?_)
        · refine lv_iload_n hx hb d_Mo_covered_90 rfl (lv_at hl 2 rfl) ?_
          subst hG9 hF9
          rw [← hQf]
          exact k_iret hx hb hr hlocks hP hS (by rw [← hgo]; rfl) d_Mo_covered_91
        · exfalso; omega
      | succ u ih_19 =>
        intro p0 acc hin hgo H locs ls hP hD hS hl
        refine lv_iload_n hx hb d_Mo_covered_19 rfl (lv_at hl 3 rfl) ?_
        refine lv_bipush (v := zI 30) hx hb d_Mo_covered_20 (by decide) ?_
        refine k_icmp_ge (tgt := 90) hx hb d_Mo_covered_22 (by decide) ⟨by omega, by omega⟩ ⟨by omega, by omega⟩ (fun c_22 => ?_) (fun c_22 => ?_)
        · exfalso; omega
        · refine lv_iconst (v := zI 0) hx hb d_Mo_covered_25 (by decide) ?_
          refine lv_istore (lv' := [(4, .int (zI 0)), (0, .ref (w 0)), (1, .int (zI ↑x)), (2, .int (zI ↑acc)), (3, .int (zI ↑p0))]) hx hb d_Mo_covered_26 hl (by decide) rfl ?_
          clear hl; intro ls hl
          refine lv_iconst (v := zI 0) hx hb d_Mo_covered_28 (by decide) ?_
          refine lv_istore (lv' := [(5, .int (zI 0)), (4, .int (zI 0)), (0, .ref (w 0)), (1, .int (zI ↑x)), (2, .int (zI ↑acc)), (3, .int (zI ↑p0))]) hx hb d_Mo_covered_29 hl (by decide) rfl ?_
          clear hl; intro ls hl
          have loop_31 : ∀ (u5 : Nat) (i : Nat) (iz : Nat), (i + u5 = p0 + 1) → (iz ≤ 1) → (mIs (fun z => G9 (30 * x + z)) p0 u5 i iz = mIs (fun z => G9 (30 * x + z)) p0 (p0 + 1) 0 0) → ∀ (H : Heap) (locs : List Loc) (ls : Array Slot), va_P D k_cl ([(w 0, .inr (4, [.ref (w 1), .int (zI ↑n), .ref (w 2), .ref (w 3), .ref (w 4), .ref (w 5), .int (zI ↑np), .ref (w 6), .ref (w 7), .int (zI ↑kn), .ref (w 8), .ref (w 9), .ref (w 10), .int (zI ↑ch), .int (zI le), .ref (w 11), .int (zI sf), .int (zI st), .ref (w 12)])), (w 1, .inl (cI, 30, .inl (kA t))), (w 2, .inl (cI, 30, .inl (kA K))), (w 3, .inl (cI, 30, .inl (kZ on))), (w 4, .inl (cI, 30, .inl (kZ ot))), (w 5, .inl (cI, 30, .inl (kZ nu))), (w 8, .inl (cI, 900, .inl (kM G9))), (w 9, .inl (cI, 30, .inl (kM F9)))]) H → va_D A ([(w 0, .inr (4, [.ref (w 1), .int (zI ↑n), .ref (w 2), .ref (w 3), .ref (w 4), .ref (w 5), .int (zI ↑np), .ref (w 6), .ref (w 7), .int (zI ↑kn), .ref (w 8), .ref (w 9), .ref (w 10), .int (zI ↑ch), .int (zI le), .ref (w 11), .int (zI sf), .int (zI st), .ref (w 12)])), (w 1, .inl (cI, 30, .inl (kA t))), (w 2, .inl (cI, 30, .inl (kA K))), (w 3, .inl (cI, 30, .inl (kZ on))), (w 4, .inl (cI, 30, .inl (kZ ot))), (w 5, .inl (cI, 30, .inl (kZ nu))), (w 8, .inl (cI, 900, .inl (kM G9))), (w 9, .inl (cI, 30, .inl (kM F9)))]) → va_S A s.heap H locs → lv_has ls 6 [(0, .ref (w 0)), (1, .int (zI ↑x)), (2, .int (zI ↑acc)), (3, .int (zI ↑p0)), (4, .int (zI ↑iz)), (5, .int (zI ↑i))] → W p l ev rm_Mo_covered_2 s m ar below meth c H locs 0 0 Qf (F0 m 31 ls []) := by
            intro u5
            induction u5 with
            | zero =>
              intro i iz hin5 hiz hgo5 H locs ls hP hD hS hl
              refine lv_iload hx hb d_Mo_covered_31 (lv_at hl 5 rfl) ?_
              refine lv_iload_n hx hb d_Mo_covered_33 rfl (lv_at hl 3 rfl) ?_
              refine k_icmp_gt (tgt := 71) hx hb d_Mo_covered_34 (by decide) ⟨by omega, by omega⟩ ⟨by omega, by omega⟩ (fun c_34 => ?_) (fun c_34 => ?_)
              · refine lv_iload_n hx hb d_Mo_covered_71 rfl (lv_at hl 2 rfl) ?_
                refine lv_iload hx hb d_Mo_covered_72 (lv_at hl 4 rfl) ?_
                refine k_if_eq (tgt := 81) hx hb d_Mo_covered_74 (by decide) ⟨by omega, by omega⟩ (fun c_74 => ?_) (fun c_74 => ?_)
                · refine lv_iconst (v := zI 0) hx hb d_Mo_covered_81 (by decide) ?_
                  refine k_iadd (v := ↑acc) hx hb d_Mo_covered_82 (by omega) ?_
                  refine lv_istore_n (lv' := [(2, .int (zI ↑acc)), (0, .ref (w 0)), (1, .int (zI ↑x)), (3, .int (zI ↑p0)), (4, .int (zI ↑iz)), (5, .int (zI ↑i))]) hx hb d_Mo_covered_83 rfl hl (by decide) rfl ?_
                  clear hl; intro ls hl
                  refine k_iinc (v := ↑(p0 + 1)) (lv' := [(3, .int (zI (↑(p0 + 1)))), (2, .int (zI ↑acc)), (0, .ref (w 0)), (1, .int (zI ↑x)), (4, .int (zI ↑iz)), (5, .int (zI ↑i))]) hx hb d_Mo_covered_84 hl (k := 3) rfl (by omega) (by decide) rfl ?_
                  clear hl; intro ls hl
                  refine lv_goto (tgt := 19) hx hb d_Mo_covered_87 (by decide) ?_
                  exact ih_19 (p0 + 1) acc (by omega) (by rw [mCov, ← hgo5] at hgo; dsimp only [mIs] at hgo; (first | exact hgo | (rw [show acc + iz = acc by omega] at hgo; exact hgo))) _ _ _ hP hD hS (lv_sub hl [2, 3, 1, 0] rfl)
                · refine lv_iconst (v := zI 1) hx hb d_Mo_covered_77 (by decide) ?_
                  refine lv_goto (tgt := 82) hx hb d_Mo_covered_78 (by decide) ?_
                  refine k_iadd (v := ↑(acc + 1)) hx hb d_Mo_covered_82 (by omega) ?_
                  refine lv_istore_n (lv' := [(2, .int (zI (↑(acc + 1)))), (0, .ref (w 0)), (1, .int (zI ↑x)), (3, .int (zI ↑p0)), (4, .int (zI ↑iz)), (5, .int (zI ↑i))]) hx hb d_Mo_covered_83 rfl hl (by decide) rfl ?_
                  clear hl; intro ls hl
                  refine k_iinc (v := ↑(p0 + 1)) (lv' := [(3, .int (zI (↑(p0 + 1)))), (2, .int (zI (↑(acc + 1)))), (0, .ref (w 0)), (1, .int (zI ↑x)), (4, .int (zI ↑iz)), (5, .int (zI ↑i))]) hx hb d_Mo_covered_84 hl (k := 3) rfl (by omega) (by decide) rfl ?_
                  clear hl; intro ls hl
                  refine lv_goto (tgt := 19) hx hb d_Mo_covered_87 (by decide) ?_
                  exact ih_19 (p0 + 1) (acc + 1) (by omega) (by rw [mCov, ← hgo5] at hgo; dsimp only [mIs] at hgo; (first | exact hgo | (rw [show acc + iz = (acc + 1) by omega] at hgo; exact hgo))) _ _ _ hP hD hS (lv_sub hl [2, 3, 1, 0] rfl)
              · exfalso; omega
            | succ u5 ih_31 =>
              intro i iz hin5 hiz hgo5 H locs ls hP hD hS hl
              refine lv_iload hx hb d_Mo_covered_31 (lv_at hl 5 rfl) ?_
              refine lv_iload_n hx hb d_Mo_covered_33 rfl (lv_at hl 3 rfl) ?_
              refine k_icmp_gt (tgt := 71) hx hb d_Mo_covered_34 (by decide) ⟨by omega, by omega⟩ ⟨by omega, by omega⟩ (fun c_34 => ?_) (fun c_34 => ?_)
              · exfalso; omega
              · refine lv_iload hx hb d_Mo_covered_37 (lv_at hl 4 rfl) ?_
                refine k_if_ne (tgt := 58) hx hb d_Mo_covered_39 (by decide) ⟨by omega, by omega⟩ (fun c_39 => ?_) (fun c_39 => ?_)
                · refine lv_iconst (v := zI 1) hx hb d_Mo_covered_58 (by decide) ?_
                  refine lv_goto (tgt := 63) hx hb d_Mo_covered_59 (by decide) ?_
                  refine lv_istore (lv' := [(4, .int (zI 1)), (0, .ref (w 0)), (1, .int (zI ↑x)), (2, .int (zI ↑acc)), (3, .int (zI ↑p0)), (5, .int (zI ↑i))]) hx hb d_Mo_covered_63 hl (by decide) rfl ?_
                  clear hl; intro ls hl
                  refine k_iinc (v := ↑(i + 1)) (lv' := [(5, .int (zI (↑(i + 1)))), (4, .int (zI 1)), (0, .ref (w 0)), (1, .int (zI ↑x)), (2, .int (zI ↑acc)), (3, .int (zI ↑p0))]) hx hb d_Mo_covered_65 hl (k := 5) rfl (by omega) (by decide) rfl ?_
                  clear hl; intro ls hl
                  refine lv_goto (tgt := 31) hx hb d_Mo_covered_68 (by decide) ?_
                  exact ih_31 (i + 1) 1 (by omega) (by omega) (by rw [mIs] at hgo5; rw [if_pos (by omega)] at hgo5; exact hgo5) _ _ _ hP hD hS (lv_sub hl [2, 3, 4, 5, 1, 0] rfl)
                · refine lv_aload_n hx hb d_Mo_covered_42 rfl (lv_at hl 0 rfl) ?_
                  refine va_get (D := D) (ci := 4) (v := .ref (w 8)) (C := R_Mo) (T := T_Mo) (N := 19) hx hb hkw kin_Mo hown hK hP 0 rfl rfl 10 (by decide) (hkw _ kw_fieldLink_Mo_31) (fun _ h9 => h9) rfl d_Mo_covered_43 ?_
                  refine lv_bipush (v := zI 30) hx hb d_Mo_covered_46 (by decide) ?_
                  refine lv_iload_n hx hb d_Mo_covered_48 rfl (lv_at hl 1 rfl) ?_
                  refine k_imul (v := ↑(30 * x)) hx hb d_Mo_covered_49 (by omega) ?_
                  refine lv_iload hx hb d_Mo_covered_50 (lv_at hl 5 rfl) ?_
                  refine k_iadd (v := ↑(30 * x + i)) hx hb d_Mo_covered_52 (by omega) ?_
                  refine k_aldM hx hb hK hP 6 0 rfl rfl (i := (30 * x + i)) (by omega) (by omega) (by omega) d_Mo_covered_53 ?_
                  have hv_1 := hb9 (30 * x + i)
                  have hm_2 := mz_or (G9 (30 * x + i))
                  refine lv_iload_n hx hb d_Mo_covered_54 rfl (lv_at hl 3 rfl) ?_
                  refine k_icmp_lt (tgt := 62) hx hb d_Mo_covered_55 (by decide) ⟨by omega, by omega⟩ ⟨by omega, by omega⟩ (fun c_55 => ?_) (fun c_55 => ?_)
                  · refine lv_iconst (v := zI 0) hx hb d_Mo_covered_62 (by decide) ?_
                    refine lv_istore (lv' := [(4, .int (zI 0)), (0, .ref (w 0)), (1, .int (zI ↑x)), (2, .int (zI ↑acc)), (3, .int (zI ↑p0)), (5, .int (zI ↑i))]) hx hb d_Mo_covered_63 hl (by decide) rfl ?_
                    clear hl; intro ls hl
                    refine k_iinc (v := ↑(i + 1)) (lv' := [(5, .int (zI (↑(i + 1)))), (4, .int (zI 0)), (0, .ref (w 0)), (1, .int (zI ↑x)), (2, .int (zI ↑acc)), (3, .int (zI ↑p0))]) hx hb d_Mo_covered_65 hl (k := 5) rfl (by omega) (by decide) rfl ?_
                    clear hl; intro ls hl
                    refine lv_goto (tgt := 31) hx hb d_Mo_covered_68 (by decide) ?_
                    exact ih_31 (i + 1) 0 (by omega) (by omega) (by rw [mIs] at hgo5; rw [if_neg (by omega)] at hgo5; exact hgo5) _ _ _ hP hD hS (lv_sub hl [2, 3, 4, 5, 1, 0] rfl)
                  · refine lv_iconst (v := zI 1) hx hb d_Mo_covered_58 (by decide) ?_
                    refine lv_goto (tgt := 63) hx hb d_Mo_covered_59 (by decide) ?_
                    refine lv_istore (lv' := [(4, .int (zI 1)), (0, .ref (w 0)), (1, .int (zI ↑x)), (2, .int (zI ↑acc)), (3, .int (zI ↑p0)), (5, .int (zI ↑i))]) hx hb d_Mo_covered_63 hl (by decide) rfl ?_
                    clear hl; intro ls hl
                    refine k_iinc (v := ↑(i + 1)) (lv' := [(5, .int (zI (↑(i + 1)))), (4, .int (zI 1)), (0, .ref (w 0)), (1, .int (zI ↑x)), (2, .int (zI ↑acc)), (3, .int (zI ↑p0))]) hx hb d_Mo_covered_65 hl (k := 5) rfl (by omega) (by decide) rfl ?_
                    clear hl; intro ls hl
                    refine lv_goto (tgt := 31) hx hb d_Mo_covered_68 (by decide) ?_
                    exact ih_31 (i + 1) 1 (by omega) (by omega) (by rw [mIs] at hgo5; rw [if_pos (by omega)] at hgo5; exact hgo5) _ _ _ hP hD hS (lv_sub hl [2, 3, 4, 5, 1, 0] rfl)
          exact loop_31 (p0 + 1) 0 0 (by omega) (by omega) rfl _ _ _ hP hD hS (lv_sub hl [2, 3, 4, 5, 1, 0] rfl)
    exact loop_19 30 0 0 (by omega) rfl _ _ _ hP hD hS (lv_sub hl [2, 3, 1, 0] rfl)
  · exfalso; omega
