/-! worlds with a tail: cells in any number behind the ones that are named -/
theorem k_mem_at {D : va_G} {cl : List vw_C} {ws : va_W} {H : Heap} (hP : va_P D cl ws H) {u : Nat × va_E} (h : u ∈ ws) : va_at D cl u H := by
  obtain ⟨k, hk⟩ := List.getElem?_of_mem h
  exact hP k u hk
theorem k_at_mem {D : va_G} {cl : List vw_C} {ws : va_W} {H : Heap} (h : ∀ u ∈ ws, va_at D cl u H) : va_P D cl ws H := fun _ u hk => h u (List.mem_of_getElem? hk)
theorem k_D_inj {A : Nat → Prop} {ws : va_W} (hD : va_D A ws) {u v : Nat × va_E} (hu : u ∈ ws) (hv : v ∈ ws) (e : u.1 = v.1) : u = v := by
  obtain ⟨i, hi⟩ := List.getElem?_of_mem hu
  obtain ⟨j, hj⟩ := List.getElem?_of_mem hv
  have hij := hD.1 i j u v hi hj e
  subst hij
  exact Option.some.inj (hi.symm.trans hj)
theorem k_D_fst {A : Nat → Prop} {ws ws' : va_W} (hD : va_D A ws) (e : ws'.map (·.1) = ws.map (·.1)) : va_D A ws' := by
  have hin : ∀ (k : Nat) (q : Nat × va_E), ws'[k]? = some q → ∃ y, ws[k]? = some y ∧ y.1 = q.1 := by
    intro k q hk
    have e1 : (ws'.map (·.1))[k]? = some q.1 := by rw [List.getElem?_map, hk]; rfl
    rw [e, List.getElem?_map] at e1
    cases hz : ws[k]? with
    | none => rw [hz] at e1; simp at e1
    | some z => rw [hz] at e1; exact ⟨z, rfl, by simpa using e1⟩
  refine ⟨?_, ?_⟩
  · intro i j p q hi hj he
    obtain ⟨y, y1, y2⟩ := hin i p hi
    obtain ⟨z, z1, z2⟩ := hin j q hj
    exact hD.1 i j y z y1 z1 (by rw [y2, z2, he])
  · intro k q h
    obtain ⟨y, y1, y2⟩ := hin k q h
    rw [← y2]
    exact hD.2 k y y1
theorem k_nd_D {ws : va_W} (h : (ws.map (·.1)).Nodup) : va_D (fun _ => True) ws := by
  refine ⟨?_, fun _ _ _ => trivial⟩
  intro i j p q hi hj he
  have h := List.pairwise_iff_getElem.mp h
  have l1 : i < ws.length := (List.getElem?_eq_some_iff.mp hi).1
  have l2 : j < ws.length := (List.getElem?_eq_some_iff.mp hj).1
  have key : ∀ a b : Nat, ∀ u v : Nat × va_E, ws[a]? = some u → ws[b]? = some v → u.1 = v.1 → a < b → b < ws.length → False := by
    intro a b u v ha hb huv hab hbl
    refine h a b (by rw [List.length_map]; omega) (by rw [List.length_map]; exact hbl) hab ?_
    rw [List.getElem_map, List.getElem_map]
    have e1 : ws[a] = u := (List.getElem?_eq_some_iff.mp ha).2
    have e2 : ws[b] = v := (List.getElem?_eq_some_iff.mp hb).2
    rw [e1, e2]; exact huv
  rcases Nat.lt_trichotomy i j with h1 | h1 | h1
  · exact (key i j p q hi hj he h1 l2).elim
  · exact h1
  · exact (key j i q p hj hi he.symm h1 l1).elim
theorem k_D_left {A : Nat → Prop} {a b : va_W} (h : va_D A (a ++ b)) : va_D A a :=
  ⟨fun i j p q hi hj e => h.1 i j p q (by rw [List.getElem?_append_left (List.getElem?_eq_some_iff.mp hi).1]; exact hi) (by rw [List.getElem?_append_left (List.getElem?_eq_some_iff.mp hj).1]; exact hj) e,
   fun k q hk => h.2 k q (by rw [List.getElem?_append_left (List.getElem?_eq_some_iff.mp hk).1]; exact hk)⟩
theorem k_D_right {A : Nat → Prop} {a b : va_W} (h : va_D A (a ++ b)) : va_D A b := by
  have hx : ∀ (k : Nat) (q : Nat × va_E), b[k]? = some q → (a ++ b)[a.length + k]? = some q := fun k q hk => by
    rw [List.getElem?_append_right (by omega), show a.length + k - a.length = k by omega]; exact hk
  exact ⟨fun i j p q hi hj e => by have := h.1 _ _ p q (hx i p hi) (hx j q hj) e; omega, fun k q hk => h.2 _ q (hx k q hk)⟩
theorem k_D_apart {A : Nat → Prop} {a b : va_W} (h : va_D A (a ++ b)) {u v : Nat × va_E} (hu : u ∈ a) (hv : v ∈ b) : u.1 ≠ v.1 := by
  obtain ⟨i, hi⟩ := List.getElem?_of_mem hu
  obtain ⟨j, hj⟩ := List.getElem?_of_mem hv
  intro e
  have l1 : i < a.length := (List.getElem?_eq_some_iff.mp hi).1
  have := h.1 i (a.length + j) u v (by rw [List.getElem?_append_left l1]; exact hi) (by rw [List.getElem?_append_right (by omega), show a.length + j - a.length = j by omega]; exact hj) e
  omega
theorem k_pick_mem {X px : va_W} (is : List Nat) (hC : is.map (fun i => X[i]?) = px.map some) {u : Nat × va_E} (h : u ∈ px) : u ∈ X := by
  obtain ⟨k, hk⟩ := List.getElem?_of_mem h
  obtain ⟨i, -, hi⟩ := va_in_of is hC hk
  exact List.mem_of_getElem? hi
/-- what a callee gets: named cells px of X, and cells tc of the tail T -/
theorem k_cutT {D : va_G} {cl : List vw_C} {X T px tc : va_W} {H : Heap} (hP : va_P D cl (X ++ T) H) (is : List Nat) (hC : is.map (fun i => X[i]?) = px.map some) (ht : ∀ u ∈ tc, u ∈ T) : va_P D cl (px ++ tc) H :=
  k_at_mem (fun u hu => k_mem_at hP (List.mem_append.mpr ((List.mem_append.mp hu).imp (fun h => k_pick_mem is hC h) (ht u))))
theorem k_cutDT {A : Nat → Prop} {X T px tc : va_W} (hD : va_D A (X ++ T)) (is : List Nat) (hni : va_nd is = true) (hC : is.map (fun i => X[i]?) = px.map some) (ht : ∀ u ∈ tc, u ∈ T) (hDt : va_D (fun _ => True) tc) : va_D (fun _ => True) (px ++ tc) :=
  va_D.app ((va_D.sub (k_D_left hD) is hni hC).weaken (fun _ _ _ _ => trivial)) hDt (fun _ _ _ _ hp hq => k_D_apart hD (k_pick_mem is hC (List.mem_of_getElem? hp)) (ht _ (List.mem_of_getElem? hq)))
theorem k_freeT {A0 : Nat → Prop} {X T px tc : va_W} {H0 H : Heap} {locs : List Loc} (hD : va_D A0 (X ++ T)) (hS : va_S A0 H0 H locs) (hA : ∀ q, H0.size ≤ q → A0 q) (is : List Nat) (hC : is.map (fun i => X[i]?) = px.map some) (ht : ∀ u ∈ tc, u ∈ T) : ∀ q, va_A (px ++ tc) H.size q → A0 q := by
  rintro q (⟨k, e, hk⟩ | h)
  · have hm : (q, e) ∈ X ++ T := List.mem_append.mpr ((List.mem_append.mp (List.mem_of_getElem? hk)).imp (fun h => k_pick_mem is hC h) (ht _))
    obtain ⟨j, hj⟩ := List.getElem?_of_mem hm
    exact hD.2 j _ hj
  · exact hA q (Nat.le_trans hS.1 h)
/-- THE FRAME, with a tail -/
theorem k_frT {A0 : Nat → Prop} {D : va_G} {cl : List vw_C} {X T px tc nx tn T1 : va_W} {H H1 : Heap} (hP : va_P D cl (X ++ T) H) (hD : va_D A0 (X ++ T)) (is : List Nat) (hC : is.map (fun i => X[i]?) = px.map some) (hE : nx.map (·.1) = px.map (·.1)) (ht : ∀ u ∈ tc, u ∈ T) (hT : T1.map (·.1) = T.map (·.1)) (hU : ∀ u ∈ T1, u ∈ tn ∨ (u ∈ T ∧ (u ∈ tc → u ∈ tn)))
    (hk : ∀ q : Nat, q < H.size → ¬ va_A (px ++ tc) H.size q → H1[q]? = H[q]?) (hP1 : va_P D cl (nx ++ tn) H1) : va_P D cl (k_put X is nx ++ T1) H1 ∧ va_D A0 (k_put X is nx ++ T1) := by
  have hlen : is.length = nx.length := by
    have e1 := congrArg List.length hC
    have e2 := congrArg List.length hE
    simp at e1 e2
    omega
  have hX : (k_put X is nx).map (·.1) = X.map (·.1) := by
    apply List.ext_getElem?
    intro k
    have hadr : ∀ (j i : Nat) (x : Nat × va_E), is[j]? = some i → nx[j]? = some x → ∃ y, X[i]? = some y ∧ y.1 = x.1 := by
      intro j i x a b
      have e2 : (nx.map (·.1))[j]? = some x.1 := by simp [b]
      rw [hE, List.getElem?_map] at e2
      cases hz : px[j]? with
      | none => rw [hz] at e2; simp at e2
      | some z =>
        rw [hz] at e2
        have hzx : z.1 = x.1 := by simpa using e2
        have e1 : (is.map (fun i => X[i]?))[j]? = some X[i]? := by rw [List.getElem?_map, a]; rfl
        rw [hC, List.getElem?_map, hz] at e1
        exact ⟨z, (Option.some.inj e1).symm, hzx⟩
    have hl : ∀ (is : List Nat) (qs w : va_W), (k_put w is qs).length = w.length := by
      intro is
      induction is with
      | nil => intro qs w; cases qs <;> rfl
      | cons i is ih =>
        intro qs w
        cases qs with
        | nil => rfl
        | cons q qs => exact (ih qs (w.set i q)).trans (List.length_set ..)
    rw [List.getElem?_map, List.getElem?_map]
    cases hz : (k_put X is nx)[k]? with
    | none =>
      have : X[k]? = none := by rw [List.getElem?_eq_none_iff] at hz ⊢; rw [hl] at hz; exact hz
      rw [this]
    | some q =>
      obtain ⟨y, y1, y2⟩ := k_put_addr is nx X hadr k q hz
      rw [y1]; simp [y2]
  refine ⟨k_at_mem ?_, k_D_fst hD (by rw [List.map_append, List.map_append, hX, hT])⟩
  have keep : ∀ u : Nat × va_E, u ∈ X ++ T → (u ∈ px ++ tc → u ∈ nx ++ tn) → va_at D cl u H1 := by
    intro u hu himp
    have ha := k_mem_at hP hu
    by_cases hin : ∃ w ∈ px ++ tc, w.1 = u.1
    · obtain ⟨w, hw, hwu⟩ := hin
      have hw2 : w ∈ X ++ T := List.mem_append.mpr ((List.mem_append.mp hw).imp (fun h => k_pick_mem is hC h) (ht _))
      have := k_D_inj hD hw2 hu hwu
      subst this
      exact k_mem_at hP1 (himp hw)
    · refine va_at.kept ha (hk u.1 (va_at.lt ha) ?_)
      rintro (⟨k, e, h⟩ | h)
      · exact hin ⟨_, List.mem_of_getElem? h, rfl⟩
      · have := va_at.lt ha; omega
  intro u hu
  rcases List.mem_append.mp hu with h | h
  · obtain ⟨k, hk1⟩ := List.getElem?_of_mem h
    rcases k_put_old is nx X k u hlen hk1 with h1 | ⟨h1, h2⟩
    · exact k_mem_at hP1 (List.mem_append_left _ h1)
    · refine keep u (List.mem_append_left _ (List.mem_of_getElem? h1)) (fun hin => ?_)
      exfalso
      rcases List.mem_append.mp hin with h3 | h3
      · obtain ⟨j, hj⟩ := List.getElem?_of_mem h3
        obtain ⟨i, hi1, hi2⟩ := va_in_of is hC hj
        have hik : i = k := (k_D_left hD).1 i k _ _ hi2 h1 rfl
        subst hik
        exact h2 (List.mem_of_getElem? hi1)
      · exact k_D_apart hD (List.mem_of_getElem? h1) (ht u h3) rfl
  · rcases hU u h with h1 | ⟨h1, h2⟩
    · exact k_mem_at hP1 (List.mem_append_right _ h1)
    · refine keep u (List.mem_append_right _ h1) (fun hin => ?_)
      rcases List.mem_append.mp hin with h3 | h3
      · exact absurd rfl (k_D_apart hD (k_pick_mem is hC h3) h1)
      · exact List.mem_append_right _ (h2 h3)
section KT
variable {p : Program} {l : Launch} {e : Env} {R : Room} {s : State} {m : MethodId} {args : Array Value} {below : List Frame} {meth : Method} {c : Code} {H : Heap} {locs : List Loc} {cells slots : Nat} {Q : State → Prop}
variable {cc : ByteArray} {pc : Nat} {ls : Array Slot} {rest : List Value} {D : va_G} {cl : List vw_C} {A : Nat → Prop} {a : Nat} {tys : List (ClassId × FieldType)} {X T px tc nx tn T1 : va_W} {H0 : Heap}
theorem k_preVT {C : String} {b ci q0 : Nat} {As fs : List Value} {Tq : u_T} {Nq : Nat} (hK : va_K D cl tys s) (hG : k_G k_ns s) (hP : va_P D cl (X ++ T) H) (hD : va_D A (X ++ T)) (is : List Nat) (hC : is.map (fun i => X[i]?) = px.map some) (hni : va_nd is = true) (ht : ∀ u ∈ tc, u ∈ T) (hDt : va_D (fun _ => True) tc) (hq : cl[ci]? = some (C, Tq, Nq)) (he : (px ++ tc)[q0]? = some (b, .inr (ci, fs))) : PreV s H C b (va_Pc (.ref b :: As) (k_In D cl tys (px ++ tc) H.size)) As :=
  ⟨k_blind, va_recv hK (k_cutT hP is hC ht) hq he, fun U hU hW => ⟨rfl, by rw [hU], by rw [hU]; exact k_cutT hP is hC ht, va_K.moved hW.alike hK, hG.warm hW, k_cutDT hD is hni hC ht hDt⟩⟩
theorem k_beIT {rr : Int32} {aa : Array Value} {st0 : List Value} (hr : va_Run p l e R s m args below meth c H locs cells slots 0 0 (F0 m pc ls st0) rest (k_Qi D cl rr (nx ++ tn) (va_A (px ++ tc) H.size) aa) (va_A (px ++ tc) H.size)) (hP : va_P D cl (X ++ T) H) (hD : va_D A (X ++ T)) (hS : va_S A H0 H locs) (hA : ∀ q, H0.size ≤ q → A q) (is : List Nat) (hC : is.map (fun i => X[i]?) = px.map some) (hE : nx.map (·.1) = px.map (·.1)) (ht : ∀ u ∈ tc, u ∈ T) (hT : T1.map (·.1) = T.map (·.1)) (hU : ∀ u ∈ T1, u ∈ tn ∨ (u ∈ T ∧ (u ∈ tc → u ∈ tn)))
    (kk : ∀ (H1 : Heap) (locs1 : List Loc), va_P D cl (k_put X is nx ++ T1) H1 → va_D A (k_put X is nx ++ T1) → va_S A H0 H1 locs1 → W p l e R s m args below meth c H1 locs1 cells slots Q (F0 m (pc + 3) ls (.int rr :: rest))) : W p l e R s m args below meth c H locs cells slots Q (F0 m pc ls st0) := by
  have hFc := k_freeT hD hS hA is hC ht
  refine va_calli hr hS (fun q _ h => hFc q h) hFc (fun r u t H1 locs1 htt hvm hw hB hz1 hk1 hS1 => ?_)
  subst hw
  subst htt
  obtain ⟨g1, g2⟩ := k_frT hP hD is hC hE ht hT hU hk1 hB
  exact kk t.heap locs1 g1 g2 hS1
theorem k_beVT {aa : Array Value} {st0 : List Value} (hr : va_Run p l e R s m args below meth c H locs cells slots 0 0 (F0 m pc ls st0) rest (k_Qv D cl (nx ++ tn) (va_A (px ++ tc) H.size) aa) (va_A (px ++ tc) H.size)) (hP : va_P D cl (X ++ T) H) (hD : va_D A (X ++ T)) (hS : va_S A H0 H locs) (hA : ∀ q, H0.size ≤ q → A q) (is : List Nat) (hC : is.map (fun i => X[i]?) = px.map some) (hE : nx.map (·.1) = px.map (·.1)) (ht : ∀ u ∈ tc, u ∈ T) (hT : T1.map (·.1) = T.map (·.1)) (hU : ∀ u ∈ T1, u ∈ tn ∨ (u ∈ T ∧ (u ∈ tc → u ∈ tn)))
    (kk : ∀ (H1 : Heap) (locs1 : List Loc), va_P D cl (k_put X is nx ++ T1) H1 → va_D A (k_put X is nx ++ T1) → va_S A H0 H1 locs1 → W p l e R s m args below meth c H1 locs1 cells slots Q (F0 m (pc + 3) ls rest)) : W p l e R s m args below meth c H locs cells slots Q (F0 m pc ls st0) := by
  have hFc := k_freeT hD hS hA is hC ht
  refine va_callv hr hS (fun q _ h => hFc q h) hFc (fun u t H1 locs1 htt hvm hw hB hz1 hk1 hS1 => ?_)
  subst htt
  obtain ⟨g1, g2⟩ := k_frT hP hD is hC hE ht hT hU hk1 hB
  exact kk t.heap locs1 g1 g2 hS1
theorem k_beRT {rr : Nat} {aa : Array Value} {st0 : List Value} (hr : va_Run p l e R s m args below meth c H locs cells slots 0 0 (F0 m pc ls st0) rest (k_Qr D cl rr (nx ++ tn) (va_A (px ++ tc) H.size) aa) (va_A (px ++ tc) H.size)) (hP : va_P D cl (X ++ T) H) (hD : va_D A (X ++ T)) (hS : va_S A H0 H locs) (hA : ∀ q, H0.size ≤ q → A q) (is : List Nat) (hC : is.map (fun i => X[i]?) = px.map some) (hE : nx.map (·.1) = px.map (·.1)) (ht : ∀ u ∈ tc, u ∈ T) (hT : T1.map (·.1) = T.map (·.1)) (hU : ∀ u ∈ T1, u ∈ tn ∨ (u ∈ T ∧ (u ∈ tc → u ∈ tn)))
    (kk : ∀ (H1 : Heap) (locs1 : List Loc), va_P D cl (k_put X is nx ++ T1) H1 → va_D A (k_put X is nx ++ T1) → va_S A H0 H1 locs1 → W p l e R s m args below meth c H1 locs1 cells slots Q (F0 m (pc + 3) ls (.ref rr :: rest))) : W p l e R s m args below meth c H locs cells slots Q (F0 m pc ls st0) := by
  have hFc := k_freeT hD hS hA is hC ht
  refine va_callr hr hS (fun q _ h => hFc q h) hFc (fun u ra t H1 locs1 htt hvm hw hB hz1 hk1 hS1 => ?_)
  obtain ⟨rfl, hB⟩ := hB
  subst htt
  obtain ⟨g1, g2⟩ := k_frT hP hD is hC hE ht hT hU hk1 hB
  exact kk t.heap locs1 g1 g2 hS1
end KT
