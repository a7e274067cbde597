/-! new cells: words that are carried, contracts of constructors, rows that make arrays -/
def k_O (U : State) : Prop := va_Nw (.arrayOver (.object R_Ro)) U ∧ va_Nw (.arrayOver (.array .int)) U
theorem k_aov {ty : FieldType} {A A' : Array Value} {u U : State} (h : u.vm.Alike U.vm) (hb : (Cond.arrayOver ty).before A u = true) : (Cond.arrayOver ty).before A' U = true := by
  have h1 : (Cond.arrayOver ty).before A (u.setVm U.vm) = true := by rw [Cond.arrayOver_setVmC h]; exact hb
  exact h1
theorem k_O.moved {s U : State} (h : s.vm.Alike U.vm) (hO : k_O s) : k_O U := ⟨k_aov h hO.1, k_aov h hO.2⟩
def k_InN (D : va_G) (cl : List vw_C) (tys : List (ClassId × FieldType)) (wc : va_W) (sz : Nat) (U : State) : Prop := k_In D cl tys wc sz U ∧ k_O U
abbrev k_QN {S : Type} (D : va_G) (cl : List vw_C) (WN : S → va_W) (A : Nat → Prop) : Array Value → State → Outcome → State → Prop := va_Qv (fun (_ : S) => True) (fun u t => va_P D cl (WN u) t.heap ∧ va_D A (WN u)) A
abbrev k_N {S : Type} (l : Launch) (y : MethodName) (ws : List Cond) (rm : Room) (mc ms : Nat) (D : va_G) (cl : List vw_C) (tys : List (ClassId × FieldType)) (as : List Value) (wc : va_W) (WN : S → va_W) : Prop :=
  ∀ sz : Nat, Met l y ws rm (va_Pc as (k_InN D cl tys wc sz)) (k_QN D cl WN (va_A wc sz)) mc ms (va_A wc sz)
theorem k_blindN {as : List Value} {D : va_G} {cl : List vw_C} {tys : List (ClassId × FieldType)} {wc : va_W} {sz : Nat} : FrameBlind (va_Pc as (k_InN D cl tys wc sz)) := by
  intro a U g mk q
  obtain ⟨q0, ⟨q1, qP, qK, qG, qD⟩, qO⟩ := q
  exact ⟨q0, ⟨q1, qP, va_K.moved (u := U) (U := U.calling g mk a) (Vm.Alike.refl U.vm) qK, qG.same rfl, qD⟩, qO.moved (U := U.calling g mk a) (Vm.Alike.refl U.vm)⟩
theorem k_joinN {A0 : Nat → Prop} {D : va_G} {cl : List vw_C} {X wc w1 : va_W} {H H1 : Heap} (hP : va_P D cl (X ++ wc) H) (hD : va_D A0 (X ++ wc)) (hk : ∀ q : Nat, q < H.size → ¬ va_A wc H.size q → H1[q]? = H[q]?) (hF : ∀ q, va_A wc H.size q → A0 q) (hP1 : va_P D cl w1 H1) (hD1 : va_D (va_A wc H.size) w1) : va_P D cl (X ++ w1) H1 ∧ va_D A0 (X ++ w1) := by
  have apart : ∀ u ∈ X, u.1 < H.size ∧ ¬ va_A wc H.size u.1 := by
    intro u hu
    have hl := va_at.lt (k_mem_at hP (List.mem_append_left _ hu))
    refine ⟨hl, ?_⟩
    rintro (⟨k, e, h⟩ | h)
    · exact k_D_apart hD hu (List.mem_of_getElem? h) rfl
    · omega
  refine ⟨va_P.app (fun k q hq => ?_) hP1, va_D.app (k_D_left hD) (hD1.weaken (fun k q _ h => hF q.1 h)) (fun i j x y hx hy hxy => ?_)⟩
  · have hm := List.mem_of_getElem? hq
    exact (k_mem_at hP (List.mem_append_left _ hm)).kept (hk q.1 (apart q hm).1 (apart q hm).2)
  · exact (apart x (List.mem_of_getElem? hx)).2 (by rw [hxy]; exact hD1.2 j y hy)
theorem k_extR {cA : ClassId} {n : Nat} {f g : Nat → Option Nat} (h : ∀ j, j < n → f j = g j) : vp_cell cA (n, .inr (.inr (.inr (.inr f)))) = vp_cell cA (n, .inr (.inr (.inr (.inr g)))) := by
  rw [vp_cell_q, vp_cell_q]
  unfold arrV
  congr 1
  apply Array.ext
  · simp
  · intro i h1 h2
    simp at h1
    simp [h i h1]
def va_AOA (ty : FieldType) (U : State) : Prop := va_Nw (.arrayOver (.array ty)) U
theorem va_AOA.use {ty : FieldType} {A : Array Value} {U : State} (h : va_AOA ty U) : (Cond.arrayOver (.array ty)).before A U = true := k_aov (Vm.Alike.refl U.vm) h
/-! ===== END ===== -/

/-! ===== BEGIN new T[n][m]: the outer array a place, the inner ones among the pooled ===== -/
/-- f, but v at every address of l -/
def vr_up {α : Type} (f : Nat → α) (l : List Nat) (v : α) : Nat → α := fun a => if a ∈ l then v else f a
theorem vr_up_in {α : Type} {f : Nat → α} {l : List Nat} {v : α} {a : Nat} (h : a ∈ l) : vr_up f l v a = v := if_pos h
theorem vr_up_ne {α : Type} {f : Nat → α} {l : List Nat} {v : α} {a : Nat} (h : a ∉ l) : vr_up f l v a = f a := if_neg h
theorem vr_rows {L l : List Nat} {f : Nat → va_E} {e : va_E} (h : ∀ a, a ∈ l → a ∉ L) : va_pl L f ++ l.map (fun a => (a, e)) = va_pl (L ++ l) (vr_up f l e) := by
  unfold va_pl
  rw [List.map_append]
  congr 1
  · apply List.map_congr_left
    intro a ha
    rw [vr_up_ne (fun q => h a q ha)]
  · apply List.map_congr_left
    intro a ha
    rw [vr_up_in ha]
theorem vr_lay {X rows : va_W} {x : Nat × va_E} {pl : va_W} {D : va_G} {cl : List vw_C} {H : Heap} (hP : va_P D cl (((X ++ pl) ++ [x]) ++ rows) H) : va_P D cl ((X ++ [x]) ++ (pl ++ rows)) H := by
  rw [List.append_assoc (X ++ pl)] at hP
  have h := va_P.swap hP
  rw [← List.append_assoc X] at h
  have h2 := va_P.swap h
  rw [List.append_assoc (X ++ [x])] at h2
  exact h2
theorem vr_layD {X rows : va_W} {x : Nat × va_E} {pl : va_W} {A : Nat → Prop} (hD : va_D A (((X ++ pl) ++ [x]) ++ rows)) : va_D A ((X ++ [x]) ++ (pl ++ rows)) := by
  rw [List.append_assoc (X ++ pl)] at hD
  have h := va_D.swap hD
  rw [← List.append_assoc X] at h
  have h2 := va_D.swap h
  rw [List.append_assoc (X ++ [x])] at h2
  exact h2
theorem vr_outer (c : ClassId) (N h0 : Nat) : ∀ i : Nat, Jvm.Free.Multi.outerC c N h0 i = arrV c N (fun j => va_rf (if j < i then some (h0 + 1 + j) else none))
  | 0 => by
    show ({ cls := c, slots := Array.replicate N .null, vm := .none } : Cell) = _
    rw [arrV_new]
    refine congrArg (arrV c N) (funext fun j => ?_)
    simp [va_rf]
  | i + 1 => by
    show (Jvm.Free.Multi.outerC c N h0 i).setSlot i (.ref (h0 + 1 + i)) = _
    rw [vr_outer c N h0 i, arrV_store]
    refine congrArg (arrV c N) (funext fun j => ?_)
    by_cases e : j = i
    · subst e
      simp [updV, va_rf]
    · by_cases h : j < i
      · simp [updV, e, h, Nat.lt_succ_of_lt h]
      · simp [updV, e, h, show ¬ j < i + 1 by omega]
section VGM
variable {p : Program} {l : Launch} {e : Env} {R : Room} {s : State} {m : MethodId} {args : Array Value} {below : List Frame} {meth : Method} {c : Code} {H : Heap} {locs : List Loc} {cells slots : Nat} {Q : State → Prop}
variable {cc : ByteArray} {pc : Nat} {ls : Array Slot} {rest : List Value} {D : va_G} {cl : List vw_C} {A : Nat → Prop} {a : Nat} {tys : List (ClassId × FieldType)} {ws : va_W} {H0 : Heap}
theorem va_mna {X : va_W} {L : List Nat} {f : Nat → va_E} {cc : ByteArray} (hexec : p.tables.exec = Jvm.exec) (hb : c.code = cc) {own : String} {index : Nat} {ty : FieldType} {cy : ClassId} (hown : s.vm.findClass own = some m.cls) (hclink : (Cond.classLink own index ("[" ++ (FieldType.array ty).toString)).before args s = true) (hover : va_AOA ty s) (harr : (Cond.arrayClass ty).before args s = true) (hcy : s.vm.findClass (FieldType.array ty).toString = some cy)
    (hK : va_K D cl tys s) (hP : va_P D cl (X ++ va_pl L f) H) (hD : va_D A (X ++ va_pl L f)) (hS : va_S A H0 H locs) (hA : ∀ q, H0.size ≤ q → A q) {n k : Int32} {N' K' : Nat} {z : vp_A} (hn : ¬ n < 0) (hk : ¬ k < 0) (hN : n.toNatClampNeg = N') (hM : k.toNatClampNeg = K')
    (hb1 : N' * 4 ≤ 536870912) (hb2 : K' * componentBytes ty ≤ 536870912) (hb3 : K' ≤ 536870912) (hdf : fits ty (defaultValue ty) = true) (hdd : (defaultValue ty).isDefault = true) (hcells : cells + (1 + N') ≤ R.cells) (hslots : slots + (N' + N' * K') ≤ R.slots) (hz : ∀ c : ClassId, Jvm.Free.Multi.innerC c K' (defaultValue ty) = vp_cell c z) (hdg : decode cc pc = .ok (.multianewarray index 2, 4))
    (kk : ∀ (q : Nat) (r : Nat → Nat) (cA : ClassId) (H1 : Heap), (∀ i j : Nat, i < N' → j < N' → r i = r j → i = j) → (∀ i : Nat, i < N' → r i ∉ L) → va_K D cl (tys ++ [(cA, .array ty)]) s →
      va_P D cl ((X ++ [(q, .inl (cA, N', .inr (.inr (.inr (.inr (fun i => if i < N' then some (r i) else none))))))]) ++ va_pl (L ++ (List.range N').map r) (vr_up f ((List.range N').map r) (.inl (cy, z)))) H1 → va_D A ((X ++ [(q, .inl (cA, N', .inr (.inr (.inr (.inr (fun i => if i < N' then some (r i) else none))))))]) ++ va_pl (L ++ (List.range N').map r) (vr_up f ((List.range N').map r) (.inl (cy, z)))) → va_S A H0 H1 locs →
      W p l e R s m args below meth c H1 locs (cells + 1 + N') (slots + N' + N' * K') Q (F0 m (pc + 4) ls (.ref q :: rest))) : W p l e R s m args below meth c H locs cells slots Q (F0 m pc ls (.int k :: .int n :: rest)) := by
  subst hN
  subst hM
  intro T hT Xs
  obtain ⟨vm₁, cA, comp, -, fA, fC, hO, -, X', step⟩ := Xs.multianewarray2F hexec hown hclink (va_AOA.use hover) harr (g := F0 m pc ls (.int k :: .int n :: rest)) rfl (by rw [hb]; exact hdg) rfl hn hk hb1 hb2 hb3 hdf hdd hcells hslots
  have ec : some cy = some comp := hcy.symm.trans fC
  cases ec
  generalize hF : Jvm.Free.Multi.fill (T.setVm vm₁) cA cy n.toNatClampNeg k.toNatClampNeg (defaultValue ty) n.toNatClampNeg = F at X' step
  have hTh : (T.setVm vm₁).heap = H := hT
  obtain ⟨f1, f2, -, -⟩ := Jvm.Free.Multi.fill_facts (T.setVm vm₁) cA cy n.toNatClampNeg k.toNatClampNeg (defaultValue ty) n.toNatClampNeg
  rw [hF, hTh] at f1 f2
  have hold : ∀ x : Nat, x < H.size → F.heap[x]? = H[x]? := fun x hx => by
    have := Jvm.Free.Multi.fill_old (T.setVm vm₁) cA cy n.toNatClampNeg k.toNatClampNeg (defaultValue ty) (a := x) (by rw [hTh]; exact hx) n.toNatClampNeg
    rw [hF, hTh] at this
    exact this
  have hrow : ∀ j : Nat, j < n.toNatClampNeg → F.heap[H.size + 1 + j]? = some (vp_cell cy z) := fun j hj => by
    have := Jvm.Free.Multi.fill_inner (T.setVm vm₁) cA cy n.toNatClampNeg k.toNatClampNeg (defaultValue ty) n.toNatClampNeg j hj
    rw [hF, hTh, hz] at this
    exact this
  have hout : Jvm.Free.Multi.outerC cA n.toNatClampNeg H.size n.toNatClampNeg = vp_cell cA (n.toNatClampNeg, .inr (.inr (.inr (.inr (fun i => if i < n.toNatClampNeg then some (H.size + 1 + i) else none))))) := by
    rw [vp_cell_q]
    exact vr_outer cA n.toNatClampNeg H.size n.toNatClampNeg
  rw [hout] at f2
  have hlt : ∀ a, a ∈ L → a < H.size := fun a ha => by
    obtain ⟨k9, hk9⟩ := va_pl_get (X := X) (f := f) ha
    exact (hP k9 _ hk9).lt
  have hnl : ∀ i : Nat, i < n.toNatClampNeg → H.size + 1 + i ∉ L := fun i _ h => by
    have := hlt _ h
    omega
  have hnm : ∀ a, a ∈ (List.range n.toNatClampNeg).map (fun i => H.size + 1 + i) → a ∉ L := fun a ha h => by
    obtain ⟨i, -, rfl⟩ := List.mem_map.mp ha
    have := hlt _ h
    omega
  have hP0 : va_P D cl (X ++ va_pl L f) F.heap := hP.kept (fun k9 x hx => hold x.1 ((hP k9 x hx).lt))
  have hP1 : va_P D cl ((X ++ va_pl L f) ++ [(H.size, .inl (cA, n.toNatClampNeg, .inr (.inr (.inr (.inr (fun i => if i < n.toNatClampNeg then some (H.size + 1 + i) else none))))))]) F.heap := hP0.app (fun k9 x hx => by
    have h0 : k9 < 1 := (List.getElem?_eq_some_iff.mp hx).1
    rw [show k9 = 0 by omega] at hx
    cases hx
    exact f2)
  have hP2 : va_P D cl (((X ++ va_pl L f) ++ [(H.size, .inl (cA, n.toNatClampNeg, .inr (.inr (.inr (.inr (fun i => if i < n.toNatClampNeg then some (H.size + 1 + i) else none))))))]) ++ ((List.range n.toNatClampNeg).map (fun i => H.size + 1 + i)).map (fun a => (a, .inl (cy, z)))) F.heap := hP1.app (fun k9 x hx => by
    obtain ⟨a, ha, rfl⟩ := List.mem_map.mp (List.mem_of_getElem? hx)
    obtain ⟨i, hi, rfl⟩ := List.mem_map.mp ha
    exact hrow i (List.mem_range.mp hi))
  have hD2 : va_D A (((X ++ va_pl L f) ++ [(H.size, .inl (cA, n.toNatClampNeg, .inr (.inr (.inr (.inr (fun i => if i < n.toNatClampNeg then some (H.size + 1 + i) else none))))))]) ++ ((List.range n.toNatClampNeg).map (fun i => H.size + 1 + i)).map (fun a => (a, .inl (cy, z)))) := by
    have hD1 := hD.push (e := .inl (cA, n.toNatClampNeg, .inr (.inr (.inr (.inr (fun i => if i < n.toNatClampNeg then some (H.size + 1 + i) else none)))))) hP rfl (hA _ hS.1)
    generalize hW1 : (X ++ va_pl L f) ++ [(H.size, .inl (cA, n.toNatClampNeg, .inr (.inr (.inr (.inr (fun i => if i < n.toNatClampNeg then some (H.size + 1 + i) else none))))))] = W1 at hD1 hP1 ⊢
    have hle : ∀ (k9 : Nat) (x : Nat × va_E), W1[k9]? = some x → x.1 ≤ H.size := fun k9 x hx => by
      rw [← hW1] at hx
      by_cases hl : k9 < (X ++ va_pl L f).length
      · rw [List.getElem?_append_left hl] at hx
        exact Nat.le_of_lt ((hP k9 x hx).lt)
      · rw [List.getElem?_append_right (by omega)] at hx
        have h0 : k9 - (X ++ va_pl L f).length < 1 := (List.getElem?_eq_some_iff.mp hx).1
        rw [show k9 - (X ++ va_pl L f).length = 0 by omega] at hx
        cases hx
        exact Nat.le_refl _
    have hr : ∀ (k9 : Nat) (x : Nat × va_E), (((List.range n.toNatClampNeg).map (fun i => H.size + 1 + i)).map (fun a => ((a, .inl (cy, z)) : Nat × va_E)))[k9]? = some x → x.1 = H.size + 1 + k9 := fun k9 x hx => by
      rw [List.getElem?_map, List.getElem?_map] at hx
      by_cases h9 : k9 < n.toNatClampNeg
      · rw [List.getElem?_range h9] at hx
        cases hx
        rfl
      · have hn0 : (List.range n.toNatClampNeg)[k9]? = none := List.getElem?_eq_none (by rw [List.length_range]; omega)
        rw [hn0] at hx
        cases hx
    refine ⟨fun i j x y hi hj hxy => ?_, fun k9 x hx => ?_⟩
    · by_cases h1 : i < W1.length <;> by_cases h2 : j < W1.length
      · rw [List.getElem?_append_left h1] at hi
        rw [List.getElem?_append_left h2] at hj
        exact hD1.1 i j x y hi hj hxy
      · rw [List.getElem?_append_left h1] at hi
        rw [List.getElem?_append_right (by omega)] at hj
        have := hle _ _ hi
        have := hr _ _ hj
        omega
      · rw [List.getElem?_append_right (by omega)] at hi
        rw [List.getElem?_append_left h2] at hj
        have := hle _ _ hj
        have := hr _ _ hi
        omega
      · rw [List.getElem?_append_right (by omega)] at hi hj
        have := hr _ _ hi
        have := hr _ _ hj
        omega
    · by_cases h1 : k9 < W1.length
      · rw [List.getElem?_append_left h1] at hx
        exact hD1.2 k9 x hx
      · rw [List.getElem?_append_right (by omega)] at hx
        have := hr _ _ hx
        exact hA _ (by have := hS.1; omega)
  have hAr : ArrOfT s cA (.array ty) := fun N9 z9 => by
    obtain ⟨-, k9, hk9, cm9, hkk9⟩ := (hO 0 0 0).1
    exact ⟨(fun q hq => by cases hq), k9, hk9, cm9, hkk9⟩
  have hK2 : va_K D cl (tys ++ [(cA, .array ty)]) s := ⟨hK.1, fun k9 x hx => by
    by_cases hl : k9 < tys.length
    · rw [List.getElem?_append_left hl] at hx
      exact hK.2 k9 x hx
    · rw [List.getElem?_append_right (by omega)] at hx
      have h0 : k9 - tys.length < 1 := (List.getElem?_eq_some_iff.mp hx).1
      rw [show k9 - tys.length = 0 by omega] at hx
      cases hx
      exact ⟨hAr, fA⟩⟩
  obtain ⟨t, a1, b1⟩ := kk H.size (fun i => H.size + 1 + i) cA F.heap (fun i j _ _ h => by have h9 : H.size + 1 + i = H.size + 1 + j := h; omega) hnl hK2 (by rw [← vr_rows hnm]; exact vr_lay hP2) (by rw [← vr_rows hnm]; exact vr_layD hD2) ⟨by rw [f1]; have := hS.1; omega, fun x h1 h2 => (hold x (Nat.lt_of_lt_of_le h1 hS.1)).trans (hS.2.1 x h1 h2), hS.2.2⟩ F rfl X'
  refine ⟨t, step t ?_, b1⟩
  have e : T.heap.size = H.size := by rw [hT]
  rw [e]
  exact a1
end VGM
section KNEW
variable {p : Program} {l : Launch} {e : Env} {R : Room} {s : State} {m : MethodId} {args : Array Value} {below : List Frame} {meth : Method} {c : Code} {H : Heap} {locs : List Loc} {cells slots : Nat} {Q : State → Prop}
variable {cc : ByteArray} {pc : Nat} {ls : Array Slot} {rest : List Value} {D : va_G} {cl : List vw_C} {A : Nat → Prop} {a : Nat} {tys : List (ClassId × FieldType)} {ws X T : va_W} {H0 : Heap} {cI cR cG : ClassId}
theorem k_startN {S : Type} {y : MethodName} {wsm ws' : List Cond} {rm : Room} {mc ms : Nat} {maxL : Nat} {ret : Option FieldType} {as : List Value} {wc : va_W} {WN : S → va_W} (hy : plainName y.cls = true) (hw : wsm = Cond.code y cc maxL ret :: ws') (hlen : (lg_sl as).length ≤ maxL)
    (body : ∀ (p : Program) (e : Env) (s : State) (m : MethodId) (ar : Array Value) (below : List Frame) (meth : Method) (c : Code) (A : Nat → Prop) (ls : Array Slot) (Qf : State → Prop), MQ below (k_QN D cl WN A) ar s mc ms A = Qf → p.tables.exec = Jvm.exec → c.code = cc → meth.sig.returnType = ret → c.maxLocals = maxL → (∀ w ∈ wsm, w.before ar s = true) → s.vm.findClass y.cls = some m.cls → meth.locks = false → meth.name = y.name → va_K D cl tys s → k_G k_ns s → k_O s → (∀ q : Nat, s.heap.size ≤ q → A q) → va_P D cl wc s.heap → va_D A wc → va_S A s.heap s.heap [] → lv_has ls maxL (lv_args 0 as) →
      W p l e rm s m ar below meth c s.heap [] 0 0 Qf (F0 m 0 ls [])) : k_N l y wsm rm mc ms D cl tys as wc WN := by
  intro sz
  refine Met.ofW (cc := cc) (maxL := maxL) (ret := ret) hy hw ?_
  intro p e s m args below meth c s₁ B hml hv
  obtain ⟨rfl, ⟨hsz, hP, hK, hG, hD0⟩, hO⟩ := hv
  subst hsz
  rw [lg_entry_eq]
  exact body p e s m as.toArray below meth c (va_A wc s.heap.size) _ _ rfl B.exec B.bytes B.returns hml (atoms_spec (ws := wsm) B.pre) (findClass_of_methodNamed B.named) B.notSynchronized (name_of_methodNamed B.named B.method).1 hK hG hO (fun q h => Or.inr h) hP hD0.self va_S.rf (lv_entry as hlen)
theorem k_vretN {S : Type} {WN : S → va_W} (u : S) (hx : p.tables.exec = Jvm.exec) (hb : c.code = cc) (hr : meth.sig.returnType = none) (hlocks : meth.locks = false) (hP : va_P D cl (WN u) H) (hD : va_D A (WN u)) (hS : va_S A s.heap H locs) (hdg : decode cc pc = .ok (.return_, 1)) : W p l e R s m args below meth c H locs cells slots (MQ below (k_QN D cl WN A) args s cells slots A) (F0 m pc ls []) :=
  W.vret hx hb hr (fun t ht _ => ⟨⟨u, rfl, trivial, by subst ht; exact ⟨hP, hD⟩⟩, hS.F ht⟩) hS.2.2 hdg hlocks
theorem k_preN {As : List Value} {wc : va_W} (hK : va_K D cl tys s) (hG : k_G k_ns s) (hO : k_O s) (hP : va_P D cl (X ++ wc) H) (hD : va_D A (X ++ wc)) : PreS s H (va_Pc As (k_InN D cl tys wc H.size)) As :=
  ⟨k_blindN, fun U hU hW => ⟨rfl, ⟨by rw [hU], by rw [hU]; exact k_at_mem (fun u hu => k_mem_at hP (List.mem_append_right _ hu)), va_K.moved hW.alike hK, hG.warm hW, (k_D_right hD).weaken (fun _ _ _ _ => trivial)⟩, hO.moved hW.alike⟩⟩
theorem k_beN {S : Type} {WN : S → va_W} {wc : va_W} {mc ms : Nat} {aa : Array Value} {st0 : List Value} (hr : va_Run p l e R s m args below meth c H locs cells slots mc ms (F0 m pc ls st0) rest (k_QN D cl WN (va_A wc H.size) aa) (va_A wc H.size)) (hP : va_P D cl (X ++ wc) H) (hD : va_D A (X ++ wc)) (hS : va_S A H0 H locs) (hA : ∀ q, H0.size ≤ q → A q)
    (kk : ∀ (u : S) (H1 : Heap) (locs1 : List Loc), va_P D cl (X ++ WN u) H1 → va_D A (X ++ WN u) → va_S A H0 H1 locs1 → W p l e R s m args below meth c H1 locs1 (cells + mc) (slots + ms) Q (F0 m (pc + 3) ls rest)) : W p l e R s m args below meth c H locs cells slots Q (F0 m pc ls st0) := by
  have hFc : ∀ q, va_A wc H.size q → A q := by
    rintro q (⟨k, e, h⟩ | h)
    · obtain ⟨j, hj⟩ := List.getElem?_of_mem (List.mem_append_right X (List.mem_of_getElem? h))
      exact hD.2 j _ hj
    · exact hA q (Nat.le_trans hS.1 h)
  refine va_callv hr hS (fun q _ h => hFc q h) hFc (fun u t H1 locs1 ht hvm hw hB hz1 hk1 hS1 => ?_)
  rw [ht] at hB
  obtain ⟨g1, g2⟩ := k_joinN hP hD hk1 hFc hB.1 hB.2
  exact kk u H1 locs1 g1 g2 hS1
theorem k_cells {c1 c2 s1 s2 : Nat} {g : JFrame} (h1 : c1 = c2) (h2 : s1 = s2) (k : W p l e R s m args below meth c H locs c2 s2 Q g) : W p l e R s m args below meth c H locs c1 s1 Q g := by
  subst h1 h2; exact k
theorem k_newa (hx : p.tables.exec = Jvm.exec) (hb : c.code = cc) (harr : (Cond.arrayClass .int).before args s = true) (hK : va_K D cl (k_ty cI cR cG) s) (hP : va_P D cl ws H) (hD : va_D A ws) (hS : va_S A H0 H locs) (hA : ∀ q, H0.size ≤ q → A q) {x : Int} {N' : Nat} (hxn : x = (N' : Int)) (hN : N' ≤ 1000) (hcells : cells + 1 ≤ R.cells) (hslots : slots + N' ≤ R.slots) (hdg : decode cc pc = .ok (.newarray .int, 2))
    (kk : ∀ (q : Nat) (H1 : Heap), va_P D cl (ws ++ [(q, .inl (cI, N', .inl (kA (fun _ => 0))))]) H1 → va_D A (ws ++ [(q, .inl (cI, N', .inl (kA (fun _ => 0))))]) → va_S A H0 H1 locs → W p l e R s m args below meth c H1 locs (cells + 1) (slots + N') Q (F0 m (pc + 2) ls (.ref q :: rest))) : W p l e R s m args below meth c H locs cells slots Q (F0 m pc ls (.int (zI x) :: rest)) := by
  subst hxn
  refine va_newa (atype := .int) (n := zI (N' : Int)) (N' := N') hx hb harr (ty := .int) rfl hK hP hD hS hA (a0 := (N', .inl (kA fun _ => 0))) (fun cA => ?_) ?_ (zI_cl (by omega)) ?_ hcells hslots hdg (fun q cA H1 hK1 hP1 hD1 hS1 => ?_)
  · show arrV cA N' (fun j => .int (kA (fun _ => 0) j)) = arrV cA N' (fun _ => .int 0)
    congr 1
  · rw [← zI_0, zI_lt ⟨by omega, by omega⟩ (by decide)]; omega
  · show N' * 4 ≤ _
    omega
  · have e1 : s.vm.findClass _ = some cI := (hK.2 0 _ rfl).2
    have e2 : s.vm.findClass _ = some cA := (hK1.2 3 _ rfl).2
    have e3 : cA = cI := Option.some.inj (e2.symm.trans e1)
    subst e3
    exact kk q H1 hP1 hD1 hS1
theorem k_newaT (hx : p.tables.exec = Jvm.exec) (hb : c.code = cc) (harr : (Cond.arrayClass .int).before args s = true) (hK : va_K D cl (k_ty cI cR cG) s) (hP : va_P D cl (X ++ T) H) (hD : va_D A (X ++ T)) (hS : va_S A H0 H locs) (hA : ∀ q, H0.size ≤ q → A q) {x : Int} {N' : Nat} (hxn : x = (N' : Int)) (hN : N' ≤ 1000) (hcells : cells + 1 ≤ R.cells) (hslots : slots + N' ≤ R.slots) (hdg : decode cc pc = .ok (.newarray .int, 2))
    (kk : ∀ (q : Nat) (H1 : Heap), va_P D cl ((X ++ [(q, .inl (cI, N', .inl (kA (fun _ => 0))))]) ++ T) H1 → va_D A ((X ++ [(q, .inl (cI, N', .inl (kA (fun _ => 0))))]) ++ T) → va_S A H0 H1 locs → W p l e R s m args below meth c H1 locs (cells + 1) (slots + N') Q (F0 m (pc + 2) ls (.ref q :: rest))) : W p l e R s m args below meth c H locs cells slots Q (F0 m pc ls (.int (zI x) :: rest)) :=
  k_newa hx hb harr hK hP hD hS hA hxn hN hcells hslots hdg (fun q H1 h1 h2 h3 => kk q H1 h1.swap h2.swap h3)
theorem k_newq (hx : p.tables.exec = Jvm.exec) (hb : c.code = cc) {own : String} {index : Nat} (hown : s.vm.findClass own = some m.cls) (hclink : (Cond.classLink own index R_Ro).before args s = true) (hO : k_O s) (hK : va_K D cl (k_ty cI cR cG) s) (hP : va_P D cl ws H) (hD : va_D A ws) (hS : va_S A H0 H locs) (hA : ∀ q, H0.size ≤ q → A q) (hcells : cells + 1 ≤ R.cells) (hslots : slots + 30 ≤ R.slots) (hdg : decode cc pc = .ok (.anewarray index, 3))
    (kk : ∀ (q : Nat) (H1 : Heap), va_P D cl (ws ++ [(q, .inl (cR, 30, .inr (.inr (.inr (.inr (fun _ => none))))))]) H1 → va_D A (ws ++ [(q, .inl (cR, 30, .inr (.inr (.inr (.inr (fun _ => none))))))]) → va_S A H0 H1 locs → W p l e R s m args below meth c H1 locs (cells + 1) (slots + 30) Q (F0 m (pc + 3) ls (.ref q :: rest))) : W p l e R s m args below meth c H locs cells slots Q (F0 m pc ls (.int (zI 30) :: rest)) := by
  refine va_newq (C := R_Ro) hx hb hown hclink hO.1 hK hP hD hS hA (N' := 30) (by decide +kernel) (by decide +kernel) (by decide) hcells hslots hdg (fun q cA H1 hK1 hP1 hD1 hS1 => ?_)
  obtain ⟨_, _, _, _, _, e1⟩ := (hK.2 1 _ rfl).2
  obtain ⟨_, _, _, _, _, e2⟩ := (hK1.2 3 _ rfl).2
  have e3 : cA = cR := Option.some.inj (e2.symm.trans e1)
  subst e3
  exact kk q H1 hP1 hD1 hS1
theorem k_mna (hx : p.tables.exec = Jvm.exec) (hb : c.code = cc) {own : String} {index : Nat} (hown : s.vm.findClass own = some m.cls) (hclink : (Cond.classLink own index "[[I").before args s = true) (hO : k_O s) (harr : (Cond.arrayClass .int).before args s = true) (hK : va_K D cl (k_ty cI cR cG) s) (hP : va_P D cl X H) (hD : va_D A X) (hS : va_S A H0 H locs) (hA : ∀ q, H0.size ≤ q → A q) (hcells : cells + 5 ≤ R.cells) (hslots : slots + 124 ≤ R.slots) (hdg : decode cc pc = .ok (.multianewarray index 2, 4))
    (kk : ∀ (q : Nat) (r : Nat → Nat) (H1 : Heap), va_P D cl ((X ++ [(q, .inl (cG, 4, .inr (.inr (.inr (.inr (fun i => some (r i)))))))]) ++ k_p3 cI r (fun _ _ => 0)) H1 → va_D A ((X ++ [(q, .inl (cG, 4, .inr (.inr (.inr (.inr (fun i => some (r i)))))))]) ++ k_p3 cI r (fun _ _ => 0)) → va_S A H0 H1 locs → W p l e R s m args below meth c H1 locs (cells + 1 + 4) (slots + 4 + 4 * 30) Q (F0 m (pc + 4) ls (.ref q :: rest))) : W p l e R s m args below meth c H locs cells slots Q (F0 m pc ls (.int (zI 30) :: .int (zI 4) :: rest)) := by
  refine va_mna (X := X) (L := []) (f := fun _ => .inl (cI, 0, .inl (kA fun _ => 0))) (ty := .int) (cy := cI) (N' := 4) (K' := 30) (z := (30, .inl (kA fun _ => 0))) hx hb hown hclink hO.2 harr (hK.2 0 _ rfl).2 hK (by rw [show va_pl [] _ = [] from rfl, List.append_nil]; exact hP) (by rw [show va_pl [] _ = [] from rfl, List.append_nil]; exact hD) hS hA (by decide +kernel) (by decide +kernel) (by decide +kernel) (by decide +kernel) (by decide) (by decide) (by decide) rfl rfl hcells hslots (fun cA => ?_) hdg (fun q r cA H1 hr hnl hK1 hP1 hD1 hS1 => ?_)
  · show ({ cls := cA, slots := Array.replicate 30 (.int 0), vm := .none } : Cell) = _
    rw [arrV_new]
    show arrV cA 30 (fun _ => .int 0) = arrV cA 30 (fun j => .int (kA (fun _ => 0) j))
    congr 1
  · have e1 : s.vm.findClass _ = some cG := (hK.2 2 _ rfl).2
    have e2 : s.vm.findClass _ = some cA := (hK1.2 3 _ rfl).2
    have e3 : cA = cG := Option.some.inj (e2.symm.trans e1)
    subst e3
    have hpl : va_pl ([] ++ (List.range 4).map r) (vr_up (fun _ => .inl (cI, 0, .inl (kA fun _ => 0))) ((List.range 4).map r) (.inl (cI, 30, .inl (kA fun _ => 0)))) = k_p3 cI r (fun _ _ => 0) := by
      rw [List.nil_append]
      unfold va_pl k_p3
      rw [List.map_map]
      apply List.map_congr_left
      intro i hi
      show (r i, _) = _
      rw [vr_up_in (List.mem_map.mpr ⟨i, hi, rfl⟩)]
    rw [hpl] at hP1 hD1
    refine kk q r H1 (k_at_mem (fun u hu => ?_)) (k_D_fst hD1 (by simp)) hS1
    rcases List.mem_append.mp hu with h | h
    · rcases List.mem_append.mp h with h | h
      · exact k_mem_at hP1 (List.mem_append_left _ (List.mem_append_left _ h))
      · have hu := List.mem_singleton.mp h
        subst hu
        have h9 := k_mem_at hP1 (List.mem_append_left _ (List.mem_append_right _ (List.mem_singleton.mpr rfl)))
        show H1[q]? = some (vp_cell _ _)
        rw [← k_extR (f := fun i => if i < 4 then some (r i) else none) (fun j hj => if_pos hj)]
        exact h9
    · exact k_mem_at hP1 (List.mem_append_right _ h)
end KNEW
/-! the rows while they are made -/
def k_r1 (ro en : Nat → Nat) (n : Nat) : va_W := (List.range n).map (fun j => (ro j, .inr (2, [.ref (en j)])))
def k_r2 (cI : ClassId) (en : Nat → Nat) (n : Nat) : va_W := (List.range n).map (fun j => (en j, .inl (cI, 30, .inl (kA e30))))
theorem k_r1_up {ro en : Nat → Nat} {i q u : Nat} : k_r1 (va_up ro i q) (va_up en i u) (i + 1) = k_r1 ro en i ++ [(q, .inr (2, [.ref u]))] := by
  unfold k_r1
  rw [List.range_succ, List.map_append]
  congr 1
  · apply List.map_congr_left
    intro j hj
    have := List.mem_range.mp hj
    rw [va_up_ne _ _ (by omega), va_up_ne _ _ (by omega)]
  · simp [va_up_self]
theorem k_r2_up {cI : ClassId} {en : Nat → Nat} {i u : Nat} : k_r2 cI (va_up en i u) (i + 1) = k_r2 cI en i ++ [(u, .inl (cI, 30, .inl (kA e30)))] := by
  unfold k_r2
  rw [List.range_succ, List.map_append]
  congr 1
  · apply List.map_congr_left
    intro j hj
    have := List.mem_range.mp hj
    rw [va_up_ne _ _ (by omega)]
  · simp [va_up_self]
theorem k_rows_perm {cI : ClassId} {ro en : Nat → Nat} {i q u : Nat} (X : va_W) : (((X ++ (k_r1 ro en i ++ k_r2 cI en i)) ++ [(q, .inr (2, [.ref u])), (u, .inl (cI, 30, .inl (kA e30)))] : va_W)).Perm (X ++ (k_r1 (va_up ro i q) (va_up en i u) (i + 1) ++ k_r2 cI (va_up en i u) (i + 1))) := by
  rw [k_r1_up, k_r2_up, List.append_assoc, List.append_assoc, List.append_assoc]
  refine List.Perm.append_left X (List.Perm.append_left _ ?_)
  exact List.perm_middle
theorem k_P_perm {D : va_G} {cl : List vw_C} {ws ws' : va_W} {H : Heap} (hP : va_P D cl ws H) (h : ws.Perm ws') : va_P D cl ws' H := k_at_mem (fun _ hu => k_mem_at hP (h.mem_iff.mpr hu))
theorem k_D_nd {A : Nat → Prop} {ws : va_W} (hD : va_D A ws) : (ws.map (·.1)).Nodup := by
  unfold List.Nodup
  rw [List.pairwise_iff_getElem]
  intro i j hi hj hij e
  rw [List.getElem_map, List.getElem_map] at e
  rw [List.length_map] at hi hj
  have := hD.1 i j ws[i] ws[j] (List.getElem?_eq_getElem hi) (List.getElem?_eq_getElem hj) e
  omega
theorem k_D_perm {A : Nat → Prop} {ws ws' : va_W} (hD : va_D A ws) (h : ws.Perm ws') : va_D A ws' := by
  refine ⟨(k_nd_D ((h.map (·.1)).nodup_iff.mp (k_D_nd hD))).1, fun k q hq => ?_⟩
  obtain ⟨j, hj⟩ := List.getElem?_of_mem (h.mem_iff.mpr (List.mem_of_getElem? hq))
  exact hD.2 j q hj
theorem k_ro_up {ro : Nat → Nat} {i q : Nat} : va_up (fun j => if j < i then some (ro j) else none) i (some q) = fun j => if j < i + 1 then some (va_up ro i q j) else none := by
  funext j
  unfold va_up
  by_cases h : j = i
  · simp [h]
  · simp only [h, if_false]
    by_cases h2 : j < i
    · rw [if_pos h2, if_pos (by omega)]
    · rw [if_neg h2, if_neg (by omega)]
theorem k_setR {D : va_G} {cl : List vw_C} {ws : va_W} {H : Heap} {q a n : Nat} {cA : ClassId} {f g : Nat → Option Nat} (hP : va_P D cl (ws.set q (a, .inl (cA, n, .inr (.inr (.inr (.inr f)))))) H) (h : ∀ j, j < n → f j = g j) : va_P D cl (ws.set q (a, .inl (cA, n, .inr (.inr (.inr (.inr g)))))) H := by
  intro k u hk
  by_cases e : q = k
  · subst e
    rw [List.getElem?_set_self'] at hk
    cases hw : ws[q]? with
    | none => rw [hw] at hk; simp at hk
    | some y =>
      rw [hw] at hk
      have hu : (a, .inl (cA, n, .inr (.inr (.inr (.inr g))))) = u := by simpa using hk
      subst hu
      have h0 := hP q (a, .inl (cA, n, .inr (.inr (.inr (.inr f))))) (by rw [List.getElem?_set_self', hw]; rfl)
      show H[a]? = some (vp_cell cA (n, .inr (.inr (.inr (.inr g)))))
      rw [← k_extR h]
      exact h0
  · rw [List.getElem?_set_ne e] at hk
    exact hP k u (by rw [List.getElem?_set_ne e]; exact hk)
theorem k_perm4 (X T P K : va_W) : ((X ++ T) ++ (P ++ K)).Perm ((X ++ P) ++ (T ++ K)) := by
  rw [List.append_assoc, List.append_assoc]
  refine List.Perm.append_left X ?_
  rw [← List.append_assoc, ← List.append_assoc]
  exact (List.perm_append_comm).append_right K
