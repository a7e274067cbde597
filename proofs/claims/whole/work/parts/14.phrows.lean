theorem k_setext {D : va_G} {cl : List vw_C} {ws : va_W} {H : Heap} {q a n : Nat} {cA : ClassId} {f g : Nat → Int32} (hP : va_P D cl (ws.set q (a, .inl (cA, n, .inl f))) H) (h : ∀ j, j < n → f j = g j) : va_P D cl (ws.set q (a, .inl (cA, n, .inl g))) H := by
  intro k u hk
  by_cases e : q = k
  · subst e
    rw [List.getElem?_set_self'] at hk
    cases hw : ws[q]? with
    | none => rw [hw] at hk; simp at hk
    | some y =>
      rw [hw] at hk
      have hu : (a, .inl (cA, n, .inl g)) = u := by simpa using hk
      subst hu
      have h0 := hP q (a, .inl (cA, n, .inl f)) (by rw [List.getElem?_set_self', hw]; rfl)
      show H[a]? = some (vp_cell cA (n, .inl g))
      rw [← k_ext h]
      exact h0
  · rw [List.getElem?_set_ne e] at hk
    exact hP k u (by rw [List.getElem?_set_ne e]; exact hk)
theorem k_set_fst {ws : va_W} {q a : Nat} {e1 e2 : va_E} : (ws.set q (a, e2)).map (·.1) = (ws.set q (a, e1)).map (·.1) := by
  rw [List.map_set, List.map_set]
theorem k_n4 : (zI 4).toNatClampNeg = 4 := by decide +kernel
theorem k_n0 : (zI 0).toNatClampNeg = 0 := by decide +kernel
section KCP
variable {p : Program} {l : Launch} {e : Env} {R : Room} {s : State} {m : MethodId} {args : Array Value} {below : List Frame} {meth : Method} {c : Code} {H : Heap} {locs : List Loc} {cells slots : Nat} {Q : State → Prop}
variable {cc : ByteArray} {pc : Nat} {ls : Array Slot} {rest : List Value} {D : va_G} {cl : List vw_C} {A : Nat → Prop} {a : Nat} {tys : List (ClassId × FieldType)} {ws : va_W} {H0 : Heap}
/-- four places are copied -/
theorem k_copy4 (hx : p.tables.exec = Jvm.exec) (hb : c.code = cc) (hml : c.maxLocals = ls.size) {own : String} {index : Nat} (hown : s.vm.findClass own = some m.cls) (hlink : (Cond.methodLink own index arraycopyName).before args s = true) (hnat : (Cond.native arraycopyName).before args s = true) (hstat : (Cond.static arraycopyName).before args s = true) (hini : (Cond.initialized "java/lang/System").before args s = true)
    (hK : va_K D cl tys s) (hP : va_P D cl ws H) (hD : va_D A ws) (hS : va_S A H0 H locs) (q0 q1 t0 : Nat) {a0 : Nat} {cA : ClassId} {F G : Nat → Nat} (ha0 : ws[q0]? = some (a0, .inl (cA, 4, .inl (kA F)))) (ha1 : ws[q1]? = some (a, .inl (cA, 4, .inl (kA G)))) (ht0 : tys[t0]? = some (cA, .int))
    (hframes : 1 ≤ R.frames) (hlocals : (rest.map fun v => v.category).sum + (nativeFrameWords "java/lang/System" "arraycopy" 5 + 11) ≤ R.locals) (hdg : decode cc pc = .ok (.invokestatic index, 3))
    (kk : ∀ (H1 : Heap) (locs1 : List Loc), va_P D cl (ws.set q1 (a, .inl (cA, 4, .inl (kA F)))) H1 → va_D A (ws.set q1 (a, .inl (cA, 4, .inl (kA F)))) → va_S A H0 H1 locs1 → W p l e R s m args below meth c H1 locs1 cells slots Q (F0 m (pc + 3) ls rest)) : W p l e R s m args below meth c H locs cells slots Q (F0 m pc ls (.int (zI 4) :: .int (zI 0) :: .ref a :: .int (zI 0) :: .ref a0 :: rest)) := by
  refine va_copyi hx hb hml hown hlink hnat hstat hini hK hP hD hS q0 q1 t0 t0 ha0 ha1 ht0 ht0 rfl (by decide +kernel) (by decide +kernel) (by decide +kernel) (by rw [k_n0, k_n4]; decide) (by rw [k_n0, k_n4]; decide) (fun i _ => rfl) hframes hlocals hdg (fun H1 locs1 h1 h2 h3 => ?_)
  refine kk H1 locs1 (k_setext h1 (fun j hj => ?_)) (k_D_fst h2 k_set_fst) h3
  rw [k_n0, k_n4, pk_cpy_in (Nat.zero_le j) (by omega)]
  congr 1; omega
end KCP
theorem k_up_id {α : Type} (f : Nat → α) (k : Nat) : va_up f k (f k) = f := by
  funext j; unfold va_up; split <;> rename_i h
  · rw [h]
  · rfl
section KSTEP
variable {of se : Nat → Nat} {Pl : Nat → Nat → Nat} {rec_ : Nat → Int → Int → SM → SM} {rec2 : Int → Int → SS → SS} {s mv : Nat} {lo hi : Int} {i : Nat} {tr fc cn : Nat → Nat} {lm : Nat} {sf st : Int}
theorem sStep_0 (h : ¬ sMn mv (sV of Pl s i) (sNr lo hi (sV of Pl s i)) ≤ max 9 lm) : sStep of se Pl rec_ s mv lo hi i (tr, fc, cn, lm) = (tr, fc, cn, lm) := if_neg h
theorem sStep_1 (h : sMn mv (sV of Pl s i) (sNr lo hi (sV of Pl s i)) ≤ max 9 lm) (h2 : ¬ fFree tr se s (Pl s i) s 0 = true) : sStep of se Pl rec_ s mv lo hi i (tr, fc, cn, lm) = (tr, fc, cn, lm) := (if_pos h).trans (if_neg h2)
theorem sStep_2 (h : sMn mv (sV of Pl s i) (sNr lo hi (sV of Pl s i)) ≤ max 9 lm) (h2 : fFree tr se s (Pl s i) s 0 = true) (h3 : s = 1) : sStep of se Pl rec_ s mv lo hi i (tr, fc, cn, lm) = rec_ (sMn mv (sV of Pl s i) (sNr lo hi (sV of Pl s i))) (min lo (sV of Pl s i)) (max hi (sV of Pl s i)) (va_up tr s (Pl s i), fc, cn, lm) := (if_pos h).trans ((if_pos h2).trans (if_pos h3))
theorem sStep_3 (h : sMn mv (sV of Pl s i) (sNr lo hi (sV of Pl s i)) ≤ max 9 lm) (h2 : fFree tr se s (Pl s i) s 0 = true) (h3 : ¬ s = 1) : sStep of se Pl rec_ s mv lo hi i (tr, fc, cn, lm) = rec_ (sMn mv (sV of Pl s i) (sNr lo hi (sV of Pl s i))) (sNr lo hi (sV of Pl s i)) (sNr lo hi (sV of Pl s i)) (va_up tr s (Pl s i), fc, cn, lm) := (if_pos h).trans ((if_pos h2).trans (if_neg h3))
theorem tStep_0 (h : ¬ sSh (min lo (Pl s i)) (max hi (Pl s i)) sf st = true) : tStep se Pl rec2 s lo hi i (tr, sf, st) = (tr, sf, st) := if_neg h
theorem tStep_1 (h : sSh (min lo (Pl s i)) (max hi (Pl s i)) sf st = true) (h2 : ¬ fFree tr se s (Pl s i) s 0 = true) : tStep se Pl rec2 s lo hi i (tr, sf, st) = (tr, sf, st) := (if_pos h).trans (if_neg h2)
theorem tStep_2 (h : sSh (min lo (Pl s i)) (max hi (Pl s i)) sf st = true) (h2 : fFree tr se s (Pl s i) s 0 = true) : tStep se Pl rec2 s lo hi i (tr, sf, st) = rec2 (min lo (Pl s i)) (max hi (Pl s i)) (va_up tr s (Pl s i), sf, st) := (if_pos h).trans (if_pos h2)
end KSTEP
