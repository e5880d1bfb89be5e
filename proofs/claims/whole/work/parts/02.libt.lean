/-! constructors: array types are one each, nest mates' links, rows that allocate -/
theorem x_cls0 {D : va_G} {cl : List vw_C} {s : State} {G : Nat → ClassId} {cA : ClassId} (h : va_K D cl (tyL G ++ [(cA, .int)]) s) : cA = G 0 := by
  have h1 : s.vm.findClass ("[" ++ FieldType.int.toString) = some (G 0) := (h.2 0 (G 0, .int) rfl).2
  have h2 : s.vm.findClass ("[" ++ FieldType.int.toString) = some cA := (h.2 6 (cA, .int) rfl).2
  exact Option.some.inj (h2.symm.trans h1)
theorem x_cls1 {D : va_G} {cl : List vw_C} {s : State} {G : Nat → ClassId} {cA : ClassId} (h : va_K D cl (tyL G ++ [(cA, .long)]) s) : cA = G 1 := by
  have h1 : s.vm.findClass ("[" ++ FieldType.long.toString) = some (G 1) := (h.2 1 (G 1, .long) rfl).2
  have h2 : s.vm.findClass ("[" ++ FieldType.long.toString) = some cA := (h.2 6 (cA, .long) rfl).2
  exact Option.some.inj (h2.symm.trans h1)
theorem x_cls2 {D : va_G} {cl : List vw_C} {s : State} {G : Nat → ClassId} {cA : ClassId} (h : va_K D cl (tyL G ++ [(cA, .boolean)]) s) : cA = G 2 := by
  have h1 : s.vm.findClass ("[" ++ FieldType.boolean.toString) = some (G 2) := (h.2 2 (G 2, .boolean) rfl).2
  have h2 : s.vm.findClass ("[" ++ FieldType.boolean.toString) = some cA := (h.2 6 (cA, .boolean) rfl).2
  exact Option.some.inj (h2.symm.trans h1)
theorem x_cls3 {D : va_G} {cl : List vw_C} {s : State} {G : Nat → ClassId} {cA : ClassId} (h : va_K D cl (tyL G ++ [(cA, .char)]) s) : cA = G 3 := by
  have h1 : s.vm.findClass ("[" ++ FieldType.char.toString) = some (G 3) := (h.2 3 (G 3, .char) rfl).2
  have h2 : s.vm.findClass ("[" ++ FieldType.char.toString) = some cA := (h.2 6 (cA, .char) rfl).2
  exact Option.some.inj (h2.symm.trans h1)
theorem x_clsq {s : State} {C : String} {c1 c2 : ClassId} (h1 : va_RA s c1 (.object C)) (h2 : va_RA s c2 (.object C)) : c1 = c2 := by
  obtain ⟨_, _, _, _, _, e1⟩ := h1
  obtain ⟨_, _, _, _, _, e2⟩ := h2
  exact Option.some.inj (e1.symm.trans e2)
theorem x_cls4 {D : va_G} {cl : List vw_C} {s : State} {G : Nat → ClassId} {cA : ClassId} (h : va_K D cl (tyL G ++ [(cA, .object RX1)]) s) : cA = G 4 := x_clsq (h.2 6 (cA, .object RX1) rfl).2 (h.2 4 (G 4, .object RX1) rfl).2
theorem x_cls5 {D : va_G} {cl : List vw_C} {s : State} {G : Nat → ClassId} {cA : ClassId} (h : va_K D cl (tyL G ++ [(cA, .object RX4)]) s) : cA = G 5 := x_clsq (h.2 6 (cA, .object RX4) rfl).2 (h.2 5 (G 5, .object RX4) rfl).2
abbrev xN (U : State) : Prop := va_Nw (.methodLinkNest RX0 30 yX1_init "NewsCow") U ∧ va_AO RX1 U ∧ va_AO RX4 U ∧ va_Nw (.methodLinkNest RX7 25 yX5_init "NewsCow") U ∧ va_Nw (.methodLinkNest RX7 32 yX2_init "NewsCow") U ∧ va_Nw (.methodLinkNest RX7 39 yX6_init "NewsCow") U ∧ va_Nw (.methodLinkNest RX7 46 yX3_init "NewsCow") U ∧ va_Nw (.methodLinkNest RX7 57 yX4_init "NewsCow") U
theorem xN_same {u U : State} (h : u.vm = U.vm) (hA : u.vm.Alike U.vm) (q : xN u) : xN U := ⟨va_Nw.same rfl h q.1, va_AO.moved hA q.2.1, va_AO.moved hA q.2.2.1, va_Nw.same rfl h q.2.2.2.1, va_Nw.same rfl h q.2.2.2.2.1, va_Nw.same rfl h q.2.2.2.2.2.1, va_Nw.same rfl h q.2.2.2.2.2.2.1, va_Nw.same rfl h q.2.2.2.2.2.2.2⟩
theorem xN_warm {s U : State} (hW : s.WarmedH U.vm) (q : xN s) : xN U := ⟨va_Nw.warmM hW q.1, va_AO.moved hW.alike q.2.1, va_AO.moved hW.alike q.2.2.1, va_Nw.warmM hW q.2.2.2.1, va_Nw.warmM hW q.2.2.2.2.1, va_Nw.warmM hW q.2.2.2.2.2.1, va_Nw.warmM hW q.2.2.2.2.2.2.1, va_Nw.warmM hW q.2.2.2.2.2.2.2⟩
abbrev xI (D : va_G) (G : Nat → ClassId) (sz : Nat) (ws : va_W) : State → Prop := fun U => U.heap.size = sz ∧ va_P D vwCl ws U.heap ∧ va_K D vwCl (tyL G) U ∧ va_D (fun _ => True) ws ∧ xN U
theorem xI_blind {av : List Value} {D : va_G} {G : Nat → ClassId} {sz : Nat} {ws : va_W} : FrameBlind (va_Pc av (xI D G sz ws)) := fun a U g mk q => by
  obtain ⟨q0, q1, qP, qK, qD, qN⟩ := q
  exact ⟨q0, q1, qP, va_K.moved (u := U) (U := U.calling g mk a) (Vm.Alike.refl U.vm) qK, qD, xN_same (u := U) (U := U.calling g mk a) rfl (Vm.Alike.refl U.vm) qN⟩
theorem xI_p {s : State} {H : Heap} {D : va_G} {G : Nat → ClassId} {A : Nat → Prop} {ws : va_W} {As : List Value} (hP : va_P D vwCl ws H) (hK : va_K D vwCl (tyL G) s) (hD : va_D A ws) (hN : xN s) : PreS s H (va_Pc As (xI D G H.size ws)) As := ⟨xI_blind, fun U hU hW => ⟨rfl, by rw [hU], by rw [hU]; exact hP, va_K.moved hW.alike hK, hD.weaken (fun _ _ _ _ => trivial), xN_warm hW hN⟩⟩
theorem x_arrq {D : va_G} {cl : List vw_C} {ws : va_W} {H : Heap} {a n : Nat} {cA : ClassId} {f g : Nat → Option Nat} (hP : va_P D cl ws H) (i : Nat) (he : ws[i]? = some (a, .inl (cA, n, .inr (.inr (.inr (.inr f)))))) (hfg : ∀ k, k < n → f k = g k) : va_P D cl (ws.set i (a, .inl (cA, n, .inr (.inr (.inr (.inr g)))))) H := by
  intro k q hq
  by_cases hk : k = i
  · subst hk
    have hl : k < ws.length := (List.getElem?_eq_some_iff.mp he).1
    rw [List.getElem?_set_self hl] at hq
    cases hq
    have h0 : H[a]? = some (vp_cell cA (n, .inr (.inr (.inr (.inr f))))) := hP k _ he
    show H[a]? = some (vp_cell cA (n, .inr (.inr (.inr (.inr g)))))
    rw [h0, vp_cell_q, vp_cell_q]
    have e : (Array.ofFn (n := n) fun j => va_rf (f j.val)) = Array.ofFn (n := n) fun j => va_rf (g j.val) := by
      congr 1
      funext j
      rw [hfg j.val j.isLt]
    unfold arrV
    rw [e]
  · rw [List.getElem?_set_ne (fun h => hk h.symm)] at hq
    exact hP k q hq
theorem x_arrD {A : Nat → Prop} {ws : va_W} {a : Nat} {e0 e : va_E} (hD : va_D A ws) (i : Nat) (he : ws[i]? = some (a, e0)) : va_D A (ws.set i (a, e)) := va_D.set hD he
section XC
variable {p : Program} {l : Launch} {e : Env} {R : Room} {s : State} {m : MethodId} {args : Array Value} {below : List Frame} {meth : Method} {c : Code} {H H0 : Heap} {locs : List Loc} {cells slots mc ms : Nat} {Q : State → Prop} {D : va_G} {G : Nat → ClassId} {ws wc wr : va_W} {A0 : Nat → Prop} {pc : Nat} {ls : Array Slot} {rest st0 : List Value} {a : Array Value} {S : Type} {wf : S → va_W}
theorem x_cI {post : S → Prop} (hr : va_Run p l e R s m args below meth c H locs cells slots mc ms (F0 m pc ls st0) rest (va_Qv post (fun u t => xE D G (va_A wc H.size) (wf u) t) (va_A wc H.size) a) (va_A wc H.size)) (hP : va_P D vwCl ws H) (hD : va_D A0 ws) (hS : va_S A0 H0 H locs) (hA : ∀ q, H0.size ≤ q → A0 q) (isC isR : List Nat) (hC : isC.map (fun i => ws[i]?) = wc.map some) (hR : isR.map (fun i => ws[i]?) = wr.map some) (hn : va_nd isR = true) (hdis : ∀ i ∈ isR, i ∉ isC) (pm : List Nat) (w2 : S → va_W) (hpn : va_nd pm = true) (hp : ∀ u, pm.map (fun i => (wr ++ wf u)[i]?) = (w2 u).map some)
    (kk : ∀ (u : S) (H1 : Heap) (locs1 : List Loc), va_P D vwCl (w2 u) H1 → va_D A0 (w2 u) → va_S A0 H0 H1 locs1 → W p l e R s m args below meth c H1 locs1 (cells + mc) (slots + ms) Q (F0 m (pc + 3) ls rest)) : W p l e R s m args below meth c H locs cells slots Q (F0 m pc ls st0) := by
  have hF := va_free hD hS hA isC hC
  refine va_callv hr hS (fun q _ h => hF q h) hF (fun u t H1 locs1 ht hvm hw hB hz hk hS1 => ?_)
  obtain ⟨hP1, hK1, hD1⟩ := hB
  rw [ht] at hP1
  obtain ⟨hP2, hD2⟩ := va_join hP hD isC isR hC hR hn hdis hk hF hP1 hD1
  exact kk u H1 locs1 (hP2.sub pm (x_pick _ _ _ (hp u))) (hD2.sub pm hpn (hp u)) hS1
end XC
section XD
variable {p : Program} {l : Launch} {e : Env} {R : Room} {s : State} {m : MethodId} {args : Array Value} {below : List Frame} {meth : Method} {c : Code} {H H0 : Heap} {locs : List Loc} {cells slots : Nat} {Q : State → Prop} {cc : ByteArray} {D : va_G} {cl : List vw_C} {tys : List (ClassId × FieldType)} {ws : va_W} {A : Nat → Prop} {a : Nat} {pc : Nat} {ls : Array Slot} {rest : List Value}
theorem x_astq (hexec : p.tables.exec = Jvm.exec) (hb : c.code = cc) (hK : va_K D cl tys s) (hP : va_P D cl ws H) (hD : va_D A ws) (hS : va_S A H0 H locs) (q0 t0 qk ci : Nat) {cA : ClassId} {r : vw_C} {n v : Nat} {vs : List Value} {f : Nat → Option Nat} (ha : ws[q0]? = some (a, .inl (cA, n, .inr (.inr (.inr (.inr f)))))) (ht : tys[t0]? = some (cA, .object r.1)) (hv : ws[qk]? = some (v, .inr (ci, vs))) (hc : cl[ci]? = some r) {i : Int32} {j : Nat} (hj : i.toNatClampNeg = j) (hin : vp_in i n) (hdg : decode cc pc = .ok (.aastore, 1))
    (kk : ∀ (H1 : Heap) (locs1 : List Loc), va_P D cl (ws.set q0 (a, .inl (cA, n, .inr (.inr (.inr (.inr (va_up f j (some v)))))))) H1 → va_D A (ws.set q0 (a, .inl (cA, n, .inr (.inr (.inr (.inr (va_up f j (some v)))))))) → va_S A H0 H1 locs1 → W p l e R s m args below meth c H1 locs1 cells slots Q (F0 m (pc + 1) ls rest)) : W p l e R s m args below meth c H locs cells slots Q (F0 m pc ls (.ref v :: .int i :: .ref a :: rest)) := by
  subst hj; exact va_astq hexec hb hK hP hD hS q0 t0 qk ci ha ht hv hc hin hdg kk
end XD
