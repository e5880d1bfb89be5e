def SJ (x : Int32) (j : Nat) : Prop := j < 4 ∧ (x.toNatClampNeg = j ∨ (4 ≤ x.toNatClampNeg ∧ j = 0))
abbrev x_pk (is : List Nat) (ws : va_W) : va_W := is.filterMap (fun i => ws[i]?)
theorem x_sj4 (x : Int32) : SJ x 0 ∨ SJ x 1 ∨ SJ x 2 ∨ SJ x 3 := by
  unfold SJ
  omega
theorem x_sq {sq : Nat → Nat} (hsq : ∀ k, 4 ≤ k → sq k = sq 0) {x : Int32} {j : Nat} (h : SJ x j) : sq x.toNatClampNeg = sq j := by
  rcases h.2 with e | ⟨e, rfl⟩
  · rw [e]
  · exact hsq _ e
theorem x_sjv {x : Int32} (h : vp_in x 4) : (SJ x 0 ∧ x = 0) ∨ (SJ x 1 ∧ x = 1) ∨ (SJ x 2 ∧ x = 2) ∨ (SJ x 3 ∧ x = 3) := by
  obtain ⟨j, hj, rfl⟩ := vp_in_of h (by decide)
  have hc : (nI j).toNatClampNeg = j := nI_clamp (by omega)
  unfold SJ
  rcases (show j = 0 ∨ j = 1 ∨ j = 2 ∨ j = 3 by omega) with rfl | rfl | rfl | rfl
  · exact Or.inl ⟨⟨by decide, Or.inl hc⟩, rfl⟩
  · exact Or.inr (Or.inl ⟨⟨by decide, Or.inl hc⟩, rfl⟩)
  · exact Or.inr (Or.inr (Or.inl ⟨⟨by decide, Or.inl hc⟩, rfl⟩))
  · exact Or.inr (Or.inr (Or.inr ⟨⟨by decide, Or.inl hc⟩, rfl⟩))
theorem x_cmp0 (r : Int64) : lg_cmp r r = 0 := by
  unfold lg_cmp
  rw [if_neg (by rw [gt_iff_lt, Int64.lt_iff_toInt_lt]; exact Int.lt_irrefl _), if_pos rfl]
/-- cells of a world put in place of others -/
def x_pat : List Nat → va_W → va_W → va_W
  | [], _, ws => ws
  | _ :: _, [], ws => ws
  | i :: is, c :: cs, ws => x_pat is cs (ws.set i c)
theorem x_pat_get : ∀ (is : List Nat) (cs ws : va_W) (k : Nat) (q : Nat × va_E), (x_pat is cs ws)[k]? = some q → (∃ p : Nat, is[p]? = some k ∧ cs[p]? = some q) ∨ ((k ∉ is ∨ is.length ≠ cs.length) ∧ ws[k]? = some q)
  | [], cs, ws, k, q, h => Or.inr ⟨Or.inl List.not_mem_nil, h⟩
  | i :: is, [], ws, k, q, h => Or.inr ⟨Or.inr (by simp), h⟩
  | i :: is, c :: cs, ws, k, q, h => by
    rcases x_pat_get is cs (ws.set i c) k q h with ⟨p, h1, h2⟩ | ⟨h1, h2⟩
    · exact Or.inl ⟨p + 1, by simpa using h1, by simpa using h2⟩
    · by_cases hk : i = k
      · subst hk
        have hl : i < (ws.set i c).length := (List.getElem?_eq_some_iff.mp h2).1
        rw [List.length_set] at hl
        rw [List.getElem?_set_self hl] at h2
        exact Or.inl ⟨0, rfl, h2⟩
      · rw [List.getElem?_set_ne hk] at h2
        rcases h1 with h1 | h1
        · exact Or.inr ⟨Or.inl (by simp [h1]; exact fun e => hk e.symm), h2⟩
        · exact Or.inr ⟨Or.inr (by simp; exact h1), h2⟩
theorem x_pat_fst : ∀ (is : List Nat) (cs ws : va_W), (∀ (p i : Nat) (c : Nat × va_E), is[p]? = some i → cs[p]? = some c → (ws.map Prod.fst)[i]? = some c.1 ∨ ws.length ≤ i) → (x_pat is cs ws).map Prod.fst = ws.map Prod.fst
  | [], cs, ws, _ => rfl
  | i :: is, [], ws, _ => rfl
  | i :: is, c :: cs, ws, h => by
    have e : (ws.set i c).map Prod.fst = ws.map Prod.fst := by
      rw [List.map_set]
      rcases h 0 i c rfl rfl with q | q
      · apply List.ext_getElem?
        intro k
        by_cases hk : i = k
        · subst hk
          have hl : i < (ws.map Prod.fst).length := (List.getElem?_eq_some_iff.mp q).1
          rw [List.getElem?_set_self hl, q]
        · rw [List.getElem?_set_ne hk]
      · exact List.set_eq_of_length_le (by rw [List.length_map]; exact q)
    show (x_pat is cs (ws.set i c)).map Prod.fst = _
    rw [x_pat_fst is cs (ws.set i c) (fun p j d h1 h2 => by
      rw [e, List.length_set]
      exact h (p + 1) j d (by simpa using h1) (by simpa using h2)), e]
theorem x_D_fst {A : Nat → Prop} {ws ws' : va_W} (h : va_D A ws) (e : ws'.map Prod.fst = ws.map Prod.fst) : va_D A ws' := by
  have key : ∀ (k : Nat) (q : Nat × va_E), ws'[k]? = some q → ∃ x, ws[k]? = some (q.1, x) := by
    intro k q hq
    have h1 : (ws'.map Prod.fst)[k]? = some q.1 := by rw [List.getElem?_map, hq]; rfl
    rw [e, List.getElem?_map] at h1
    cases h2 : ws[k]? with
    | none => rw [h2] at h1; cases h1
    | some z =>
      rw [h2] at h1
      have : z.1 = q.1 := Option.some.inj h1
      exact ⟨z.2, by rw [← this]⟩
  refine ⟨fun i j p q hp hq hpq => ?_, fun k q hq => ?_⟩
  · obtain ⟨x, hx⟩ := key i p hp
    obtain ⟨y, hy⟩ := key j q hq
    exact h.1 i j _ _ hx hy hpq
  · obtain ⟨x, hx⟩ := key k q hq
    exact h.2 k (q.1, x) hx
theorem x_patP {A0 : Nat → Prop} {D : va_G} {cl : List vw_C} {ws wc w1 : va_W} {H H1 : Heap} (hP : va_P D cl ws H) (hD : va_D A0 ws) (isC : List Nat) (hC : isC.map (fun i => ws[i]?) = wc.map some) (hl : wc.map Prod.fst = w1.map Prod.fst) (hk : ∀ q : Nat, q < H.size → ¬ va_A wc H.size q → H1[q]? = H[q]?) (hP1 : va_P D cl w1 H1) : va_P D cl (x_pat isC w1 ws) H1 ∧ va_D A0 (x_pat isC w1 ws) := by
  have hlen : isC.length = w1.length := by
    have h1 := congrArg List.length hC
    have h2 := congrArg List.length hl
    rw [List.length_map, List.length_map] at h1 h2
    omega
  have hat : ∀ (p i : Nat), isC[p]? = some i → ws[i]? = wc[p]? := by
    intro p i hp
    have h1 : (isC.map (fun i => ws[i]?))[p]? = some (ws[i]?) := by rw [List.getElem?_map, hp]; rfl
    rw [hC, List.getElem?_map] at h1
    cases h2 : wc[p]? with
    | none => rw [h2] at h1; cases h1
    | some z => rw [h2] at h1; exact (Option.some.inj h1).symm
  constructor
  · intro k q hq
    rcases x_pat_get isC w1 ws k q hq with ⟨p, -, h2⟩ | ⟨h1, h2⟩
    · exact hP1 p q h2
    · have hni : k ∉ isC := by
        rcases h1 with h1 | h1
        · exact h1
        · exact absurd hlen h1
      have hv := hP k q h2
      refine hv.kept (hk q.1 hv.lt ?_)
      rintro (⟨p, x, hp⟩ | h3)
      · have hpl : p < isC.length := by
          have h4 := congrArg List.length hC
          rw [List.length_map, List.length_map] at h4
          rw [h4]; exact (List.getElem?_eq_some_iff.mp hp).1
        have hi := hat p (isC[p]) (List.getElem?_eq_getElem hpl)
        rw [hp] at hi
        have := hD.1 k (isC[p]) q _ h2 hi rfl
        exact hni (this ▸ List.getElem_mem hpl)
      · exact absurd hv.lt (Nat.not_lt.mpr h3)
  · refine x_D_fst hD (x_pat_fst isC w1 ws (fun p i c h1 h2 => Or.inl ?_))
    have hi := hat p i h1
    have h3 : (wc.map Prod.fst)[p]? = some c.1 := by rw [hl, List.getElem?_map, h2]; rfl
    rw [List.getElem?_map] at h3 ⊢
    rw [hi]; exact h3
section XP
variable {p : Program} {l : Launch} {e : Env} {R : Room} {s : State} {m : MethodId} {args : Array Value} {below : List Frame} {meth : Method} {c : Code} {H H0 : Heap} {locs : List Loc} {cells slots : Nat} {Q : State → Prop} {D : va_G} {G : Nat → ClassId} {ws wc : va_W} {A0 : Nat → Prop} {pc : Nat} {ls : Array Slot} {rest st0 : List Value} {a : Array Value} {S : Type} {wf : S → va_W}
theorem x_cPi {post : Int32 → S → Prop} (hr : va_Run p l e R s m args below meth c H locs cells slots 0 0 (F0 m pc ls st0) rest (va_Qi post (fun u t => xE D G (va_A wc H.size) (wf u) t) (va_A wc H.size) a) (va_A wc H.size)) (hP : va_P D vwCl ws H) (hD : va_D A0 ws) (hS : va_S A0 H0 H locs) (hA : ∀ q, H0.size ≤ q → A0 q) (isC : List Nat) (hC : isC.map (fun i => ws[i]?) = wc.map some) (hl : ∀ u, wc.map Prod.fst = (wf u).map Prod.fst) (w2 : S → va_W) (hp : ∀ u, x_pat isC (wf u) ws = w2 u)
    (kk : ∀ (r : Int32) (u : S) (H1 : Heap) (locs1 : List Loc), post r u → va_P D vwCl (w2 u) H1 → va_D A0 (w2 u) → va_S A0 H0 H1 locs1 → W p l e R s m args below meth c H1 locs1 cells slots Q (F0 m (pc + 3) ls (.int r :: rest))) : W p l e R s m args below meth c H locs cells slots Q (F0 m pc ls st0) := by
  have hF := va_free hD hS hA isC hC
  refine va_calli hr hS (fun q _ h => hF q h) hF (fun r u t H1 locs1 ht hvm hw hB hz hk hS1 => ?_)
  obtain ⟨hP1, hK1, hD1⟩ := hB
  rw [ht] at hP1
  obtain ⟨hP2, hD2⟩ := x_patP hP hD isC hC (hl u) hk hP1
  rw [hp u] at hP2 hD2
  exact kk r u H1 locs1 hw hP2 hD2 hS1
theorem x_cPl {post : Int64 → S → Prop} (hr : va_Run p l e R s m args below meth c H locs cells slots 0 0 (F0 m pc ls st0) rest (va_Ql post (fun u t => xE D G (va_A wc H.size) (wf u) t) (va_A wc H.size) a) (va_A wc H.size)) (hP : va_P D vwCl ws H) (hD : va_D A0 ws) (hS : va_S A0 H0 H locs) (hA : ∀ q, H0.size ≤ q → A0 q) (isC : List Nat) (hC : isC.map (fun i => ws[i]?) = wc.map some) (hl : ∀ u, wc.map Prod.fst = (wf u).map Prod.fst) (w2 : S → va_W) (hp : ∀ u, x_pat isC (wf u) ws = w2 u)
    (kk : ∀ (r : Int64) (u : S) (H1 : Heap) (locs1 : List Loc), post r u → va_P D vwCl (w2 u) H1 → va_D A0 (w2 u) → va_S A0 H0 H1 locs1 → W p l e R s m args below meth c H1 locs1 cells slots Q (F0 m (pc + 3) ls (.long r :: rest))) : W p l e R s m args below meth c H locs cells slots Q (F0 m pc ls st0) := by
  have hF := va_free hD hS hA isC hC
  refine va_calll hr hS (fun q _ h => hF q h) hF (fun r u t H1 locs1 ht hvm hw hB hz hk hS1 => ?_)
  obtain ⟨hP1, hK1, hD1⟩ := hB
  rw [ht] at hP1
  obtain ⟨hP2, hD2⟩ := x_patP hP hD isC hC (hl u) hk hP1
  rw [hp u] at hP2 hD2
  exact kk r u H1 locs1 hw hP2 hD2 hS1
end XP
theorem x_preP {A0 : Nat → Prop} {D : va_G} {cl : List vw_C} {ws wc w1 : va_W} {H H1 : Heap} (hP : va_P D cl ws H) (hD : va_D A0 ws) (n : Nat) (hC : ws.take n = wc) (hl : wc.map Prod.fst = w1.map Prod.fst) (hk : ∀ q : Nat, q < H.size → ¬ va_A wc H.size q → H1[q]? = H[q]?) (hP1 : va_P D cl w1 H1) : va_P D cl (w1 ++ ws.drop n) H1 ∧ va_D A0 (w1 ++ ws.drop n) := by
  constructor
  · intro k q hq
    by_cases hkl : k < w1.length
    · rw [List.getElem?_append_left hkl] at hq
      exact hP1 k q hq
    · rw [List.getElem?_append_right (by omega), List.getElem?_drop] at hq
      have hv := hP _ q hq
      refine hv.kept (hk q.1 hv.lt ?_)
      rintro (⟨p, x, hp⟩ | h3)
      · rw [← hC] at hp
        have hpn : p < n := by
          have := (List.getElem?_eq_some_iff.mp hp).1
          rw [List.length_take] at this
          omega
        rw [List.getElem?_take_of_lt hpn] at hp
        have := hD.1 _ _ _ _ hq hp rfl
        omega
      · exact absurd hv.lt (Nat.not_lt.mpr h3)
  · refine x_D_fst hD ?_
    rw [List.map_append, ← hl, ← hC, ← List.map_append, List.take_append_drop]
section XQ
variable {p : Program} {l : Launch} {e : Env} {R : Room} {s : State} {m : MethodId} {args : Array Value} {below : List Frame} {meth : Method} {c : Code} {H H0 : Heap} {locs : List Loc} {cells slots : Nat} {Q : State → Prop} {D : va_G} {G : Nat → ClassId} {ws wc : va_W} {A0 : Nat → Prop} {pc : Nat} {ls : Array Slot} {rest st0 : List Value} {a : Array Value} {S : Type} {wf : S → va_W}
theorem x_cQi {post : Int32 → S → Prop} (hr : va_Run p l e R s m args below meth c H locs cells slots 0 0 (F0 m pc ls st0) rest (va_Qi post (fun u t => xE D G (va_A wc H.size) (wf u) t) (va_A wc H.size) a) (va_A wc H.size)) (hP : va_P D vwCl ws H) (hD : va_D A0 ws) (hS : va_S A0 H0 H locs) (hA : ∀ q, H0.size ≤ q → A0 q) (n : Nat) (hC : ws.take n = wc) (hl : ∀ u, wc.map Prod.fst = (wf u).map Prod.fst) (w2 : S → va_W) (hp : ∀ u, wf u ++ ws.drop n = w2 u)
    (kk : ∀ (r : Int32) (u : S) (H1 : Heap) (locs1 : List Loc), post r u → va_P D vwCl (w2 u) H1 → va_D A0 (w2 u) → va_S A0 H0 H1 locs1 → W p l e R s m args below meth c H1 locs1 cells slots Q (F0 m (pc + 3) ls (.int r :: rest))) : W p l e R s m args below meth c H locs cells slots Q (F0 m pc ls st0) := by
  have hF : ∀ q, va_A wc H.size q → A0 q := by
    rintro q (⟨k, x, hk⟩ | h)
    · rw [← hC] at hk
      have hpn : k < n := by
        have := (List.getElem?_eq_some_iff.mp hk).1
        rw [List.length_take] at this
        omega
      rw [List.getElem?_take_of_lt hpn] at hk
      exact hD.2 k (q, x) hk
    · exact hA q (Nat.le_trans hS.1 h)
  refine va_calli hr hS (fun q _ h => hF q h) hF (fun r u t H1 locs1 ht hvm hw hB hz hk hS1 => ?_)
  obtain ⟨hP1, hK1, hD1⟩ := hB
  rw [ht] at hP1
  obtain ⟨hP2, hD2⟩ := x_preP hP hD n hC (hl u) hk hP1
  rw [hp u] at hP2 hD2
  exact kk r u H1 locs1 hw hP2 hD2 hS1
theorem x_Psub {D : va_G} {cl : List vw_C} {ws wc : va_W} {H : Heap} (h : va_P D cl ws H) (n : Nat) (hC : ws.take n = wc) : va_P D cl wc H := by
  intro k q hk
  rw [← hC] at hk
  have hpn : k < n := by
    have := (List.getElem?_eq_some_iff.mp hk).1
    rw [List.length_take] at this
    omega
  rw [List.getElem?_take_of_lt hpn] at hk
  exact h k q hk
theorem x_Dsub {A : Nat → Prop} {ws wc : va_W} (h : va_D A ws) (n : Nat) (hC : ws.take n = wc) : va_D A wc := by
  have key : ∀ (k : Nat) (q : Nat × va_E), wc[k]? = some q → ws[k]? = some q := by
    intro k q hk
    rw [← hC] at hk
    have hpn : k < n := by
      have := (List.getElem?_eq_some_iff.mp hk).1
      rw [List.length_take] at this
      omega
    rw [List.getElem?_take_of_lt hpn] at hk
    exact hk
  exact ⟨fun i j p q hp hq e => h.1 i j p q (key i p hp) (key j q hq) e, fun k q hk => h.2 k q (key k q hk)⟩
end XQ
