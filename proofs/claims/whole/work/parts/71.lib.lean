def SJ (x : Int32) (j : Nat) : Prop := j < 4 ∧ (x.toNatClampNeg = j ∨ (4 ≤ x.toNatClampNeg ∧ j = 0))
abbrev x_pk (is : List Nat) (ws : va_W) : va_W := is.filterMap (fun i => ws[i]?)
theorem x_sj4 (x : Int32) : SJ x 0 ∨ SJ x 1 ∨ SJ x 2 ∨ SJ x 3 := by
  unfold SJ
  omega
theorem x_sq {sq : Nat → Nat} (hsq : ∀ k, 4 ≤ k → sq k = sq 0) {x : Int32} {j : Nat} (h : SJ x j) : sq x.toNatClampNeg = sq j := by
  rcases h.2 with e | ⟨e, rfl⟩
  · rw [e]
  · exact hsq _ e
theorem x_sjv {x : Int32} (h : vp_in x 4) : (SJ x 0 ∧ x = 0) ∨ (SJ x 1 ∧ x = 1) ∨ (SJ x 2 ∧ x = 2) ∨ (SJ x 3 ∧ x = 3) := by
  obtain ⟨j, hj, rfl⟩ := vp_in_of h (by decide)
  have hc : (nI j).toNatClampNeg = j := nI_clamp (by omega)
  unfold SJ
  rcases (show j = 0 ∨ j = 1 ∨ j = 2 ∨ j = 3 by omega) with rfl | rfl | rfl | rfl
  · exact Or.inl ⟨⟨by decide, Or.inl hc⟩, rfl⟩
  · exact Or.inr (Or.inl ⟨⟨by decide, Or.inl hc⟩, rfl⟩)
  · exact Or.inr (Or.inr (Or.inl ⟨⟨by decide, Or.inl hc⟩, rfl⟩))
  · exact Or.inr (Or.inr (Or.inr ⟨⟨by decide, Or.inl hc⟩, rfl⟩))
theorem x_cmp0 (r : Int64) : lg_cmp r r = 0 := by
  unfold lg_cmp
  rw [if_neg (by rw [gt_iff_lt, Int64.lt_iff_toInt_lt]; exact Int.lt_irrefl _), if_pos rfl]
