/-! pure part 8: sheets -/
theorem s7s_bad {x : Int32} (h : x < 0 ∨ nI 4 ≤ x) {post : Int32 → Prop} (p : post 0) : wp_X7_isSheet x post := by
  rcases h with h | h
  · exact q_t h p
  · exact ⟨fun _ => p, fun _ => q_t h p⟩
theorem s7s_ok {i : Nat} (h : i < 4) {post : Int32 → Prop} (p : post 1) : wp_X7_isSheet (nI i) post := q_f (nI_pos (by omega)) (q_f (nI_ge h (by decide)) p)
theorem in3_bad {x : Int32} (h : x < 0 ∨ nI 4 ≤ x) {post : Int32 → Prop} (p : post 0) : wp_X8_in x 0 3 post := in_below_bad (c := 4) (by decide) h p
theorem in3_ok {i : Nat} (h : i < 4) {post : Int32 → Prop} (p : post 1) : wp_X8_in (nI i) 0 3 post := in_below_ok (c := 4) (by decide) h p
theorem s8s_bad {x : Int32} (h : x < 0 ∨ nI 4 ≤ x) {post : Int32 → Prop} (p : post 0) : wp_X8_isSheet x post := in3_bad h ⟨rfl, p⟩
theorem s8s_ok {i : Nat} (h : i < 4) {post : Int32 → Prop} (p : post 1) : wp_X8_isSheet (nI i) post := in3_ok h ⟨rfl, p⟩
theorem s7l_bad {x : Int32} {i : Nat} (hi : i < 4) (h : x < 0 ∨ nI 4 ≤ x) {post : Int32 → Prop} (p : post 0) : wp_X7_isLaneOfSheet (nI i) x post := by
  refine s7s_ok hi (q_f ne10 ?_)
  rcases h with h | h
  · exact q_t h p
  · exact ⟨fun _ => p, fun _ => q_t h p⟩
theorem s7l_bad1 {x y : Int32} (h : x < 0 ∨ nI 4 ≤ x) {post : Int32 → Prop} (p : post 0) : wp_X7_isLaneOfSheet x y post := s7s_bad h (q_t rfl p)
theorem s7l_ok {i l : Nat} (hi : i < 4) (hl : l < 4) {post : Int32 → Prop} (p : post 1) : wp_X7_isLaneOfSheet (nI i) (nI l) post := s7s_ok hi (q_f ne10 (q_f (nI_pos (by omega)) (q_f (nI_ge hl (by decide)) p)))
theorem SJ_eq {i j : Nat} (hi : i < 4) (h : SJ (nI i) j) : i = j := by
  obtain ⟨hj, h⟩ := h
  rw [nI_clamp (by omega)] at h
  omega
theorem x_in1 {i : Nat} (h : i < 4) : vp_in (nI i) 4 := vp_in_nI h (by decide)
/-- 'is there such a part of a row of n items?': both sides agree -/
theorem s_part (n : Nat) (hn : n ≤ 24) (i m : Int32) : (∃ a b, i = nI a ∧ m = nI b ∧ a + b ≤ n ∧ (∀ post : Int32 → Prop, post 1 → wp_X4_holds (nI n) i m post) ∧ ∀ post : Int32 → Prop, post 1 → wp_X8_isPart i m (nI n) post) ∨ ((∀ post : Int32 → Prop, post 0 → wp_X4_holds (nI n) i m post) ∧ ∀ post : Int32 → Prop, post 0 → wp_X8_isPart i m (nI n) post) := by
  by_cases hi : i < 0
  · refine Or.inr ⟨fun post p => q_t hi p, fun post p => ?_⟩
    by_cases hm : m < 0
    · exact q_t hm p
    · exact q_f hm (q_t hi p)
  by_cases hm : m < 0
  · exact Or.inr ⟨fun post p => q_f hi (q_t hm p), fun post p => q_t hm p⟩
  obtain ⟨a, ha, rfl⟩ := nI_of hi
  obtain ⟨b, hb, rfl⟩ := nI_of hm
  have ti : (nI n - nI b).toInt = (n : Int) - b := by
    rw [fb_subI] <;> rw [nI_toInt (by omega), nI_toInt hb] <;> omega
  by_cases h : a + b ≤ n
  · have h1 : ¬ (nI n - nI b) < nI a := by rw [fa_lt, ti, nI_toInt ha]; omega
    exact Or.inl ⟨a, b, rfl, rfl, h, fun post p => q_f hi (q_f hm (q_f h1 p)), fun post p => q_f hm (q_f hi (q_f (nI_nlt (by omega) (by omega)) (q_f h1 p)))⟩
  · have h1 : (nI n - nI b) < nI a := by rw [fa_lt, ti, nI_toInt ha]; omega
    refine Or.inr ⟨fun post p => q_f hi (q_f hm (q_t h1 p)), fun post p => q_f hm (q_f hi ?_)⟩
    by_cases hnb : nI n < nI b
    · exact q_t hnb p
    · exact q_f hnb (q_t h1 p)
/-- what a row refuses: both sides agree, or the part is there -/
theorem s_refuse {lane size : Int32} {items : Nat → Int64} {ml ms : Nat → Int32} {mi : Nat → Int64} {j l : Nat} (hj : j < 4) (hl4 : l < 4) (h : SR lane size items (ml j) (ms j) mi) (i m : Int32) :
    (∃ r : Int32, ¬ r = 0 ∧ (∀ post : Int32 → Prop, post r → wp_X4_refusal lane size (nI l) i m post) ∧ ∀ post : Int32 → Prop, post r → wp_X8_wrong ml ms (nI j) (nI l) i m post) ∨
    ∃ n a b, n ≤ 24 ∧ lane = nI l ∧ ml j = nI l ∧ size = nI n ∧ ms j = nI n ∧ (∀ x, x < 24 → items x = mi x) ∧ i = nI a ∧ m = nI b ∧ a + b ≤ n ∧ (∀ post : Int32 → Prop, post 0 → wp_X4_refusal lane size (nI l) i m post) ∧ ∀ post : Int32 → Prop, post 0 → wp_X8_wrong ml ms (nI j) (nI l) i m post := by
  have ej : (nI j).toNatClampNeg = j := nI_clamp (by omega)
  rcases h with ⟨hs, hl⟩ | ⟨l', n, hl', hn, e1, e2, e3, e4, e5⟩
  · refine Or.inl ⟨-11, by decide, fun post p => n_f hs p, fun post p => ?_⟩
    unfold wp_X8_wrong
    rw [ej, hl]
    exact ⟨x_in1 hj, q_f (by decide) p⟩
  · have ns : ¬ nI n = (-1 : Int32) := fun e => nI_pos (n := n) (by omega) (by rw [e]; decide)
    have hp : (0 : Int32) ≤ nI l' := nI_pos' (by omega)
    by_cases hll : nI l' = nI l
    · rcases s_part n hn i m with ⟨a, b, ea, eb, hab, h7, h8⟩ | ⟨h7, h8⟩
      · refine Or.inr ⟨n, a, b, hn, e1.trans hll, e2.trans hll, e3, e4, e5, ea, eb, hab, fun post p => ?_, fun post p => ?_⟩
        · unfold wp_X4_refusal
          rw [e3, e1]
          exact n_t ns (q_t hll (h7 _ (q_f ne10 p)))
        · unfold wp_X8_wrong
          rw [ej, e2, e4]
          exact ⟨x_in1 hj, q_t hp ⟨x_in1 hj, q_t hll ⟨x_in1 hj, h8 _ (q_f ne10 p)⟩⟩⟩
      · refine Or.inl ⟨-13, by decide, fun post p => ?_, fun post p => ?_⟩
        · unfold wp_X4_refusal
          rw [e3, e1]
          exact n_t ns (q_t hll (h7 _ (q_t rfl p)))
        · unfold wp_X8_wrong
          rw [ej, e2, e4]
          exact ⟨x_in1 hj, q_t hp ⟨x_in1 hj, q_t hll ⟨x_in1 hj, h8 _ (q_t rfl p)⟩⟩⟩
    · refine Or.inl ⟨-12, by decide, fun post p => ?_, fun post p => ?_⟩
      · unfold wp_X4_refusal
        rw [e3, e1]
        exact n_t ns (q_f hll p)
      · unfold wp_X8_wrong
        rw [ej, e2, e4]
        exact ⟨x_in1 hj, q_t hp ⟨x_in1 hj, q_f hll p⟩⟩
