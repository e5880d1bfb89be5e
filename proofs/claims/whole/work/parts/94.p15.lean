/-! pure part 15: the fewest mixes, and the next -/
def dv (c : Nat) (nd : Nat → Nat) (s u : Nat) : Nat := if s &&& u = 0 ∨ dif c s u = 0 then 99 else 1 + max (nd (s &&& u)) (nd (dif c s u))
def mn (g : Nat → Nat) : Nat → Nat
  | 0 => 99
  | n + 1 => min (mn g n) (g (n + 1))
theorem mn_le99 (g : Nat → Nat) : ∀ n, mn g n ≤ 99
  | 0 => Nat.le_refl _
  | n + 1 => Nat.le_trans (Nat.min_le_left _ _) (mn_le99 g n)
theorem mn_le (g : Nat → Nat) : ∀ n m, 1 ≤ m → m ≤ n → mn g n ≤ g m
  | 0, m, h1, h2 => absurd h1 (by omega)
  | n + 1, m, h1, h2 => by
    by_cases e : m = n + 1
    · rw [e]; exact Nat.min_le_right _ _
    · exact Nat.le_trans (Nat.min_le_left _ _) (mn_le g n m h1 (by omega))
theorem le_mn {g : Nat → Nat} {b : Nat} (hb : b ≤ 99) : ∀ n, (∀ m, 1 ≤ m → m ≤ n → b ≤ g m) → b ≤ mn g n
  | 0, _ => hb
  | n + 1, h => Nat.le_min.mpr ⟨le_mn hb n (fun m h1 h2 => h m h1 (by omega)), h (n + 1) (by omega) (by omega)⟩
theorem mn_cong {g h : Nat → Nat} : ∀ n, (∀ m, 1 ≤ m → m ≤ n → g m = h m) → mn g n = mn h n
  | 0, _ => rfl
  | n + 1, q => by rw [mn, mn, mn_cong n (fun m h1 h2 => q m h1 (by omega)), q (n + 1) (by omega) (by omega)]
/-- the table of needs, filled set by set -/
def ndT (c : Nat) (N : Nat → Nat) : Nat → Nat → Nat
  | 0, _ => 0
  | k + 1, s => if s = k then (if cnt k < 2 then 0 else mn (fun m => dv c (ndT c N k) k (N m)) (2 ^ c - 1)) else ndT c N k s
def ndd (c : Nat) (N : Nat → Nat) (s : Nat) : Nat := ndT c N (s + 1) s
theorem ndT_st (c : Nat) (N : Nat → Nat) : ∀ k s, s < k → ndT c N k s = ndd c N s
  | 0, s, h => absurd h (by omega)
  | k + 1, s, h => by
    by_cases e : s = k
    · subst e; rfl
    · rw [ndT, if_neg e]; exact ndT_st c N k s (by omega)
theorem dif_le {c s u : Nat} (hs : s < 2 ^ c) : dif c s u ≤ s := by
  have e : s &&& dif c s u = dif c s u := by
    apply Nat.eq_of_testBit_eq
    intro i
    rw [Nat.testBit_and, dif_bit hs]
    cases s.testBit i <;> rfl
  rw [← e]; exact Nat.and_le_left
theorem sp_lt {c s u : Nat} (hs : s < 2 ^ c) (h : ¬ (s &&& u = 0 ∨ dif c s u = 0)) : s &&& u < s ∧ dif c s u < s := by
  have h1 : s &&& u ≠ 0 := fun e => h (Or.inl e)
  have h2 : dif c s u ≠ 0 := fun e => h (Or.inr e)
  have l1 : s &&& u ≤ s := Nat.and_le_left
  have l2 := dif_le (u := u) hs
  refine ⟨Nat.lt_of_le_of_ne l1 (fun e => h2 ?_), Nat.lt_of_le_of_ne l2 (fun e => h1 ?_)⟩
  · apply Nat.eq_of_testBit_eq
    intro i
    rw [dif_bit hs, Nat.zero_testBit]
    have : (s &&& u).testBit i = s.testBit i := by rw [e]
    rw [Nat.testBit_and] at this
    cases hsb : s.testBit i <;> cases hu : u.testBit i <;> rw [hsb, hu] at this <;> first | rfl | cases this
  · apply Nat.eq_of_testBit_eq
    intro i
    rw [Nat.testBit_and, Nat.zero_testBit]
    have : (dif c s u).testBit i = s.testBit i := by rw [e]
    rw [dif_bit hs] at this
    cases hsb : s.testBit i <;> cases hu : u.testBit i <;> rw [hsb, hu] at this <;> first | rfl | cases this
theorem dv_cong {c s u : Nat} {f g : Nat → Nat} (hs : s < 2 ^ c) (h : ∀ a, a < s → f a = g a) : dv c f s u = dv c g s u := by
  unfold dv
  by_cases e : s &&& u = 0 ∨ dif c s u = 0
  · rw [if_pos e, if_pos e]
  · rw [if_neg e, if_neg e, h _ (sp_lt hs e).1, h _ (sp_lt hs e).2]
theorem ndd_eq {c : Nat} (N : Nat → Nat) {s : Nat} (hs : s < 2 ^ c) : ndd c N s = if cnt s < 2 then 0 else mn (fun m => dv c (ndd c N) s (N m)) (2 ^ c - 1) := by
  have e : ndd c N s = if cnt s < 2 then 0 else mn (fun m => dv c (ndT c N s) s (N m)) (2 ^ c - 1) := by
    unfold ndd
    rw [ndT, if_pos rfl]
  rw [e]
  have e2 : mn (fun m => dv c (ndT c N s) s (N m)) (2 ^ c - 1) = mn (fun m => dv c (ndd c N) s (N m)) (2 ^ c - 1) := mn_cong _ (fun m _ _ => dv_cong hs (fun a ha => ndT_st c N s a ha))
  rw [e2]
theorem ndd_99 {c : Nat} (N : Nat → Nat) {s : Nat} (hs : s < 2 ^ c) : ndd c N s ≤ 99 := by
  rw [ndd_eq N hs]
  split
  · omega
  · exact mn_le99 _ _
def lt2 (m : Nat) : Nat := if m ≤ 1 then 0 else if m ≤ 2 then 1 else if m ≤ 4 then 2 else 3
theorem lt2_eq : ∀ m, m < 9 → ∀ a, a < 4 → m ≤ 2 ^ a → (a = 0 ∨ 2 ^ (a - 1) < m) → lt2 m = a := by decide
theorem lt2_add : ∀ p, p < 9 → ∀ q, q < 9 → p + q < 9 → lt2 (p + q) ≤ 1 + max (lt2 p) (lt2 q) := by decide
theorem lt2_3 (m : Nat) : lt2 m ≤ 3 := by
  unfold lt2
  split
  · omega
  · split
    · omega
    · split <;> omega
theorem nd_lb {c : Nat} (N : Nat → Nat) : ∀ s, s < 2 ^ c → lt2 (cnt s) ≤ ndd c N s := by
  intro s
  induction s using Nat.strongRecOn with
  | ind s ih =>
    intro hs
    have h3 := lt2_3 (cnt s)
    rw [ndd_eq N hs]
    by_cases h : cnt s < 2
    · rw [if_pos h]
      unfold lt2
      rw [if_pos (by omega)]; exact Nat.le_refl _
    · rw [if_neg h]
      refine le_mn (by omega) _ (fun m m1 m2 => ?_)
      show _ ≤ dv c (ndd c N) s (N m)
      unfold dv
      by_cases e : s &&& N m = 0 ∨ dif c s (N m) = 0
      · rw [if_pos e]; omega
      · rw [if_neg e]
        obtain ⟨l1, l2⟩ := sp_lt hs e
        have i1 := ih _ l1 (by omega)
        have i2 := ih _ l2 (by omega)
        have e3 := cnt_split (b := N m) hs
        have c8 := cnt_le s
        have a := lt2_add (cnt (s &&& N m)) (by omega) (cnt (dif c s (N m))) (by omega) (by omega)
        rw [e3] at a
        have : max (lt2 (cnt (s &&& N m))) (lt2 (cnt (dif c s (N m)))) ≤ max (ndd c N (s &&& N m)) (ndd c N (dif c s (N m))) := Nat.max_le.mpr ⟨Nat.le_trans i1 (Nat.le_max_left _ _), Nat.le_trans i2 (Nat.le_max_right _ _)⟩
        omega
theorem s_least {m : Nat} (hm : m ≤ 8) {post : Int32 → Prop} (p : post (nI (lt2 m))) : wp_X2_leastThinkable (nI m) post := by
  have L : ∀ (d a : Nat), a + d = 3 → (a = 0 ∨ 2 ^ (a - 1) < m) → wp_X2_leastThinkable_L2 (nI m) post (d + 1) (nI a) := by
    intro d
    induction d with
    | zero =>
      intro a ha h
      have : a = 3 := by omega
      subst this
      rw [lt2_eq m (by omega) 3 (by decide) (by omega) h] at p
      refine q_f (by decide) (q_t ?_ p)
      rw [one_sh (by decide)]
      exact nI_le (by omega) (by decide)
    | succ d ih =>
      intro a ha h
      have h2 : 2 ^ a ≤ 2 ^ 3 := Nat.pow_le_pow_right (by decide) (by omega)
      refine q_f (nI_ge (a := a) (b := 8) (by omega) (by decide)) ?_
      rw [one_sh (by omega)]
      by_cases hl : m ≤ 2 ^ a
      · rw [lt2_eq m (by omega) a (by omega) hl h] at p
        exact q_t (nI_le hl (by omega)) p
      · refine q_f (nI_ge (by omega) (by omega)) ?_
        rw [← nI_succ]
        exact ih (a + 1) (by omega) (Or.inr (by rw [Nat.add_sub_cancel]; omega))
  exact ⟨3 + 1, L 3 0 rfl (Or.inl rfl)⟩
theorem s_behind {c s u : Nat} (hc : c ≤ 8) (hs : s < 2 ^ c) {nd : Nat → Nat} {depths : Nat → Int32} (h99 : ∀ a, a < s → nd a ≤ 99) (hd : ¬ (s &&& u = 0 ∨ dif c s u = 0) → depths (s &&& u) = nI (nd (s &&& u)) ∧ depths (dif c s u) = nI (nd (dif c s u))) {post : Int32 → Prop}
    (p : post (nI (min 99 (dv c nd s u)))) : wp_X2_depthBehind depths (nI s) (nI u) post := by
  have hp := pow_le8 hc
  have l1 : s &&& u ≤ s := Nat.and_le_left
  have l2 := dif_le (u := u) hs
  unfold wp_X2_depthBehind
  rw [and_dif hc hs, nI_and]
  unfold dv at p
  by_cases h1 : s &&& u = 0
  · rw [if_pos (Or.inl h1)] at p
    exact q_t ((nI0 (by omega)).mpr h1) p
  refine q_f (fun e => h1 ((nI0 (by omega)).mp e)) ?_
  by_cases h2 : dif c s u = 0
  · rw [if_pos (Or.inr h2)] at p
    exact n_f ((nI0 (by omega)).mpr h2) p
  have hn : ¬ (s &&& u = 0 ∨ dif c s u = 0) := fun e => e.elim h1 h2
  rw [if_neg hn] at p
  obtain ⟨d1, d2⟩ := hd hn
  obtain ⟨k1, k2⟩ := sp_lt hs hn
  have n1 := h99 _ k1
  have n2 := h99 _ k2
  rw [nI_clamp (by omega), nI_clamp (by omega), d1, d2]
  refine n_t (fun e => h2 ((nI0 (by omega)).mp e)) ⟨vp_in_nI (by omega) (by decide), vp_in_nI (by omega) (by decide), ?_⟩
  have e1 : (if nI (nd (s &&& u)) < nI (nd (dif c s u)) then nI (nd (dif c s u)) else nI (nd (s &&& u))) = nI (max (nd (s &&& u)) (nd (dif c s u))) := by
    by_cases h : nd (s &&& u) < nd (dif c s u)
    · rw [if_pos (nI_lt h (by omega)), Nat.max_eq_right (by omega)]
    · rw [if_neg (nI_nlt (by omega) (by omega)), Nat.max_eq_left (by omega)]
  have hm : max (nd (s &&& u)) (nd (dif c s u)) ≤ 99 := Nat.max_le.mpr ⟨n1, n2⟩
  rw [e1, lit_add 1]
  by_cases h : 1 + max (nd (s &&& u)) (nd (dif c s u)) < 99
  · rw [if_pos (show nI (1 + max (nd (s &&& u)) (nd (dif c s u))) < (99 : Int32) from nI_lt (b := 99) h (by decide))]
    rw [Nat.min_eq_right (by omega)] at p; exact p
  · rw [if_neg (show ¬ nI (1 + max (nd (s &&& u)) (nd (dif c s u))) < (99 : Int32) from nI_nlt (b := 99) (by omega) (by omega))]
    rw [Nat.min_eq_left (by omega)] at p; exact p
def Sub (s x : Nat) : Prop := ∀ i, s.testBit i = true → x.testBit i = true
theorem sub_dif {c s x : Nat} (hs : s < 2 ^ c) : dif c s x = 0 ↔ Sub s x := by
  constructor
  · intro h i hi
    have : (dif c s x).testBit i = false := by rw [h, Nat.zero_testBit]
    rw [dif_bit hs, hi] at this
    cases hx : x.testBit i with
    | true => rfl
    | false => rw [hx] at this; cases this
  · intro h
    apply Nat.eq_of_testBit_eq
    intro i
    rw [dif_bit hs, Nat.zero_testBit]
    cases hi : s.testBit i with
    | true => rw [h i hi]; rfl
    | false => rfl
theorem sub_and {s x u : Nat} (h : Sub s x) : Sub (s &&& u) x := fun i hi => h i (by
  rw [Nat.testBit_and] at hi
  cases hs : s.testBit i with
  | true => rfl
  | false => rw [hs] at hi; cases hi)
theorem sub_difs {c s x u : Nat} (hs : s < 2 ^ c) (h : Sub s x) : Sub (dif c s u) x := fun i hi => h i (by
  rw [dif_bit hs] at hi
  cases hs : s.testBit i with
  | true => rfl
  | false => rw [hs] at hi; cases hi)
def cutm (c x n : Nat) : Nat := min (n &&& x) (dif c x n)
theorem cutm_le {c x n : Nat} : cutm c x n ≤ x := Nat.le_trans (Nat.min_le_left _ _) Nat.and_le_right
theorem dv_T {c s x n : Nat} (hs : s < 2 ^ c) (h : Sub s x) (nd : Nat → Nat) : dv c nd s (n &&& x) = dv c nd s n := by
  have e1 : s &&& (n &&& x) = s &&& n := by
    apply Nat.eq_of_testBit_eq
    intro i
    simp only [Nat.testBit_and]
    cases hi : s.testBit i with
    | true => rw [h i hi, Bool.and_true]
    | false => rfl
  have e2 : dif c s (n &&& x) = dif c s n := by
    apply Nat.eq_of_testBit_eq
    intro i
    rw [dif_bit hs, dif_bit hs, Nat.testBit_and]
    cases hi : s.testBit i with
    | true => rw [h i hi, Bool.and_true]
    | false => rfl
  unfold dv
  rw [e1, e2]
theorem dv_cut {c s x n : Nat} (hs : s < 2 ^ c) (hx : x < 2 ^ c) (h : Sub s x) (nd : Nat → Nat) : dv c nd s (cutm c x n) = dv c nd s n := by
  unfold cutm
  by_cases hm : n &&& x ≤ dif c x n
  · rw [Nat.min_eq_left hm]; exact dv_T hs h nd
  · rw [Nat.min_eq_right (by omega)]
    have e1 : s &&& dif c x n = dif c s n := by
      apply Nat.eq_of_testBit_eq
      intro i
      rw [Nat.testBit_and, dif_bit hx, dif_bit hs]
      cases hi : s.testBit i with
      | true => rw [h i hi, Bool.true_and]
      | false => rfl
    have e2 : dif c s (dif c x n) = s &&& n := by
      apply Nat.eq_of_testBit_eq
      intro i
      rw [dif_bit hs, dif_bit hx, Nat.testBit_and]
      cases hi : s.testBit i with
      | true => rw [h i hi]; cases n.testBit i <;> rfl
      | false => rfl
    unfold dv
    rw [e1, e2, Nat.max_comm]
    by_cases z : dif c s n = 0 ∨ s &&& n = 0
    · rw [if_pos z, if_pos z.symm]
    · rw [if_neg z, if_neg (fun q => z q.symm)]
section NE
variable {c x : Nat} {N : Nat → Nat} {told : Nat → Int32}
theorem s_cuts (hc : c ≤ 8) (hx : x < 2 ^ c) (hN : ∀ m, N m < 2 ^ c) (ht : ∀ m, 1 ≤ m → m < 2 ^ c → told m = nI (N m &&& x)) {cuts isCut : Nat → Int32} {post : Int32 → (Nat → Int32) → (Nat → Int32) → Prop}
    (p : ∀ (n : Nat) (cuts' isCut' : Nat → Int32), n ≤ 255 → (∀ j, j < n → ∃ m, 1 ≤ m ∧ m < 2 ^ c ∧ cuts' j = nI (cutm c x (N m))) → (∀ m, 1 ≤ m → m < 2 ^ c → ∃ j, j < n ∧ cuts' j = nI (cutm c x (N m))) → post (nI n) cuts' isCut') : wp_X2_findCuts (nI x) (nI (2 ^ c - 1)) told cuts isCut post := by
  have hp := pow_le8 hc
  have h0 := Nat.two_pow_pos c
  have L30 : ∀ (d m n : Nat) (cu ic : Nat → Int32), m + d = 2 ^ c → 1 ≤ m → n + 1 ≤ m → (∀ j, j < n → ∃ m', 1 ≤ m' ∧ m' < m ∧ cu j = nI (cutm c x (N m'))) → (∀ m', 1 ≤ m' → m' < m → ∃ j, j < n ∧ cu j = nI (cutm c x (N m'))) → (∀ s, s ≤ x → ¬ ic s = 0 → ∃ j, j < n ∧ cu j = nI s) → wp_X2_findCuts_L30 (nI x) (nI (2 ^ c - 1)) told post (d + 1) (nI n) cu ic (nI m) := by
    intro d
    induction d with
    | zero =>
      intro m n cu ic hm m1 hn A B C
      have : m = 2 ^ c := by omega
      subst this
      exact q_t (nI_lt (by omega) (by omega)) (p n cu ic (by omega) A B)
    | succ d ih =>
      intro m n cu ic hm m1 hn A B C
      obtain ⟨-, -, -, -, q5⟩ := cut_eqs (S := 0) hx (hN m)
      have b1 : N m &&& x ≤ x := Nat.and_le_right
      have b2 := dif_lt c x (N m)
      have hmin : (if nI (dif c x (N m)) < nI (N m &&& x) then nI (dif c x (N m)) else nI (N m &&& x)) = nI (cutm c x (N m)) := by
        unfold cutm
        by_cases h : dif c x (N m) < N m &&& x
        · rw [if_pos (nI_lt h (by omega)), Nat.min_eq_right (by omega)]
        · rw [if_neg (nI_nlt (by omega) (by omega)), Nat.min_eq_left (by omega)]
      have hcl : cutm c x (N m) ≤ x := cutm_le
      refine q_f (nI_nlt (by omega) (by omega)) ?_
      rw [nI_clamp (n := m) (by omega), ht m m1 (by omega), and_dif hc hx, q5, hmin, nI_clamp (n := cutm c x (N m)) (by omega), nI_clamp (n := n) (by omega), ← nI_succ, show nI n + (1 : Int32) = nI (n + 1) from (nI_succ n).symm]
      refine ⟨vp_in_nI (by omega) (by decide), vp_in_nI (by omega) (by decide), vp_in_nI (by omega) (by decide), ?_⟩
      by_cases hi : ic (cutm c x (N m)) = 0
      · refine n_f hi ⟨vp_in_nI (by omega) (by decide), vp_in_nI (by omega) (by decide), ih (m + 1) (n + 1) _ _ (by omega) (by omega) (by omega) (fun j hj => ?_) (fun m' q1 q2 => ?_) (fun s hs his => ?_)⟩
        · by_cases e : j = n
          · exact ⟨m, m1, by omega, u_s e⟩
          · obtain ⟨m', z1, z2, z3⟩ := A j (by omega)
            exact ⟨m', z1, by omega, by rw [u_n e]; exact z3⟩
        · by_cases e : m' = m
          · exact ⟨n, by omega, by rw [u_s rfl, e]⟩
          · obtain ⟨j, z1, z2⟩ := B m' q1 (by omega)
            exact ⟨j, by omega, by rw [u_n (by omega)]; exact z2⟩
        · by_cases e : s = cutm c x (N m)
          · exact ⟨n, by omega, by rw [u_s rfl, e]⟩
          · rw [u_n e] at his
            obtain ⟨j, z1, z2⟩ := C s hs his
            exact ⟨j, by omega, by rw [u_n (by omega)]; exact z2⟩
      · refine n_t hi (ih (m + 1) n _ _ (by omega) (by omega) (by omega) (fun j hj => ?_) (fun m' q1 q2 => ?_) C)
        · obtain ⟨m', z1, z2, z3⟩ := A j hj
          exact ⟨m', z1, by omega, z3⟩
        · by_cases e : m' = m
          · rw [e]; exact C _ hcl hi
          · exact B m' q1 (by omega)
  have L2 : ∀ (d k : Nat) (ic : Nat → Int32), k + d = x + 1 → (∀ s, s < k → ic s = 0) → wp_X2_findCuts_L2 (nI x) (nI (2 ^ c - 1)) told cuts post (d + 1) ic (nI k) := by
    intro d
    induction d with
    | zero =>
      intro k ic hk hz
      have : k = x + 1 := by omega
      subst this
      exact q_t (nI_lt (by omega) (by omega)) ⟨2 ^ c - 1 + 1, L30 (2 ^ c - 1) 1 0 cuts ic (by omega) (by omega) (by omega) (fun j hj => absurd hj (by omega)) (fun m' q1 q2 => absurd q1 (by omega)) (fun s hs his => absurd (hz s (by omega)) his)⟩
    | succ d ih =>
      intro k ic hk hz
      refine q_f (nI_nlt (by omega) (by omega)) ⟨vp_in_nI (by omega) (by decide), ?_⟩
      rw [nI_clamp (by omega), ← nI_succ]
      refine ih (k + 1) _ (by omega) (fun s hs => ?_)
      by_cases e : s = k
      · rw [u_s e]; rfl
      · rw [u_n e]; exact hz s (by omega)
  exact ⟨x + 1 + 1, L2 (x + 1) 0 isCut (by omega) (fun s hs => absurd hs (by omega))⟩
theorem s_depthOf (hc : c ≤ 8) (hx : x < 2 ^ c) {n s : Nat} {cuts depths : Nat → Int32} (hn : n ≤ 255) (A : ∀ j, j < n → ∃ m, 1 ≤ m ∧ m < 2 ^ c ∧ cuts j = nI (cutm c x (N m))) (B : ∀ m, 1 ≤ m → m < 2 ^ c → ∃ j, j < n ∧ cuts j = nI (cutm c x (N m))) (hs : s < 2 ^ c) (hsub : Sub s x) (h2 : ¬ cnt s < 2) (hd : ∀ a, a < s → Sub a x → depths a = nI (ndd c N a)) {post : Int32 → Prop}
    (p : post (nI (ndd c N s))) : wp_X2_depthOf (nI n) cuts depths (nI s) post := by
  have hp := pow_le8 hc
  have c8 := cnt_le s
  have h99 : ∀ a, a < s → ndd c N a ≤ 99 := fun a ha => ndd_99 N (by omega)
  have hnd : ndd c N s = mn (fun m => dv c (ndd c N) s (N m)) (2 ^ c - 1) := by rw [ndd_eq N hs, if_neg h2]
  have hlb := nd_lb N s hs
  have h3 := lt2_3 (cnt s)
  refine s_bc (by omega) (s_least c8 ⟨n + 1, ?_⟩)
  have L : ∀ (d k best : Nat), k + d = n → ndd c N s ≤ best → best ≤ 99 → (∀ m j, 1 ≤ m → m < 2 ^ c → j < k → cuts j = nI (cutm c x (N m)) → best ≤ dv c (ndd c N) s (N m)) → wp_X2_depthOf_L14 (nI n) cuts depths (nI s) (nI (lt2 (cnt s))) post (d + 1) (nI best) (nI k) := by
    intro d
    induction d with
    | zero =>
      intro k best hk b1 b2 hb
      have : k = n := by omega
      subst this
      have : best ≤ ndd c N s := by
        rw [hnd]
        refine le_mn b2 _ (fun m m1 m2 => ?_)
        obtain ⟨j, hj, ej⟩ := B m m1 (by omega)
        exact hb m j m1 (by omega) hj ej
      have e : best = ndd c N s := by omega
      rw [e]
      exact q_t (nI_le (Nat.le_refl _) (by omega)) p
    | succ d ih =>
      intro k best hk b1 b2 hb
      refine q_f (nI_ge (by omega) (by omega)) ?_
      by_cases hl : best ≤ lt2 (cnt s)
      · have e : best = ndd c N s := by omega
        refine q_t (nI_le hl (by omega)) ?_
        rw [e]; exact p
      · obtain ⟨m0, m1, m2, ek⟩ := A k (by omega)
        refine q_f (nI_ge (by omega) (by omega)) ⟨vp_in_nI (by omega) (by decide), ?_⟩
        rw [nI_clamp (by omega), ek]
        have hcut : cutm c x (N m0) ≤ x := cutm_le
        refine s_behind (nd := ndd c N) hc hs h99 (fun hnn => ?_) ?_
        · obtain ⟨k1, k2⟩ := sp_lt hs hnn
          exact ⟨hd _ k1 (sub_and hsub), hd _ k2 (sub_difs hs hsub)⟩
        rw [dv_cut hs hx hsub]
        have hle : ndd c N s ≤ dv c (ndd c N) s (N m0) := by rw [hnd]; exact mn_le (fun m => dv c (ndd c N) s (N m)) _ m0 m1 (by omega)
        have e1 : (if nI (min 99 (dv c (ndd c N) s (N m0))) < nI best then nI (min 99 (dv c (ndd c N) s (N m0))) else nI best) = nI (min best (min 99 (dv c (ndd c N) s (N m0)))) := by
          by_cases h : min 99 (dv c (ndd c N) s (N m0)) < best
          · rw [if_pos (nI_lt h (by omega))]; congr 1; omega
          · rw [if_neg (nI_nlt (by omega) (by omega))]; congr 1; omega
        rw [e1, ← nI_succ]
        refine ih (k + 1) _ (by omega) (by omega) (by omega) (fun m j q1 q2 q3 q4 => ?_)
        by_cases e : j = k
        · subst e
          have hcm : cutm c x (N m) ≤ x := cutm_le
          have : cutm c x (N m) = cutm c x (N m0) := (nI_eq (by omega) (by omega)).mp (q4.symm.trans ek)
          have e5 := dv_cut (n := N m) hs hx hsub (ndd c N)
          rw [this, dv_cut hs hx hsub] at e5
          omega
        · have := hb m j q1 q2 (by omega) q4
          omega
  exact L n 0 99 (by omega) (ndd_99 N hs) (by omega) (fun m j _ _ hj => absurd hj (by omega))
theorem s_fewestM (hc : c ≤ 8) (hx : x < 2 ^ c) (hN : ∀ m, N m < 2 ^ c) (ht : ∀ m, 1 ≤ m → m < 2 ^ c → told m = nI (N m &&& x)) {cuts isCut depths : Nat → Int32} {post : Int32 → Int32 → (Nat → Int32) → (Nat → Int32) → (Nat → Int32) → Prop}
    (p : ∀ (n : Int32) (cuts' isCut' depths' : Nat → Int32), (∀ a, a ≤ x → Sub a x → depths' a = nI (ndd c N a)) → post (if ndd c N x < 99 then nI (ndd c N x) else -4) n cuts' isCut' depths') : wp_X2_fewestMixes (nI x) (nI (2 ^ c - 1)) told cuts isCut depths post := by
  have hp := pow_le8 hc
  refine s_cuts hc hx hN ht (fun n cu ic hn A B => ?_)
  have hxx : Sub x x := fun i hi => hi
  have L : ∀ (d k : Nat) (dp : Nat → Int32), k + d = x + 1 → (∀ a, a < k → Sub a x → dp a = nI (ndd c N a)) → wp_X2_findDepths_L6 (nI x) (nI n) cu ic (fun p_cutCount_1 p_cuts_1 p_isCut_1 p_depths_1 => vp_in (nI x) 256 ∧ ((99 : Int32) ≤ (p_depths_1 (nI x).toNatClampNeg) → post (-4 : Int32) p_cutCount_1 p_cuts_1 p_isCut_1 p_depths_1) ∧ (¬ (99 : Int32) ≤ (p_depths_1 (nI x).toNatClampNeg) → vp_in (nI x) 256 ∧ post (p_depths_1 (nI x).toNatClampNeg) p_cutCount_1 p_cuts_1 p_isCut_1 p_depths_1)) (d + 1) dp (nI k) := by
    intro d
    induction d with
    | zero =>
      intro k dp hk hd
      have : k = x + 1 := by omega
      subst this
      have p' := p (nI n) cu ic dp (fun a ha hs => hd a (by omega) hs)
      have h99 := ndd_99 N hx
      refine q_t (nI_lt (by omega) (by omega)) ⟨vp_in_nI (by omega) (by decide), ?_⟩
      rw [nI_clamp (by omega), hd x (by omega) hxx]
      by_cases h : ndd c N x < 99
      · rw [if_pos h] at p'
        exact q_f (nI_ge (b := 99) h (by decide)) ⟨vp_in_nI (by omega) (by decide), p'⟩
      · rw [if_neg h] at p'
        exact q_t (nI_le (a := 99) (by omega) (by omega)) p'
    | succ d ih =>
      intro k dp hk hd
      have hkc : k < 2 ^ c := by omega
      refine q_f (nI_nlt (by omega) (by omega)) ?_
      have hdl := dif_lt c k x
      rw [and_dif hc hkc, nI_clamp (n := k) (by omega), ← nI_succ]
      by_cases hz : dif c k x = 0
      · have hsub := (sub_dif hkc).mp hz
        refine n_f ((nI0 (by omega)).mpr hz) (s_one (by omega) ?_)
        by_cases h2 : cnt k < 2
        · rw [decide_eq_true h2]
          refine q_f (by decide) ⟨vp_in_nI (by omega) (by decide), ih (k + 1) _ (by omega) (fun a ha hs => ?_)⟩
          by_cases e : a = k
          · rw [u_s e, e, ndd_eq N hkc, if_pos h2]; rfl
          · rw [u_n e]; exact hd a (by omega) hs
        · rw [decide_eq_false h2]
          refine q_t rfl (s_depthOf hc hx hn A B hkc hsub h2 hd ⟨vp_in_nI (by omega) (by decide), ih (k + 1) _ (by omega) (fun a ha hs => ?_)⟩)
          by_cases e : a = k
          · rw [u_s e, e]
          · rw [u_n e]; exact hd a (by omega) hs
      · refine n_t (fun e => hz ((nI0 (by omega)).mp e)) (ih (k + 1) _ (by omega) (fun a ha hs => ?_))
        by_cases e : a = k
        · rw [e] at hs
          exact absurd ((sub_dif hkc).mpr hs) hz
        · exact hd a (by omega) hs
  exact ⟨x + 1 + 1, L (x + 1) 0 depths (by omega) (fun a ha => absurd ha (by omega))⟩
variable {now noticed : Nat → Int32}
theorem s_needBy (hc : c ≤ 8) (hN : ∀ m, N m < 2 ^ c) (ht : ∀ m, 1 ≤ m → m < 2 ^ c → noticed m = nI (N m)) {s m : Nat} (hs : s < 2 ^ c) (m1 : 1 ≤ m) (m2 : m < 2 ^ c) {needs : Nat → Int32} (hd : ∀ a, a < s → needs a = nI (ndd c N a)) {post : Int32 → Prop} (p : post (nI (dv c (ndd c N) s (N m)))) : wp_X8_needBy noticed needs (nI s) (nI m) post := by
  have hp := pow_le8 hc
  have l1 : s &&& N m ≤ s := Nat.and_le_left
  have l2 := dif_le (u := N m) hs
  unfold wp_X8_needBy
  rw [nI_clamp (n := m) (by omega), ht m m1 m2, and_dif hc hs, nI_and]
  unfold dv at p
  refine ⟨vp_in_nI (by omega) (by decide), vp_in_nI (by omega) (by decide), ?_⟩
  by_cases h1 : s &&& N m = 0
  · rw [if_pos (Or.inl h1)] at p
    exact q_t ((nI0 (by omega)).mpr h1) p
  refine q_f (fun e => h1 ((nI0 (by omega)).mp e)) ?_
  by_cases h2 : dif c s (N m) = 0
  · rw [if_pos (Or.inr h2)] at p
    exact n_f ((nI0 (by omega)).mpr h2) p
  have hn : ¬ (s &&& N m = 0 ∨ dif c s (N m) = 0) := fun e => e.elim h1 h2
  rw [if_neg hn] at p
  obtain ⟨k1, k2⟩ := sp_lt hs hn
  have n1 := ndd_99 N (show s &&& N m < 2 ^ c by omega)
  have n2 := ndd_99 N (show dif c s (N m) < 2 ^ c by omega)
  rw [nI_clamp (by omega), nI_clamp (by omega), hd _ k1, hd _ k2, lit_add 1, lit_add 1]
  refine n_t (fun e => h2 ((nI0 (by omega)).mp e)) ⟨vp_in_nI (by omega) (by decide), vp_in_nI (by omega) (by decide), ?_⟩
  by_cases h : ndd c N (s &&& N m) ≤ ndd c N (dif c s (N m))
  · rw [Nat.max_eq_right h] at p
    exact q_t (nI_le h (by omega)) ⟨vp_in_nI (by omega) (by decide), p⟩
  · rw [Nat.max_eq_left (by omega)] at p
    exact q_f (nI_ge (by omega) (by omega)) ⟨vp_in_nI (by omega) (by decide), p⟩
theorem dv_100 (hc : c ≤ 8) {s u : Nat} (hs : s < 2 ^ c) : dv c (ndd c N) s u ≤ 100 := by
  unfold dv
  by_cases e : s &&& u = 0 ∨ dif c s u = 0
  · rw [if_pos e]; omega
  · rw [if_neg e]
    obtain ⟨k1, k2⟩ := sp_lt hs e
    have := Nat.max_le.mpr ⟨ndd_99 N (show s &&& u < 2 ^ c by omega), ndd_99 N (show dif c s u < 2 ^ c by omega)⟩
    omega
theorem s_needs (hc : c ≤ 8) (hN : ∀ m, N m < 2 ^ c) (ht : ∀ m, 1 ≤ m → m < 2 ^ c → noticed m = nI (N m)) (m4 : now 4 = nI c) {needs : Nat → Int32} {post : (Nat → Int32) → Prop} (p : ∀ needs' : Nat → Int32, (∀ a, a < 2 ^ c → needs' a = nI (ndd c N a)) → post needs') : wp_X8_layNeeds now noticed needs post := by
  have hp := pow_le8 hc
  have h0 := Nat.two_pow_pos c
  have L : ∀ (d k : Nat) (ne : Nat → Int32), k + d = 2 ^ c → (∀ a, a < k → ne a = nI (ndd c N a)) → wp_X8_layNeeds_L2 now noticed post (d + 1) ne (nI k) := by
    intro d
    induction d with
    | zero =>
      intro k ne hk hd
      have : k = 2 ^ c := by omega
      subst this
      exact s8_all hc m4 (q_t (nI_lt (by omega) (by omega)) (p ne hd))
    | succ d ih =>
      intro k ne hk hd
      have c8 := cnt_le k
      have hkc : k < 2 ^ c := by omega
      have J : ∀ z : Nat, z = ndd c N k → wp_X8_layNeeds_J76 ne (nI k) (nI z) (wp_X8_layNeeds_L2 now noticed post (d + 1)) post := by
        intro z hz
        unfold wp_X8_layNeeds_J76
        rw [nI_clamp (by omega), ← nI_succ]
        refine ⟨vp_in_nI (by omega) (by decide), ih (k + 1) _ (by omega) (fun a ha => ?_)⟩
        by_cases e : a = k
        · rw [u_s e, e, hz]
        · rw [u_n e]; exact hd a (by omega)
      refine s8_all hc m4 (q_f (nI_nlt (by omega) (by omega)) (s_bits (by omega) ?_))
      by_cases h2 : cnt k < 2
      · refine q_f (nI_ge (b := 2) h2 (by decide)) ⟨1, s8_all hc m4 ⟨fun _ => J 0 ?_, fun _ => s_bits (by omega) (q_t (nI_le (b := 1) (by omega) (by decide)) (J 0 ?_))⟩⟩ <;> rw [ndd_eq N hkc, if_pos h2]
      · have hnd : ndd c N k = mn (fun m => dv c (ndd c N) k (N m)) (2 ^ c - 1) := by rw [ndd_eq N hkc, if_neg h2]
        refine q_t (nI_le (a := 2) (by omega) (by omega)) ⟨2 ^ c - 1 + 1, ?_⟩
        have I : ∀ (dd m : Nat), m + dd = 2 ^ c - 1 → wp_X8_layNeeds_L30 now noticed ne (nI k) (wp_X8_layNeeds_L2 now noticed post (d + 1)) post (dd + 1) (nI (mn (fun m => dv c (ndd c N) k (N m)) m)) (nI (m + 1)) := by
          intro dd
          induction dd with
          | zero =>
            intro m hm
            have : m = 2 ^ c - 1 := by omega
            subst this
            exact s8_all hc m4 (q_t (nI_lt (by omega) (by omega)) (J _ hnd.symm))
          | succ dd ih2 =>
            intro m hm
            have e := ih2 (m + 1) (by omega)
            have b1 := mn_le99 (fun m => dv c (ndd c N) k (N m)) m
            have b2 : dv c (ndd c N) k (N (m + 1)) ≤ 100 := dv_100 hc hkc
            refine s8_all hc m4 (q_f (nI_nlt (by omega) (by omega)) (s_bits (by omega) (q_f (nI_ge (a := 1) (by omega) (by omega)) (s_needBy hc hN ht hkc (by omega) (by omega) hd ?_))))
            rw [← nI_succ]
            have e2 : mn (fun m => dv c (ndd c N) k (N m)) (m + 1) = min (mn (fun m => dv c (ndd c N) k (N m)) m) (dv c (ndd c N) k (N (m + 1))) := rfl
            rw [e2] at e
            by_cases h : mn (fun m => dv c (ndd c N) k (N m)) m ≤ dv c (ndd c N) k (N (m + 1))
            · rw [Nat.min_eq_left h] at e
              exact q_t (nI_le h (by omega)) e
            · rw [Nat.min_eq_right (by omega)] at e
              exact q_f (nI_ge (by omega) (by omega)) e
        exact I (2 ^ c - 1) 0 (by omega)
  exact ⟨2 ^ c + 1, L (2 ^ c) 0 needs (by omega) (fun a ha => absurd ha (by omega))⟩
end NE
set_option maxRecDepth 20000 in
theorem st_fewest : Step_fewest RR := by
  intro v f g x1 keep
  obtain ⟨⟨c, t, w, k, hD⟩, hK, hT, hS⟩ := id keep
  obtain ⟨⟨hc, ht, hw, hk⟩, ⟨e1, e2, e3, e4⟩, ⟨m4, m13, m22⟩, hmi, hta, ⟨q0, q1, q2, q3, hM⟩, hpast⟩ := id hD
  obtain ⟨x, hx, ex⟩ := hM.1
  have hp := pow_le8 hc
  rcases ix x1 (n := t) (by omega) with h | ⟨i, hi, rfl⟩
  · exact s7t_bad e2 h (n_f rfl (s8_isTaster_bad m13 ht h (n_f rfl ⟨rfl, keep⟩)))
  obtain ⟨kd, fn, d, hkd, hfn1, hfn, hd, ek, ef, nk, nf, ed, nd⟩ := tas hD hi
  have hN := nset_lt kd fn d c (tn (f 0))
  have h99 := ndd_99 (nset kd fn d c (tn (f 0))) hx
  refine s7t_ok e2 ht hi (n_t ne10 (s_look hD hi hkd hfn hd ek ef ed ex (fun told ht' => s_fewestM hc hx hN ht' (fun n cu ic dp hdp => ?_))))
  refine s8_isTaster_ok m13 ht hi (n_t ne10 (s_lay hD hi hkd hfn hd nk nf nd (fun nn hnn => s_needs hc hN hnn m4 (fun ne hne => ?_))))
  rw [q0, ex, nI_clamp (by omega), hne x hx]
  refine ⟨vp_in_nI (by omega) (by decide), ?_⟩
  by_cases h : ndd c (nset kd fn d c (tn (f 0))) x < 99
  · rw [if_pos h]
    exact q_t (nI_lt (b := 99) h (by decide)) ⟨vp_in_nI (by omega) (by decide), rfl, keep⟩
  · rw [if_neg h]
    exact q_f (nI_nlt (b := 99) (by omega) (by omega)) ⟨rfl, keep⟩
set_option maxRecDepth 20000 in
theorem st_next : Step_next RR := by
  intro v f g x1 keep
  obtain ⟨⟨c, t, w, k, hD⟩, hK, hT, hS⟩ := id keep
  obtain ⟨⟨hc, ht, hw, hk⟩, ⟨e1, e2, e3, e4⟩, ⟨m4, m13, m22⟩, hmi, hta, ⟨q0, q1, q2, q3, hM⟩, hpast⟩ := id hD
  obtain ⟨x, hx, ex⟩ := hM.1
  have hp := pow_le8 hc
  have h0 := Nat.two_pow_pos c
  rcases ix x1 (n := t) (by omega) with h | ⟨i, hi, rfl⟩
  · exact s7t_bad e2 h (n_f rfl (s8_isTaster_bad m13 ht h (n_f rfl ⟨rfl, keep⟩)))
  obtain ⟨kd, fn, d, hkd, hfn1, hfn, hd, ek, ef, nk, nf, ed, nd⟩ := tas hD hi
  obtain ⟨N, hNe⟩ : ∃ N, N = nset kd fn d c (tn (f 0)) := ⟨_, rfl⟩
  have hN : ∀ m, N m < 2 ^ c := by rw [hNe]; exact nset_lt kd fn d c (tn (f 0))
  have h99 := ndd_99 N hx
  have hxx : Sub x x := fun i hi => hi
  refine s7t_ok e2 ht hi (n_t ne10 (s_look hD hi hkd hfn hd ek ef ed ex (fun told ht' => ?_)))
  rw [← hNe] at ht'
  refine s_fewestM hc hx hN ht' (fun n cu ic dp hdp => ?_)
  -- what the model answers
  have M : ∀ (P : Int32 → (Nat → Int32) → (Nat → Int32) → Prop), (∀ nn ne, (∀ m, 1 ≤ m → m < 2 ^ c → nn m = nI (N m)) → (∀ a, a < 2 ^ c → ne a = nI (ndd c N a)) → ∃ n, wp_X8_next_L33 (f 29) nn ne (nI (ndd c N x)) P n (1 : Int32)) → wp_X8_next (f 29) (f 33) (f 34) (nI i) P := by
    intro P hP
    refine s8_isTaster_ok m13 ht hi (n_t ne10 (s_lay hD hi hkd hfn hd nk nf nd (fun nn hnn => ?_)))
    rw [← hNe] at hnn
    refine s_needs hc hN hnn m4 (fun ne hne => ?_)
    rw [q0, ex, nI_clamp (by omega), hne x hx]
    exact ⟨vp_in_nI (by omega) (by decide), hP nn ne hnn hne⟩
  by_cases hF : 0 < ndd c N x ∧ ndd c N x < 99
  · obtain ⟨F0, F99⟩ := hF
    rw [if_pos F99]
    -- where the search stops
    have hO : ∃ (b : Nat) (r : Int32), 1 ≤ b ∧ b ≤ 2 ^ c ∧ (∀ j, 1 ≤ j → j < b → ¬ dv c (ndd c N) x (N j) = ndd c N x) ∧ ((b = 2 ^ c ∧ r = -4) ∨ (b < 2 ^ c ∧ dv c (ndd c N) x (N b) = ndd c N x ∧ r = nI b)) := by
      by_cases h : ∃ b, 1 ≤ b ∧ b < 2 ^ c ∧ dv c (ndd c N) x (N b) = ndd c N x
      · obtain ⟨b, ⟨b1, b2, b3⟩, hb⟩ := first_ex h
        exact ⟨b, nI b, b1, by omega, fun j j1 j2 e => hb j j2 ⟨j1, by omega, e⟩, Or.inr ⟨b2, b3, rfl⟩⟩
      · exact ⟨2 ^ c, -4, by omega, Nat.le_refl _, fun j j1 j2 e => h ⟨j, j1, j2, e⟩, Or.inl ⟨rfl, rfl⟩⟩
    obtain ⟨b, r, b1, b2, hno, hr⟩ := hO
    have z0 : ¬ nI (ndd c N x) ≤ 0 := nI_nle F0 (by omega)
    have z9 : ¬ (99 : Int32) ≤ nI (ndd c N x) := nI_ge (b := 99) F99 (by decide)
    have C : ∀ (P : Int32 → Int32 → (Nat → Int32) → (Nat → Int32) → (Nat → Int32) → Prop), P r n cu ic dp → ∀ (dd j : Nat), j + dd = b → 1 ≤ j → wp_X2_firstMix_L7 (nI x) (nI (2 ^ c - 1)) n told cu ic dp (nI (ndd c N x)) P (dd + 1) (nI j) := by
      intro P pr
      have B : ∀ (j : Nat) (Q : Int32 → Prop), 1 ≤ j → j < 2 ^ c → Q (nI (min 99 (dv c (ndd c N) x (N j)))) → vp_in (nI j) 256 ∧ wp_X2_depthBehind dp (nI x) (told (nI j).toNatClampNeg) Q := by
        intro j Q j1 j2 hq
        rw [nI_clamp (by omega), ht' j j1 j2]
        refine ⟨vp_in_nI (by omega) (by decide), s_behind (nd := ndd c N) hc hx (fun a ha => ndd_99 N (by omega)) (fun hnn => ?_) ?_⟩
        · obtain ⟨k1, k2⟩ := sp_lt hx hnn
          exact ⟨hdp _ (by omega) (sub_and hxx), hdp _ (by omega) (sub_difs hx hxx)⟩
        · rw [dv_T hx hxx]; exact hq
      intro dd
      induction dd with
      | zero =>
        intro j hj j1
        have : j = b := by omega
        subst this
        rcases hr with ⟨hb, rfl⟩ | ⟨hb, he, rfl⟩
        · exact q_t (nI_lt (by omega) (by omega)) pr
        · refine q_f (nI_nlt (by omega) (by omega)) (q_f z0 (B j _ j1 hb (n_f ?_ pr)))
          rw [he, Nat.min_eq_right (by omega)]
      | succ dd ih =>
        intro j hj j1
        refine q_f (nI_nlt (by omega) (by omega)) (q_f z0 (B j _ j1 (by omega) (n_t ?_ ?_)))
        · intro e
          have := (nI_eq (by omega) (by omega)).mp e
          exact hno j j1 (by omega) (by omega)
        · rw [← nI_succ]; exact ih (j + 1) (by omega) (by omega)
    refine ⟨b - 1 + 1, C _ (M _ (fun nn ne hnn hne => ?_)) (b - 1) 1 (by omega) (by omega)⟩
    have D : ∀ (P : Int32 → (Nat → Int32) → (Nat → Int32) → Prop), P r nn ne → ∀ (dd j : Nat), j + dd = b → 1 ≤ j → wp_X8_next_L33 (f 29) nn ne (nI (ndd c N x)) P (dd + 1) (nI j) := by
      intro P pr dd
      induction dd with
      | zero =>
        intro j hj j1
        have : j = b := by omega
        subst this
        rcases hr with ⟨hb, rfl⟩ | ⟨hb, he, rfl⟩
        · exact s8_all hc m4 (q_t (nI_lt (by omega) (by omega)) pr)
        · refine s8_all hc m4 (q_f (nI_nlt (by omega) (by omega)) (q_f z0 (q_f z9 ?_)))
          rw [q0, ex]
          refine s_needBy hc hN hnn hx j1 hb (fun a ha => hne a (by omega)) (n_f ?_ pr)
          rw [he]
      | succ dd ih =>
        intro j hj j1
        refine s8_all hc m4 (q_f (nI_nlt (by omega) (by omega)) (q_f z0 (q_f z9 ?_)))
        rw [q0, ex]
        have b3 : dv c (ndd c N) x (N j) ≤ 100 := dv_100 hc hx
        refine s_needBy hc hN hnn hx j1 (by omega) (fun a ha => hne a (by omega)) (n_t ?_ ?_)
        · intro e
          exact hno j j1 (by omega) ((nI_eq (by omega) (by omega)).mp e)
        · rw [← nI_succ]; exact ih (j + 1) (by omega) (by omega)
    exact ⟨b - 1 + 1, D _ ⟨rfl, keep⟩ (b - 1) 1 (by omega) (by omega)⟩
  · have hz : (if ndd c N x < 99 then nI (ndd c N x) else -4 : Int32) ≤ 0 := by
      by_cases h : ndd c N x < 99
      · have : ndd c N x = 0 := by omega
        rw [if_pos h, this]; decide
      · rw [if_neg h]; decide
    refine ⟨1, ?_⟩
    have MM : ∀ (P : Int32 → (Nat → Int32) → (Nat → Int32) → Prop), (∀ nn ne, P (-4) nn ne) → wp_X8_next (f 29) (f 33) (f 34) (nI i) P := by
      intro P hP
      refine M P (fun nn ne hnn hne => ⟨1, s8_all hc m4 ⟨fun _ => hP nn ne, fun _ => ?_⟩⟩)
      rcases Nat.eq_zero_or_pos (ndd c N x) with z | z
      · rw [z]; exact q_t (by decide) (hP nn ne)
      · exact q_f (nI_nle z (by omega)) (q_t (nI_le (a := 99) (by omega) (by omega)) (hP nn ne))
    exact ⟨fun _ => MM _ (fun nn ne => ⟨rfl, keep⟩), fun _ => q_t hz (MM _ (fun nn ne => ⟨rfl, keep⟩))⟩
