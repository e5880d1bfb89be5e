/-! pure part 4: what a taster notices, on both sides -/
def nb (kind fine day c : Nat) (mi : Nat → Nat) (mix i : Nat) : Bool :=
  if kind = 0 then mix.testBit i
  else if kind = 1 then (mix.testBit i && decide (smk mi mix c ≤ mi i * fine))
  else if kind = 2 then (mix.testBit i || decide (fine < cnt mix))
  else if kind = 3 then ((mix.testBit i && decide (smk mi mix c ≤ mi i * fine)) && !decide (day % 3 = 0))
  else ((mix.testBit i || decide (fine < cnt mix)) == decide (day % 2 = 0))
def nset (kind fine day c : Nat) (mi : Nat → Nat) (mix : Nat) : Nat := setTo (nb kind fine day c mi mix) c
theorem nset_lt (kind fine day c : Nat) (mi : Nat → Nat) (mix : Nat) : nset kind fine day c mi mix < 2 ^ c := setTo_lt _ c
theorem s0_all {c : Nat} (hc : c ≤ 8) {post : Int32 → Prop} (p : post (nI (2 ^ c - 1))) : wp_X0_allCows (nI c) post := by
  unfold wp_X0_allCows
  rw [sh1 c (by omega)]; exact p
theorem s8_all {c : Nat} (hc : c ≤ 8) {now : Nat → Int32} (h4 : now 4 = nI c) {post : Int32 → Prop} (p : post (nI (2 ^ c - 1))) : wp_X8_allOf now post := by
  unfold wp_X8_allOf
  rw [h4, sh1 c (by omega)]; exact p
theorem s0_dull {c mix fine : Nat} (hc : c ≤ 8) (hm : mix < 2 ^ c) (hf : fine ≤ 9) {milks : Nat → Int32} (h : okM c milks) {post : Int32 → Prop}
    (p : post (nI (setTo (fun i => mix.testBit i && decide (smk (tn milks) mix c ≤ tn milks i * fine)) c))) : wp_X0_dull (nI c) milks (nI fine) (nI mix) post := by
  refine s0_milkOf hc hm h ?_
  have hs : smk (tn milks) mix c ≤ c * 9 := smk_le h mix (Nat.le_refl c)
  have L : ∀ (d k : Nat), k + d = c → wp_X0_dull_L12 (nI c) milks (nI fine) (nI mix) (nI (smk (tn milks) mix c)) post (d + 1) (nI (setTo (fun i => decide (smk (tn milks) mix c ≤ tn milks i * fine)) k)) (nI k) := by
    intro d
    induction d with
    | zero =>
      intro k hk
      have : k = c := by omega
      subst this
      refine q_t (nI_le (Nat.le_refl _) (by omega)) ?_
      rw [nI_and]
      have e : setTo (fun i => decide (smk (tn milks) mix k ≤ tn milks i * fine)) k &&& mix = setTo (fun i => mix.testBit i && decide (smk (tn milks) mix k ≤ tn milks i * fine)) k := by
        apply Nat.eq_of_testBit_eq
        intro i
        rw [Nat.testBit_and, setTo_bit, setTo_bit]
        cases decide (i < k) <;> cases mix.testBit i <;> simp
      rw [e]; exact p
    | succ d ih =>
      intro k hk
      refine q_f (nI_ge (by omega) (by omega)) ⟨vp_in_nI (by omega) (by decide), ?_⟩
      have e := ih (k + 1) (by omega)
      have hmk := h k (by omega)
      have hb : tn milks k * fine ≤ 81 := Nat.le_trans (Nat.mul_le_mul hmk.2.2 hf) (by decide)
      rw [nI_clamp (by omega), hmk.1, pk_mul, ← nI_succ]
      have e2 : setTo (fun i => decide (smk (tn milks) mix c ≤ tn milks i * fine)) (k + 1) = setTo (fun i => decide (smk (tn milks) mix c ≤ tn milks i * fine)) k + (if decide (smk (tn milks) mix c ≤ tn milks k * fine) = true then 2 ^ k else 0) := rfl
      rcases Nat.lt_or_ge (tn milks k * fine) (smk (tn milks) mix c) with q | q
      · refine q_t (nI_lt q (by omega)) ?_
        rw [e2, if_neg (by simp; omega), Nat.add_zero] at e; exact e
      · refine q_f (nI_nlt q (by omega)) ?_
        rw [or_step _ (by omega)]
        rw [e2, if_pos (by simp; exact q)] at e; exact e
  exact ⟨c + 1, L c 0 (by omega)⟩
theorem s0_fanciful {c mix fine : Nat} (hc : c ≤ 8) (hm : mix < 2 ^ c) (hf : fine ≤ 9) {post : Int32 → Prop}
    (p : post (nI (setTo (fun i => mix.testBit i || decide (fine < cnt mix)) c))) : wp_X0_fanciful (nI c) (nI fine) (nI mix) post := by
  refine s_bc (Nat.lt_of_lt_of_le hm (pow_le8 hc)) ?_
  have h8 := cnt_le mix
  rcases Nat.lt_or_ge fine (cnt mix) with q | q
  · refine q_f (nI_ge q (by omega)) (s0_all hc ?_)
    have e : setTo (fun i => mix.testBit i || decide (fine < cnt mix)) c = 2 ^ c - 1 := by
      rw [← setTo_true]; apply setTo_ext; intro i hi; simp [q]
    rw [← e]; exact p
  · refine q_t (nI_le q (by omega)) ?_
    have e : setTo (fun i => mix.testBit i || decide (fine < cnt mix)) c = mix := by
      rw [← setTo_self hm]; apply setTo_ext; intro i hi; rw [setTo_self hm]; simp [Nat.not_lt.mpr q]
    rw [e] at p; exact p
theorem rem3 {d : Nat} (hd : d ≤ 9999) : (nI d - nI d / (3 : Int32) * (3 : Int32)) = nI (d % 3) := pk_rem (by omega) (by decide) (by decide)
theorem rem2 {d : Nat} (hd : d ≤ 9999) : (nI d - nI d / (2 : Int32) * (2 : Int32)) = nI (d % 2) := pk_rem (by omega) (by decide) (by decide)
theorem s0_noticedAs {c mix fine kind day : Nat} (hc : c ≤ 8) (hm : mix < 2 ^ c) (hf : fine ≤ 9) (hk : kind < 5) (hd : day ≤ 9999) {milks : Nat → Int32} (h : okM c milks) {post : Int32 → Prop}
    (p : post (nI (nset kind fine day c (tn milks) mix))) : wp_X0_noticedAs (nI c) milks (nI day) (nI kind) (nI fine) (nI mix) post := by
  unfold wp_X0_noticedAs
  unfold nset at p
  rcases (show kind = 0 ∨ kind = 1 ∨ kind = 2 ∨ kind = 3 ∨ kind = 4 by omega) with rfl | rfl | rfl | rfl | rfl
  · refine q_f (by decide) (q_f (by decide) (q_f (by decide) (q_f (by decide) ?_)))
    have e : setTo (nb 0 fine day c (tn milks) mix) c = mix := setTo_self hm
    rw [e] at p; exact p
  · exact q_t (by decide) (s0_dull hc hm hf h p)
  · exact q_f (by decide) (q_t (by decide) (s0_fanciful hc hm hf p))
  · refine q_f (by decide) (q_f (by decide) (q_t (by decide) ?_))
    rw [rem3 hd]
    by_cases h3 : day % 3 = 0
    · refine n_f ((nI0 (by omega)).mpr h3) ?_
      have e : setTo (nb 3 fine day c (tn milks) mix) c = 0 := by
        rw [← setTo_false c]; apply setTo_ext; intro i hi; simp [nb, h3]
      rw [e] at p; exact p
    · refine n_t (fun q => h3 ((nI0 (by omega)).mp q)) (s0_dull hc hm hf h ?_)
      have e : setTo (nb 3 fine day c (tn milks) mix) c = setTo (fun i => mix.testBit i && decide (smk (tn milks) mix c ≤ tn milks i * fine)) c := by
        apply setTo_ext; intro i hi; simp [nb, h3]
      rw [← e]; exact p
  · refine q_f (by decide) (q_f (by decide) (q_f (by decide) (q_t (by decide) ?_)))
    rw [rem2 hd]
    by_cases h2 : day % 2 = 0
    · refine n_f ((nI0 (by omega)).mpr h2) (s0_fanciful hc hm hf ?_)
      have e : setTo (nb 4 fine day c (tn milks) mix) c = setTo (fun i => mix.testBit i || decide (fine < cnt mix)) c := by
        apply setTo_ext; intro i hi; simp [nb, h2]
      rw [← e]; exact p
    · refine n_t (fun q => h2 ((nI0 (by omega)).mp q)) (s0_all hc (s0_fanciful hc hm hf ?_))
      rw [andn (by have := Nat.two_pow_pos c; omega) hc]
      have e : setTo (nb 4 fine day c (tn milks) mix) c = setTo (fun i => (2 ^ c - 1).testBit i && !(setTo (fun i => mix.testBit i || decide (fine < cnt mix)) c).testBit i) c := by
        apply setTo_ext; intro i hi
        rw [Nat.testBit_two_pow_sub_one, setTo_bit]
        simp [nb, h2, hi]
      rw [← e]; exact p
def bi (b : Bool) : Int32 := if b then 1 else 0
theorem bi_t : bi true = 1 := rfl
theorem bi_f : bi false = 0 := rfl
theorem bi0 (b : Bool) : bi b = 0 ↔ b = false := by cases b <;> decide
theorem nar_bi (b : Bool) : narrow .boolean (.int (bi b)) = .int (bi b) := by cases b <;> rfl
theorem s8_j70 {now : Nat → Int32} {kind day : Nat} (hk : kind < 5) (hd : day ≤ 9999) (h0 : now 0 = nI day) (inn en fa : Bool) {post : Int32 → Prop}
    (p : post (bi (if kind = 0 then inn else if kind = 1 then en else if kind = 2 then fa else if kind = 3 then (en && !decide (day % 3 = 0)) else (fa == decide (day % 2 = 0))))) : wp_X8_noticesIn_J70 now (nI kind) (bi inn) (bi en) (bi fa) post := by
  unfold wp_X8_noticesIn_J70
  rw [h0, rem3 hd, rem2 hd]
  rcases (show kind = 0 ∨ kind = 1 ∨ kind = 2 ∨ kind = 3 ∨ kind = 4 by omega) with rfl | rfl | rfl | rfl | rfl
  · exact q_t (by decide) ⟨nar_bi _, p⟩
  · exact q_f (by decide) (q_t (by decide) ⟨nar_bi _, p⟩)
  · exact q_f (by decide) (q_f (by decide) (q_t (by decide) ⟨nar_bi _, p⟩))
  · refine q_f (by decide) (q_f (by decide) (q_f (by decide) (q_t (by decide) ?_)))
    cases en with
    | false => exact q_t rfl p
    | true =>
      refine q_f (by decide) ?_
      by_cases h3 : day % 3 = 0
      · refine q_t ((nI0 (by omega)).mpr h3) ?_
        simp [h3] at p; exact p
      · refine q_f (fun q => h3 ((nI0 (by omega)).mp q)) ?_
        simp [h3] at p; exact p
  · refine q_f (by decide) (q_f (by decide) (q_f (by decide) (q_f (by decide) ?_)))
    by_cases h2 : day % 2 = 0
    · refine n_f ((nI0 (by omega)).mpr h2) ?_
      cases fa with
      | true => simp [h2] at p; exact n_f rfl p
      | false => simp [h2] at p; exact n_t (by decide) p
    · refine n_t (fun q => h2 ((nI0 (by omega)).mp q)) ?_
      cases fa with
      | true => simp [h2] at p; exact n_t (by decide) p
      | false => simp [h2] at p; exact n_f rfl p
theorem s8_noticesIn {c t mix fine kind day i : Nat} (hc : c ≤ 8) (ht : t < 4) (hm : mix < 2 ^ c) (hf : fine ≤ 9) (hk : kind < 5) (hd : day ≤ 9999) (hi : i < c) {milks now : Nat → Int32} (h4 : now 4 = nI c) (h5 : ∀ i, i < c → now (5 + i) = milks i) (h : okM c milks)
    (hkd : now (14 + t) = nI kind) (hfn : now (18 + t) = nI fine) (h0 : now 0 = nI day) {post : Int32 → Prop} (p : post (bi (nb kind fine day c (tn milks) mix i))) : wp_X8_noticesIn now (nI t) (nI mix) (nI i) post := by
  have hm2 : mix < 2 ^ 31 := Nat.lt_of_lt_of_le hm (Nat.le_trans (pow_le8 hc) (by decide))
  have h256 : mix < 256 := Nat.lt_of_lt_of_le hm (pow_le8 hc)
  have hs : smk (tn milks) mix c ≤ c * 9 := smk_le h mix (Nat.le_refl c)
  have h8 := cnt_le mix
  have e14 : (14 : Int32) + nI t = nI (14 + t) := lit_add 14 t
  have e18 : (18 : Int32) + nI t = nI (18 + t) := lit_add 18 t
  have e5 : (5 : Int32) + nI i = nI (5 + i) := lit_add 5 i
  have hmk := h i hi
  have hb : tn milks i * fine ≤ 81 := Nat.le_trans (Nat.mul_le_mul hmk.2.2 hf) (by decide)
  -- what is left when 'in' and 'enough' are known
  have J45 : ∀ (inn en : Bool), inn = mix.testBit i → en = (mix.testBit i && decide (smk (tn milks) mix c ≤ tn milks i * fine)) → wp_X8_noticesIn_J45 now (nI t) (nI mix) (nI kind) (bi inn) (bi en) post := by
    intro inn en hin hen
    have q : ∀ fa : Bool, fa = (inn || decide (fine < cnt mix)) → wp_X8_noticesIn_J70 now (nI kind) (bi inn) (bi en) (bi fa) post := by
      intro fa hfa
      refine s8_j70 hk hd h0 inn en fa ?_
      rw [hfa, hen, hin]; exact p
    unfold wp_X8_noticesIn_J45
    cases inn with
    | true => exact n_t (by decide) (q true (by simp))
    | false =>
      refine n_f rfl (s_bits h256 ?_)
      rw [e18, nI_clamp (by omega), hfn]
      refine ⟨vp_in_nI (by omega) (by decide), ?_⟩
      rcases Nat.lt_or_ge fine (cnt mix) with z | z
      · exact q_f (nI_ge z (by omega)) (q true (by simp [z]))
      · exact q_t (nI_le z (by omega)) (q false (by simp [Nat.not_lt.mpr z]))
  unfold wp_X8_noticesIn
  rw [e14, nI_clamp (by omega), hkd, e5, e18, nI_clamp (by omega), nI_clamp (by omega), hfn, h5 i hi, hmk.1, pk_mul]
  refine ⟨vp_in_nI (by omega) (by decide), ?_⟩
  cases hbit : mix.testBit i with
  | false => exact s_has_f hm2 (by omega) hbit (q_t rfl (J45 false false hbit.symm (by rw [hbit]; rfl)))
  | true =>
    refine s_has_t hm2 (by omega) hbit (q_f ne10 ⟨vp_in_nI (by omega) (by decide), vp_in_nI (by omega) (by decide), s8_milkOf hc hm h4 h5 h ?_⟩)
    rcases Nat.lt_or_ge (tn milks i * fine) (smk (tn milks) mix c) with z | z
    · exact q_t (nI_lt z (by omega)) (J45 true false hbit.symm (by rw [hbit]; simp; omega))
    · exact q_f (nI_nlt z (by omega)) (J45 true true hbit.symm (by rw [hbit]; simp; exact z))
theorem s8_noticedBy {c t mix fine kind day : Nat} (hc : c ≤ 8) (ht : t < 4) (hm : mix < 2 ^ c) (hf : fine ≤ 9) (hk : kind < 5) (hd : day ≤ 9999) {milks now : Nat → Int32} (h4 : now 4 = nI c) (h5 : ∀ i, i < c → now (5 + i) = milks i) (h : okM c milks)
    (hkd : now (14 + t) = nI kind) (hfn : now (18 + t) = nI fine) (h0 : now 0 = nI day) {post : Int32 → Prop} (p : post (nI (nset kind fine day c (tn milks) mix))) : wp_X8_noticedBy now (nI t) (nI mix) post := by
  have L : ∀ (d k : Nat), k + d = c → wp_X8_noticedBy_L5 now (nI t) (nI mix) post (d + 1) (nI (setTo (nb kind fine day c (tn milks) mix) k)) (nI k) := by
    intro d
    induction d with
    | zero =>
      intro k hk2
      have : k = c := by omega
      subst this
      exact q_t (by rw [h4]; exact nI_le (Nat.le_refl _) (by omega)) p
    | succ d ih =>
      intro k hk2
      refine q_f (by rw [h4]; exact nI_ge (by omega) (by omega)) (s8_noticesIn hc ht hm hf hk hd (by omega) h4 h5 h hkd hfn h0 ?_)
      have e := ih (k + 1) (by omega)
      rw [← nI_succ]
      have e2 : setTo (nb kind fine day c (tn milks) mix) (k + 1) = setTo (nb kind fine day c (tn milks) mix) k + (if nb kind fine day c (tn milks) mix k = true then 2 ^ k else 0) := rfl
      cases hb : nb kind fine day c (tn milks) mix k with
      | true =>
        refine q_f (by decide) ?_
        rw [or_step _ (by omega)]
        rw [e2, if_pos hb] at e; exact e
      | false =>
        refine q_t rfl ?_
        rw [e2, if_neg (by rw [hb]; decide), Nat.add_zero] at e
        rw [show nI (setTo (nb kind fine day c (tn milks) mix) k) ||| 0 = nI (setTo (nb kind fine day c (tn milks) mix) k) from (fa_or _ 0).trans (by rw [Nat.or_zero])]
        exact e
  exact ⟨c + 1, L c 0 (by omega)⟩
