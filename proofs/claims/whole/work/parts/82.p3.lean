/-! pure part 3: bits, sums, what a taster notices -/
def cnt (m : Nat) : Nat := fb_ct (fun k => m.testBit k) 8
def bcv (x0 : Int32) : Int32 := ((((((((x0 - ((x0.toUInt32 >>> ((1 : Int32).toUInt32 &&& Int32.toUInt32 31)).toInt32 &&& (1431655765 : Int32))) &&& (858993459 : Int32)) + (((x0 - ((x0.toUInt32 >>> ((1 : Int32).toUInt32 &&& Int32.toUInt32 31)).toInt32 &&& (1431655765 : Int32))).toUInt32 >>> ((2 : Int32).toUInt32 &&& Int32.toUInt32 31)).toInt32 &&& (858993459 : Int32))) + ((((x0 - ((x0.toUInt32 >>> ((1 : Int32).toUInt32 &&& Int32.toUInt32 31)).toInt32 &&& (1431655765 : Int32))) &&& (858993459 : Int32)) + (((x0 - ((x0.toUInt32 >>> ((1 : Int32).toUInt32 &&& Int32.toUInt32 31)).toInt32 &&& (1431655765 : Int32))).toUInt32 >>> ((2 : Int32).toUInt32 &&& Int32.toUInt32 31)).toInt32 &&& (858993459 : Int32))).toUInt32 >>> ((4 : Int32).toUInt32 &&& Int32.toUInt32 31)).toInt32) &&& (252645135 : Int32)) + ((((((x0 - ((x0.toUInt32 >>> ((1 : Int32).toUInt32 &&& Int32.toUInt32 31)).toInt32 &&& (1431655765 : Int32))) &&& (858993459 : Int32)) + (((x0 - ((x0.toUInt32 >>> ((1 : Int32).toUInt32 &&& Int32.toUInt32 31)).toInt32 &&& (1431655765 : Int32))).toUInt32 >>> ((2 : Int32).toUInt32 &&& Int32.toUInt32 31)).toInt32 &&& (858993459 : Int32))) + ((((x0 - ((x0.toUInt32 >>> ((1 : Int32).toUInt32 &&& Int32.toUInt32 31)).toInt32 &&& (1431655765 : Int32))) &&& (858993459 : Int32)) + (((x0 - ((x0.toUInt32 >>> ((1 : Int32).toUInt32 &&& Int32.toUInt32 31)).toInt32 &&& (1431655765 : Int32))).toUInt32 >>> ((2 : Int32).toUInt32 &&& Int32.toUInt32 31)).toInt32 &&& (858993459 : Int32))).toUInt32 >>> ((4 : Int32).toUInt32 &&& Int32.toUInt32 31)).toInt32) &&& (252645135 : Int32)).toUInt32 >>> ((8 : Int32).toUInt32 &&& Int32.toUInt32 31)).toInt32) + (((((((x0 - ((x0.toUInt32 >>> ((1 : Int32).toUInt32 &&& Int32.toUInt32 31)).toInt32 &&& (1431655765 : Int32))) &&& (858993459 : Int32)) + (((x0 - ((x0.toUInt32 >>> ((1 : Int32).toUInt32 &&& Int32.toUInt32 31)).toInt32 &&& (1431655765 : Int32))).toUInt32 >>> ((2 : Int32).toUInt32 &&& Int32.toUInt32 31)).toInt32 &&& (858993459 : Int32))) + ((((x0 - ((x0.toUInt32 >>> ((1 : Int32).toUInt32 &&& Int32.toUInt32 31)).toInt32 &&& (1431655765 : Int32))) &&& (858993459 : Int32)) + (((x0 - ((x0.toUInt32 >>> ((1 : Int32).toUInt32 &&& Int32.toUInt32 31)).toInt32 &&& (1431655765 : Int32))).toUInt32 >>> ((2 : Int32).toUInt32 &&& Int32.toUInt32 31)).toInt32 &&& (858993459 : Int32))).toUInt32 >>> ((4 : Int32).toUInt32 &&& Int32.toUInt32 31)).toInt32) &&& (252645135 : Int32)) + ((((((x0 - ((x0.toUInt32 >>> ((1 : Int32).toUInt32 &&& Int32.toUInt32 31)).toInt32 &&& (1431655765 : Int32))) &&& (858993459 : Int32)) + (((x0 - ((x0.toUInt32 >>> ((1 : Int32).toUInt32 &&& Int32.toUInt32 31)).toInt32 &&& (1431655765 : Int32))).toUInt32 >>> ((2 : Int32).toUInt32 &&& Int32.toUInt32 31)).toInt32 &&& (858993459 : Int32))) + ((((x0 - ((x0.toUInt32 >>> ((1 : Int32).toUInt32 &&& Int32.toUInt32 31)).toInt32 &&& (1431655765 : Int32))) &&& (858993459 : Int32)) + (((x0 - ((x0.toUInt32 >>> ((1 : Int32).toUInt32 &&& Int32.toUInt32 31)).toInt32 &&& (1431655765 : Int32))).toUInt32 >>> ((2 : Int32).toUInt32 &&& Int32.toUInt32 31)).toInt32 &&& (858993459 : Int32))).toUInt32 >>> ((4 : Int32).toUInt32 &&& Int32.toUInt32 31)).toInt32) &&& (252645135 : Int32)).toUInt32 >>> ((8 : Int32).toUInt32 &&& Int32.toUInt32 31)).toInt32).toUInt32 >>> ((16 : Int32).toUInt32 &&& Int32.toUInt32 31)).toInt32) &&& (63 : Int32))
theorem bcv_ok : ∀ m, m < 256 → bcv (nI m) = nI (cnt m) := by decide +kernel
theorem s_bc {m : Nat} (hm : m < 256) {post : Int32 → Prop} (p : post (nI (cnt m))) : wp_J6_bitCount_0f7a4 (nI m) post := by
  show post (bcv (nI m))
  rw [bcv_ok m hm]; exact p
theorem cnt_le (m : Nat) : cnt m ≤ 8 := fb_ct_le _ 8
theorem bt_nI {n i : Nat} (hi : i < 32) : bt (nI n) i = n.testBit i := by
  show (BitVec.ofNat 32 n).getLsbD i = n.testBit i
  rw [BitVec.getLsbD_ofNat]; simp [hi]
theorem shb {m k : Nat} (hm : m < 2 ^ 31) (hk : k < 31) : (nI m >>> (nI k &&& 31)) &&& 1 = nI (if m.testBit k then 1 else 0) := by
  rw [pk_shrN hm _ k (s_l k (by omega))]
  have h2 : m / 2 ^ k ≤ m := Nat.div_le_self _ _
  rw [pk_andN (by omega) 1 (by decide), Nat.testBit_eq_decide_div_mod_eq]
  rcases Nat.mod_two_eq_zero_or_one (m / 2 ^ k) with h | h <;> simp [h]
theorem shb1 {m k : Nat} (hm : m < 2 ^ 31) (hk : k < 31) : ((nI m >>> (nI k &&& 31)) &&& 1 = 1) ↔ m.testBit k = true := by
  rw [shb hm hk]
  cases m.testBit k with
  | true => simp; rfl
  | false => simp; decide
theorem s_has_t {m k : Nat} (hm : m < 2 ^ 31) (hk : k < 31) (h : m.testBit k = true) {post : Int32 → Prop} (p : post 1) : wp_X8_has (nI m) (nI k) post := n_f ((shb1 hm hk).mpr h) p
theorem s_has_f {m k : Nat} (hm : m < 2 ^ 31) (hk : k < 31) (h : m.testBit k = false) {post : Int32 → Prop} (p : post 0) : wp_X8_has (nI m) (nI k) post := n_t (fun e => by rw [(shb1 hm hk).mp e] at h; cases h) p
theorem s_bitsL {m : Nat} (hm : m < 256) {post : Int32 → Prop} (p : post (nI (cnt m))) : ∀ (d k : Nat), k + d = 8 → wp_X8_bits_L4 (nI m) post (d + 1) (nI (fb_ct (fun k => m.testBit k) k)) (nI k) := by
  intro d
  induction d with
  | zero =>
    intro k hk
    have : k = 8 := by omega
    subst this
    exact q_t (by decide) p
  | succ d ih =>
    intro k hk
    refine q_f (nI_ge (a := k) (b := 8) (by omega) (by decide)) ?_
    rw [shb (by omega) (by omega), nI_add, ← nI_succ]
    exact ih (k + 1) (by omega)
theorem s_bits {m : Nat} (hm : m < 256) {post : Int32 → Prop} (p : post (nI (cnt m))) : wp_X8_bits (nI m) post := ⟨9, s_bitsL hm p 8 0 rfl⟩
/-- a set of the numbers below n as one number -/
def setTo (p : Nat → Bool) : Nat → Nat
  | 0 => 0
  | n + 1 => setTo p n + if p n then 2 ^ n else 0
theorem setTo_lt (p : Nat → Bool) : ∀ n, setTo p n < 2 ^ n
  | 0 => by simp [setTo]
  | n + 1 => by
    have := setTo_lt p n
    rw [setTo, Nat.pow_succ]
    split <;> omega
theorem setTo_bit (p : Nat → Bool) : ∀ n i, (setTo p n).testBit i = (decide (i < n) && p i)
  | 0, i => by simp [setTo]
  | n + 1, i => by
    have hl := setTo_lt p n
    have ih := setTo_bit p n i
    rw [setTo]
    cases h : p n with
    | true =>
      rw [if_pos rfl, ← Nat.or_two_pow_eq_add_of_lt hl, Nat.testBit_or, ih, Nat.testBit_two_pow]
      by_cases hi : n = i
      · subst hi; simp [h]
      · have : decide (i < n) = decide (i < n + 1) := decide_eq_decide.mpr ⟨by omega, by omega⟩
        simp [this, hi]
    | false =>
      simp only [Bool.false_eq_true, if_false, Nat.add_zero]
      rw [ih]
      by_cases hi : n = i
      · subst hi; simp [h]
      · have : decide (i < n) = decide (i < n + 1) := decide_eq_decide.mpr ⟨by omega, by omega⟩
        rw [this]
theorem setTo_ext {p q : Nat → Bool} : ∀ {n : Nat}, (∀ i, i < n → p i = q i) → setTo p n = setTo q n
  | 0, _ => rfl
  | n + 1, h => by rw [setTo, setTo, setTo_ext (fun i hi => h i (by omega)), h n (by omega)]
theorem bit_lt {m n i : Nat} (hm : m < 2 ^ n) (h : m.testBit i = true) : i < n := by
  rcases Nat.lt_or_ge i n with q | q
  · exact q
  · rw [Nat.testBit_lt_two_pow (Nat.lt_of_lt_of_le hm (Nat.pow_le_pow_right (by decide) q))] at h; cases h
theorem setTo_self {m n : Nat} (h : m < 2 ^ n) : setTo (fun i => m.testBit i) n = m := by
  apply Nat.eq_of_testBit_eq
  intro i
  rw [setTo_bit]
  cases hb : m.testBit i with
  | true => simp [bit_lt h hb]
  | false => simp
theorem setTo_true (n : Nat) : setTo (fun _ => true) n = 2 ^ n - 1 := by
  apply Nat.eq_of_testBit_eq
  intro i
  rw [setTo_bit, Nat.testBit_two_pow_sub_one, Bool.and_true]
theorem setTo_false (n : Nat) : setTo (fun _ => false) n = 0 := by
  apply Nat.eq_of_testBit_eq
  intro i
  rw [setTo_bit, Bool.and_false, Nat.zero_testBit]
theorem pow_le8 {c : Nat} (h : c ≤ 8) : 2 ^ c ≤ 256 := Nat.pow_le_pow_right (by decide) h
/-- a number below 2 ^ c and its set -/
theorem eq_setTo {a c : Nat} {p : Nat → Bool} (ha : a < 2 ^ c) (h : ∀ i, i < c → a.testBit i = p i) : a = setTo p c := by
  rw [← setTo_self ha]; exact setTo_ext h
theorem or_step (p : Nat → Bool) {n : Nat} (hn : n < 9) : nI (setTo p n) ||| ((1 : Int32) <<< (nI n &&& 31)) = nI (setTo p n + 2 ^ n) := by
  have e : (1 : Int32) <<< (nI n &&& 31) = nI (2 ^ n) := (by decide : ∀ n, n < 9 → (1 : Int32) <<< (nI n &&& 31) = nI (2 ^ n)) n hn
  rw [e, fa_or, Nat.or_two_pow_eq_add_of_lt (setTo_lt p n)]
theorem andn {a b c : Nat} (ha : a < 2 ^ c) (hc : c ≤ 8) : nI a &&& (nI b ^^^ (-1)) = nI (setTo (fun i => a.testBit i && !b.testBit i) c) := by
  apply b_ext
  intro i hi
  rw [b_and, b_xor, b_m1 i hi, bt_nI hi, bt_nI hi, bt_nI hi, setTo_bit]
  cases h : a.testBit i with
  | true => simp [bit_lt ha h]
  | false => simp
theorem nI_and (a b : Nat) : nI a &&& nI b = nI (a &&& b) := fa_and a b
/-- the milk of a set -/
def smk (mi : Nat → Nat) (m c : Nat) : Nat := fb_sm (fun i => if m.testBit i then mi i else 0) c
def tn (f : Nat → Int32) (i : Nat) : Nat := (f i).toNatClampNeg
def okM (c : Nat) (milks : Nat → Int32) : Prop := ∀ i, i < c → milks i = nI (tn milks i) ∧ 1 ≤ tn milks i ∧ tn milks i ≤ 9
theorem okM_of {c : Nat} {milks : Nat → Int32} (h : ∀ i, i < c → ∃ x, 1 ≤ x ∧ x ≤ 9 ∧ milks i = nI x) : okM c milks := by
  intro i hi
  obtain ⟨x, h1, h2, e⟩ := h i hi
  have : tn milks i = x := by unfold tn; rw [e, nI_clamp (by omega)]
  rw [this]; exact ⟨e, h1, h2⟩
theorem smk_le {c : Nat} {milks : Nat → Int32} (h : okM c milks) (m : Nat) {k : Nat} (hk : k ≤ c) : smk (tn milks) m k ≤ k * 9 := by
  apply fb_sm_bound
  intro i hi
  have := (h i (by omega)).2.2
  show (if m.testBit i then tn milks i else 0) ≤ 9
  split <;> omega
theorem s0_milkOf {c m : Nat} (hc : c ≤ 8) (hm : m < 2 ^ c) {milks : Nat → Int32} (h : okM c milks) {post : Int32 → Prop} (p : post (nI (smk (tn milks) m c))) : wp_X0_milkOf (nI c) milks (nI m) post := by
  have hm2 : m < 2 ^ 31 := Nat.lt_of_lt_of_le hm (Nat.le_trans (pow_le8 hc) (by decide))
  have L : ∀ (d k : Nat), k + d = c → wp_X0_milkOf_L4 (nI c) milks (nI m) post (d + 1) (nI (smk (tn milks) m k)) (nI k) := by
    intro d
    induction d with
    | zero =>
      intro k hk
      have : k = c := by omega
      subst this
      exact q_t (nI_le (Nat.le_refl _) (by omega)) p
    | succ d ih =>
      intro k hk
      refine q_f (nI_ge (by omega) (by omega)) ?_
      have e := ih (k + 1) (by omega)
      have e2 : smk (tn milks) m (k + 1) = smk (tn milks) m k + (if m.testBit k then tn milks k else 0) := rfl
      cases hb : m.testBit k with
      | true =>
        refine n_f ((shb1 hm2 (by omega)).mpr hb) ⟨vp_in_nI (by omega) (by decide), ?_⟩
        rw [nI_clamp (by omega), (h k (by omega)).1, nI_add, ← nI_succ]
        rw [e2, hb, if_pos rfl] at e; exact e
      | false =>
        refine n_t (fun q => by rw [(shb1 hm2 (by omega)).mp q] at hb; cases hb) ?_
        rw [← nI_succ]
        rw [e2, hb, if_neg (by decide), Nat.add_zero] at e; exact e
  exact ⟨c + 1, L c 0 (by omega)⟩
theorem s8_milkOf {c m : Nat} (hc : c ≤ 8) (hm : m < 2 ^ c) {milks now : Nat → Int32} (h4 : now 4 = nI c) (h5 : ∀ i, i < c → now (5 + i) = milks i) (h : okM c milks) {post : Int32 → Prop} (p : post (nI (smk (tn milks) m c))) : wp_X8_milkOf now (nI m) post := by
  have hm2 : m < 2 ^ 31 := Nat.lt_of_lt_of_le hm (Nat.le_trans (pow_le8 hc) (by decide))
  have L : ∀ (d k : Nat), k + d = c → wp_X8_milkOf_L4 now (nI m) post (d + 1) (nI (smk (tn milks) m k)) (nI k) := by
    intro d
    induction d with
    | zero =>
      intro k hk
      have : k = c := by omega
      subst this
      exact q_t (by rw [h4]; exact nI_le (Nat.le_refl _) (by omega)) p
    | succ d ih =>
      intro k hk
      refine q_f (by rw [h4]; exact nI_ge (by omega) (by omega)) ?_
      have e := ih (k + 1) (by omega)
      have e2 : smk (tn milks) m (k + 1) = smk (tn milks) m k + (if m.testBit k then tn milks k else 0) := rfl
      cases hb : m.testBit k with
      | true =>
        refine s_has_t hm2 (by omega) hb (n_t ne10 ?_ |> fun z => ⟨z.2, z.1⟩)
        rw [lit_add 5 k, nI_clamp (by omega), h5 k (by omega), (h k (by omega)).1, nI_add, ← nI_succ]
        rw [e2, hb, if_pos rfl] at e
        exact ⟨vp_in_nI (by omega) (by decide), e⟩
      | false =>
        refine s_has_f hm2 (by omega) hb (q_t rfl ?_)
        rw [← nI_succ, show nI (smk (tn milks) m k) + 0 = nI (smk (tn milks) m k) from nI_add _ 0]
        rw [e2, hb, if_neg (by decide), Nat.add_zero] at e; exact e
  exact ⟨c + 1, L c 0 (by omega)⟩
