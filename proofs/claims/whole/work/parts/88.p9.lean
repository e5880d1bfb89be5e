/-! pure part 9: sheets, the steps -/
theorem w_s {α : Type} {f : Nat → α} {k j : Nat} {x : α} (h : j = k) : va_up f k x j = x := by rw [h]; exact if_pos rfl
theorem w_n {α : Type} {f : Nat → α} {k j : Nat} {x : α} (h : j ≠ k) : va_up f k x j = f j := if_neg h
theorem w_id {α : Type} (f : Nat → α) (k : Nat) : va_up f k (f k) = f := by
  funext j
  by_cases h : j = k
  · rw [w_s h, h]
  · rw [w_n h]
theorem l_s {f : Nat → Int64} {k j : Nat} {x : Int64} (h : j = k) : vp_updL f k x j = x := by rw [h]; exact if_pos rfl
theorem l_n {f : Nat → Int64} {k j : Nat} {x : Int64} (h : j ≠ k) : vp_updL f k x j = f j := if_neg h
def SH (v : Nat → Int32) (f : Nat → Nat → Int32) (g : Nat → Nat → Int64) : Prop := ∀ j, j < 4 → SR (v (29 + j)) (v (33 + j)) (g j) (f 26 j) (f 27 j) (fun i => g 4 (24 * j + i))
theorem SR_mi {l s ml ms : Int32} {it mi mi' : Nat → Int64} (h : SR l s it ml ms mi) (e : ∀ x, x < 24 → mi' x = mi x) : SR l s it ml ms mi' := by
  rcases h with h | ⟨a, n, h1, h2, h3, h4, h5, h6, h7⟩
  · exact Or.inl h
  · exact Or.inr ⟨a, n, h1, h2, h3, h4, h5, h6, fun i hi => (h7 i hi).trans (e i hi).symm⟩
theorem RR_SH {v : Nat → Int32} {f : Nat → Nat → Int32} {g : Nat → Nat → Int64} (h : RR v f g) : SH v f g := by
  obtain ⟨_, _, _, s0, s1, s2, s3⟩ := h
  intro j hj
  rcases (show j = 0 ∨ j = 1 ∨ j = 2 ∨ j = 3 by omega) with rfl | rfl | rfl | rfl
  · exact SR_mi s0 (fun x _ => by rw [show 24 * 0 + x = x by omega])
  · exact s1
  · exact s2
  · exact s3
theorem RR_mk {v v' : Nat → Int32} {f f' : Nat → Nat → Int32} {g g' : Nat → Nat → Int64} (h : RR v f g) (hv : ∀ i, i < 29 ∨ 37 ≤ i → v' i = v i) (hf : ∀ i, i ≠ 26 → i ≠ 27 → f' i = f i) (hs : SH v' f' g') : RR v' f' g' := by
  obtain ⟨hD, hK, hT, _⟩ := h
  refine ⟨?_, ?_, ?_, SR_mi (hs 0 (by decide)) (fun x _ => by rw [show 24 * 0 + x = x by omega]), hs 1 (by decide), hs 2 (by decide), hs 3 (by decide)⟩
  · rw [hv 1 (by decide), hv 2 (by decide), hv 3 (by decide), hv 4 (by decide), hv 5 (by decide), hv 6 (by decide), hv 7 (by decide), hv 8 (by decide), hf 0 (by decide) (by decide), hf 1 (by decide) (by decide), hf 2 (by decide) (by decide), hf 3 (by decide) (by decide), hf 4 (by decide) (by decide), hf 5 (by decide) (by decide), hf 6 (by decide) (by decide), hf 29 (by decide) (by decide)]
    exact hD
  · rw [hv 0 (by decide), hv 40 (by decide), hv 9 (by decide), hv 10 (by decide), hv 11 (by decide), hv 12 (by decide), hv 13 (by decide), hv 14 (by decide), hv 15 (by decide), hv 16 (by decide), hf 7 (by decide) (by decide), hf 8 (by decide) (by decide), hf 9 (by decide) (by decide), hf 10 (by decide) (by decide), hf 11 (by decide) (by decide), hf 12 (by decide) (by decide), hf 13 (by decide) (by decide), hf 32 (by decide) (by decide)]
    exact hK
  · rw [hv 17 (by decide), hv 37 (by decide), hf 14 (by decide) (by decide), hf 28 (by decide) (by decide)]
    exact hT
theorem SH_up {v v' : Nat → Int32} {f f' : Nat → Nat → Int32} {g g' : Nat → Nat → Int64} (h : SH v f g) {j : Nat} (h1 : ∀ i, i < 4 → i ≠ j → v' (29 + i) = v (29 + i)) (h2 : ∀ i, i < 4 → i ≠ j → v' (33 + i) = v (33 + i)) (h3 : ∀ i, i < 4 → i ≠ j → g' i = g i) (h4 : ∀ i, i < 4 → i ≠ j → f' 26 i = f 26 i) (h5 : ∀ i, i < 4 → i ≠ j → f' 27 i = f 27 i) (h6 : ∀ i x, i < 4 → i ≠ j → x < 24 → g' 4 (24 * i + x) = g 4 (24 * i + x)) (hn : SR (v' (29 + j)) (v' (33 + j)) (g' j) (f' 26 j) (f' 27 j) (fun i => g' 4 (24 * j + i))) : SH v' f' g' := by
  intro i hi
  by_cases e : i = j
  · subst e; exact hn
  · rw [h1 i hi e, h2 i hi e, h3 i hi e, h4 i hi e, h5 i hi e]
    exact SR_mi (h i hi) (fun x hx => h6 i x hi e hx)
theorem clam {i : Nat} (h : i < 4) : (nI i).toNatClampNeg = i := nI_clamp (by omega)
theorem ix24 (j m : Nat) : (24 : Int32) * nI j + nI m = nI (24 * j + m) := by rw [show (24 : Int32) * nI j = nI (24 * j) from pk_mul 24 j, nI_add]
theorem st_drop : Step_drop RR := by
  intro v f g x1 j hsj keep
  have hS := RR_SH keep
  rcases ix x1 (n := 4) (by decide) with h | ⟨i, hi, rfl⟩
  · exact s7s_bad h (n_f rfl (s8s_bad h (n_f rfl ⟨rfl, by rw [w_id, w_id]; exact keep⟩)))
  · have e := SJ_eq hi hsj; subst e
    have ei := clam hi
    rcases hS i hi with ⟨hs, hl⟩ | ⟨l, n, hl, hn, e1, e2, e3, e4, e5⟩
    · refine s7s_ok hi (n_t ne10 ⟨x_in1 hi, n_f hs (s8s_ok hi (n_t ne10 ⟨x_in1 hi, q_f ?_ ⟨rfl, ?_⟩⟩))⟩)
      · rw [ei, hl]; decide
      · rw [w_id, w_id]; exact keep
    · have ns : ¬ v (33 + i) = (-1 : Int32) := fun e => nI_pos (n := n) (by omega) (by rw [← e3, e]; decide)
      refine s7s_ok hi (n_t ne10 ⟨x_in1 hi, n_t ns ⟨x_in1 hi, s8s_ok hi (n_t ne10 ⟨x_in1 hi, q_t ?_ ⟨x_in1 hi, x_in1 hi, ?_, ?_⟩⟩)⟩⟩)
      · rw [ei, e2]; exact nI_pos' (by omega)
      · rw [ei, e3, e4]
      · rw [ei]
        refine RR_mk keep (fun x hx => w_n (by omega)) (fun x hx _ => w_n hx) (SH_up hS (j := i) (fun x hx hn => w_n (by omega)) (fun x hx hn => w_n (by omega)) (fun x hx hn => rfl) (fun x hx hn => ?_) (fun x hx hn => ?_) (fun x y hx hn hy => rfl) (Or.inl ⟨w_s rfl, ?_⟩))
        · rw [w_s rfl, u_n hn]
        · rw [w_n (by decide)]
        · rw [w_s rfl, u_s rfl]
theorem s_renew {lane size : Int32} {items : Nat → Int64} {post : Int32 → Int32 → (Nat → Int64) → Prop} (p : ∀ it : Nat → Int64, (∀ x, x < 24 → it x = 0) → post lane size it) : wp_X4_renew items lane size post := by
  have L : ∀ (d m : Nat) (it : Nat → Int64), m + d = 24 → (∀ x, x < m → it x = 0) → wp_X4_renew_L12 lane size post (d + 1) it (nI m) := by
    intro d
    induction d with
    | zero =>
      intro m it hm hz
      have : m = 24 := by omega
      subst this
      exact q_t (by decide) (p it hz)
    | succ d ih =>
      intro m it hm hz
      refine q_f (nI_ge (a := m) (b := 24) (by omega) (by decide)) ⟨vp_in_nI (by omega) (by decide), ?_⟩
      rw [nI_clamp (by omega), ← nI_succ]
      refine ih (m + 1) _ (by omega) (fun x hx => ?_)
      by_cases e : x = m
      · rw [l_s e]
      · rw [l_n e]; exact hz x (by omega)
  exact ⟨25, L 24 0 items rfl (fun x hx => absurd hx (by omega))⟩
theorem s_renew8 {ml ms : Nat → Int32} {mi : Nat → Int64} {i : Nat} (hi : i < 4) {x3 : Int32} {post : Int32 → (Nat → Int32) → (Nat → Int32) → (Nat → Int64) → Prop} (p : ∀ it : Nat → Int64, (∀ x, x < 24 → it (24 * i + x) = 0) → (∀ y, y < 24 * i ∨ 24 * i + 24 ≤ y → it y = mi y) → post x3 ml ms it) : ∃ n, wp_X8_sheet_L48 ml ms (nI i) x3 post n mi 0 := by
  have L : ∀ (d m : Nat) (it : Nat → Int64), m + d = 24 → (∀ x, x < m → it (24 * i + x) = 0) → (∀ y, y < 24 * i ∨ 24 * i + 24 ≤ y → it y = mi y) → wp_X8_sheet_L48 ml ms (nI i) x3 post (d + 1) it (nI m) := by
    intro d
    induction d with
    | zero =>
      intro m it hm hz hr
      have : m = 24 := by omega
      subst this
      exact q_t (by decide) (p it hz hr)
    | succ d ih =>
      intro m it hm hz hr
      refine q_f (nI_ge (a := m) (b := 24) (by omega) (by decide)) ?_
      rw [ix24, nI_clamp (by omega), ← nI_succ]
      refine ⟨vp_in_nI (by omega) (by decide), ih (m + 1) _ (by omega) (fun x hx => ?_) (fun y hy => ?_)⟩
      · by_cases e : x = m
        · rw [l_s (by omega)]
        · rw [l_n (by omega)]; exact hz x (by omega)
      · rw [l_n (by omega)]; exact hr y hy
  exact ⟨25, L 24 0 mi rfl (fun x hx => absurd hx (by omega)) (fun y _ => rfl)⟩
theorem st_sheet : Step_sheet RR := by
  intro v f g x1 x2 x3 j hsj keep
  have hS := RR_SH keep
  have kk : RR (va_up (va_up v (29 + j) (v (29 + j))) (33 + j) (v (33 + j))) (va_up (va_up f 26 (f 26)) 27 (f 27)) (va_up (va_up g j (g j)) 4 (g 4)) := by
    rw [w_id, w_id, w_id, w_id, w_id, w_id]; exact keep
  rcases ix x1 (n := 4) (by decide) with h | ⟨i, hi, rfl⟩
  · exact s7l_bad1 h (q_t rfl (s8s_bad h (q_t rfl ⟨rfl, kk⟩)))
  have e := SJ_eq hi hsj; subst e
  rcases ix x2 (n := 4) (by decide) with h | ⟨l, hl, rfl⟩
  · exact s7l_bad hi h (q_t rfl (s8s_ok hi (q_f ne10 (in3_bad h (q_t rfl ⟨rfl, kk⟩)))))
  refine s7l_ok hi hl (q_f ne10 ?_)
  by_cases h24 : x3 ≤ 24
  · refine q_t h24 ?_
    by_cases h0 : 0 ≤ x3
    · refine q_t h0 ⟨x_in1 hi, s_renew (fun it hz => ?_)⟩
      obtain ⟨n, hn, rfl⟩ := nI_of (x := x3) (by rw [fa_lt]; rw [fa_le] at h0; omega)
      have hn24 : n ≤ 24 := by rw [fa_le, nI_toInt hn] at h24; have : ((24 : Int32)).toInt = 24 := by decide
                               omega
      refine s8s_ok hi (q_f ne10 (in3_ok hl (q_f ne10 (q_t h24 (q_t h0 ⟨x_in1 hi, x_in1 hi, s_renew8 hi (fun it' hz' hr => ⟨rfl, ?_⟩)⟩)))))
      rw [clam hi]
      refine RR_mk keep (fun x hx => by rw [w_n (by omega), w_n (by omega)]) (fun x hx hx' => by rw [w_n hx', w_n hx]) (SH_up hS (j := i) (fun x hx hn => by rw [w_n (by omega), w_n (by omega)]) (fun x hx hn => by rw [w_n (by omega), w_n (by omega)]) (fun x hx hn => by rw [w_n (by omega), w_n hn]) (fun x hx hn => ?_) (fun x hx hn => ?_) (fun x y hx hn hy => ?_) (Or.inr ⟨l, n, hl, hn24, ?_, ?_, ?_, ?_, fun x hx => ?_⟩))
      · rw [w_n (by decide), w_s rfl, u_n hn]
      · rw [w_s rfl, u_n hn]
      · rw [w_s rfl]; exact hr _ (by omega)
      · rw [w_n (by omega), w_s rfl]
      · rw [w_n (by decide), w_s rfl, u_s rfl]
      · rw [w_s rfl]
      · rw [w_s rfl, u_s rfl]
      · dsimp only
        rw [w_n (by omega), w_s rfl, w_s rfl, hz x hx, hz' x hx]
    · exact q_f h0 (s8s_ok hi (q_f ne10 (in3_ok hl (q_f ne10 (q_t h24 (q_f h0 ⟨rfl, kk⟩))))))
  · exact q_f h24 (s8s_ok hi (q_f ne10 (in3_ok hl (q_f ne10 (q_f h24 ⟨rfl, kk⟩)))))
def cutv (l : Nat) (x : Int64) : Int64 := if l = 0 then (x.toInt32.toInt8.toInt32).toInt64 else if l = 1 then (x.toInt32.toInt16.toInt32).toInt64 else if l = 2 then x.toInt32.toInt64 else x
theorem s_put {l a : Nat} (hl : l < 4) (ha : a < 24) {lane : Int32} (e : lane = nI l) {items : Nat → Int64} {x : Int64} {post : (Nat → Int64) → Prop} (p : post (vp_updL items a (cutv l x))) : wp_X4_put lane items (nI a) x post := by
  unfold wp_X4_put
  rw [e, nI_clamp (by omega)]
  have hv : vp_in (nI a) 24 := vp_in_nI ha (by decide)
  rcases (show l = 0 ∨ l = 1 ∨ l = 2 ∨ l = 3 by omega) with rfl | rfl | rfl | rfl
  · exact q_t (by decide) ⟨hv, p⟩
  · exact q_f (by decide) (q_t (by decide) ⟨hv, p⟩)
  · exact q_f (by decide) (q_f (by decide) (q_t (by decide) ⟨hv, p⟩))
  · exact q_f (by decide) (q_f (by decide) (q_f (by decide) ⟨hv, p⟩))
theorem s_cutTo {l : Nat} (hl : l < 4) {x : Int64} {post : Int64 → Prop} (p : post (cutv l x)) : wp_X8_cutTo (nI l) x post := by
  unfold wp_X8_cutTo
  rcases (show l = 0 ∨ l = 1 ∨ l = 2 ∨ l = 3 by omega) with rfl | rfl | rfl | rfl
  · exact n_f (by decide) p
  · exact n_t (by decide) (n_f (by decide) p)
  · exact n_t (by decide) (n_t (by decide) (n_f (by decide) p))
  · exact n_t (by decide) (n_t (by decide) (n_t (by decide) p))
theorem st_item : Step_item RR := by
  intro v f g x1 x2 x3 x4 j hsj keep
  have hS := RR_SH keep
  have kk : RR v f (va_up (va_up g j (g j)) 4 (g 4)) := by rw [w_id, w_id]; exact keep
  rcases ix x1 (n := 4) (by decide) with h | ⟨i, hi, rfl⟩
  · exact s7l_bad1 h (n_f rfl (s8s_bad h (q_t rfl ⟨rfl, kk⟩)))
  have e := SJ_eq hi hsj; subst e
  rcases ix x2 (n := 4) (by decide) with h | ⟨l, hl, rfl⟩
  · exact s7l_bad hi h (n_f rfl (s8s_ok hi (q_f ne10 (in3_bad h (n_f rfl ⟨rfl, kk⟩)))))
  refine s7l_ok hi hl (n_t ne10 ⟨x_in1 hi, ?_⟩)
  rcases s_refuse hi hl (hS i hi) x3 1 with ⟨r, hr, hr7, hr8⟩ | ⟨n, a, b, hn, hl1, hl2, hs1, hs2, hit, rfl, hb, hab, hr7, hr8⟩
  · exact hr7 _ (q_f hr (s8s_ok hi (q_f ne10 (in3_ok hl (n_t ne10 (hr8 _ (q_f hr ⟨rfl, kk⟩)))))))
  · have hb1 : b = 1 := by
      rcases Nat.lt_or_ge b (2 ^ 31) with q | q
      · exact (nIk b 1 q (by decide)).mp hb.symm
      · omega
    subst hb1
    refine hr7 _ (q_t rfl ⟨x_in1 hi, s_put hl (by omega) hl1 (s8s_ok hi (q_f ne10 (in3_ok hl (n_t ne10 (hr8 _ (q_t rfl ?_))))))⟩)
    rw [ix24, nI_clamp (by omega)]
    have hv : vp_in (nI (24 * i + a)) 96 := vp_in_nI (by omega) (by decide)
    have G : RR v f (va_up (va_up g i (vp_updL (g i) a (cutv l x4))) 4 (vp_updL (g 4) (24 * i + a) (cutv l x4))) := by
      refine RR_mk keep (fun x hx => rfl) (fun x hx hx' => rfl) (SH_up hS (j := i) (fun x hx hn => rfl) (fun x hx hn => rfl) (fun x hx hn => by rw [w_n (by omega), w_n hn]) (fun x hx hn => rfl) (fun x hx hn => rfl) (fun x y hx hn hy => ?_) (Or.inr ⟨l, n, hl, hn, hl1, hl2, hs1, hs2, fun x hx => ?_⟩))
      · rw [w_s rfl, l_n (by omega)]
      · dsimp only
        rw [w_n (by omega), w_s rfl, w_s rfl]
        by_cases e : x = a
        · rw [l_s e, l_s (by omega)]
        · rw [l_n e, l_n (by omega)]; exact hit x hx
    rcases (show l = 0 ∨ l = 1 ∨ l = 2 ∨ l = 3 by omega) with rfl | rfl | rfl | rfl
    · exact n_f (by decide) ⟨hv, rfl, G⟩
    · exact n_t (by decide) (n_f (by decide) ⟨hv, rfl, G⟩)
    · exact n_t (by decide) (n_t (by decide) (n_f (by decide) ⟨hv, rfl, G⟩))
    · exact n_t (by decide) (n_t (by decide) (n_t (by decide) ⟨hv, rfl, G⟩))
theorem fbL_succ (f g : Nat → Int64) (a n : Nat) : vp_updL (fb_put f g a n) (a + n) (g n) = fb_put f g a (n + 1) := by
  funext k
  by_cases e : k = a + n
  · rw [l_s e, fb_put_in (by omega) (by omega)]; congr 1; omega
  · rw [l_n e]
    by_cases h : a ≤ k ∧ k < a + n
    · rw [fb_put_in h.1 h.2, fb_put_in h.1 (by omega)]
    · rw [fb_put_out (by omega), fb_put_out (by omega)]
theorem st_film : Step_film RR := by
  intro v f g x1 x2 x3 x4 x5 j hsj keep
  have hS := RR_SH keep
  have kk : RR v f (va_up (va_up g j (g j)) 4 (g 4)) := by rw [w_id, w_id]; exact keep
  obtain ⟨⟨c, t, w, k, hD⟩, hK, hT, -⟩ := id keep
  obtain ⟨⟨hc, ht, hw, hk⟩, ⟨e1, e2, e3, e4⟩, ⟨m4, m13, m22⟩, hmi, hta, ⟨q0, q1, q2, q3, hM⟩, hpast⟩ := id hD
  obtain ⟨hok, h5⟩ := DR_okM hD
  have hp := pow_le8 hc
  rcases ix x1 (n := t) (by omega) with h | ⟨tt, htt, rfl⟩
  · exact s7t_bad e2 h (q_t rfl (s8_isTaster_bad m13 ht h (q_t rfl ⟨rfl, kk⟩)))
  refine s7t_ok e2 ht htt (q_f ne10 ?_)
  rcases rng x2 1 24 (by decide) (by decide) with h | ⟨h, h2⟩ | ⟨n, n1, n24, rfl, h, h2⟩
  · exact q_t h (s8_isTaster_ok m13 ht htt (q_f ne10 (s_in_lo h (q_t rfl ⟨rfl, kk⟩))))
  · exact q_f h (q_t h2 (s8_isTaster_ok m13 ht htt (q_f ne10 (s_in_hi h h2 (q_t rfl ⟨rfl, kk⟩)))))
  refine q_f h (q_f h2 ?_)
  rcases Nat.lt_or_ge (2 ^ c - 1) n with hn | hn
  · have hlt : nI (2 ^ c - 1) < nI n := nI_lt hn (by omega)
    exact s7_isMix_bad e1 hc (Or.inr hlt) (q_t rfl (s8_isTaster_ok m13 ht htt (q_f ne10 (s_in_ok h h2 (q_f ne10 (s8_all hc m4 (q_t hlt ⟨rfl, kk⟩)))))))
  have h2c : 0 < 2 ^ c := Nat.two_pow_pos c
  have hnl : ¬ nI (2 ^ c - 1) < nI n := nI_nlt hn (by omega)
  refine s7_isMix_ok e1 hc n1 (by omega) (q_f ne10 ?_)
  rcases ix x3 (n := 4) (by decide) with h3 | ⟨i, hi, rfl⟩
  · exact s7l_bad1 h3 (n_f rfl (s8_isTaster_ok m13 ht htt (q_f ne10 (s_in_ok h h2 (q_f ne10 (s8_all hc m4 (q_f hnl (s8s_bad h3 (q_t rfl ⟨rfl, kk⟩)))))))))
  have e := SJ_eq hi hsj; subst e
  rcases ix x4 (n := 4) (by decide) with h4 | ⟨l, hl, rfl⟩
  · exact s7l_bad hi h4 (n_f rfl (s8_isTaster_ok m13 ht htt (q_f ne10 (s_in_ok h h2 (q_f ne10 (s8_all hc m4 (q_f hnl (s8s_ok hi (q_f ne10 (in3_bad h4 (n_f rfl ⟨rfl, kk⟩)))))))))))
  refine s7l_ok hi hl (n_t ne10 ⟨x_in1 hi, ?_⟩)
  rcases s_refuse hi hl (hS i hi) x5 (nI n) with ⟨r, hr, hr7, hr8⟩ | ⟨n', a, b, hn', hl1, hl2, hs1, hs2, hit, rfl, hb, hab, hr7, hr8⟩
  · exact hr7 _ (q_f hr (s8_isTaster_ok m13 ht htt (q_f ne10 (s_in_ok h h2 (q_f ne10 (s8_all hc m4 (q_f hnl (s8s_ok hi (q_f ne10 (in3_ok hl (n_t ne10 (hr8 _ (q_f hr ⟨rfl, kk⟩)))))))))))))
  have hbn : b = n := by
    rcases Nat.lt_or_ge b (2 ^ 31) with q | q
    · exact ((nI_eq (by omega) q).mp hb).symm
    · omega
  subst hbn
  obtain ⟨kd, fn, d, hkd, hfn1, hfn, hd, ek, ef, nk, nf, ed, nd⟩ := tas hD htt
  refine hr7 _ (q_t rfl ?_)
  -- the items that come
  have VL : ∃ val : Nat → Int64, (∀ m, val m = cutv l ((nI (nset kd fn d c (tn (f 0)) (m + 1)) &&& v 5).toInt64)) := ⟨_, fun m => rfl⟩
  obtain ⟨val, hval⟩ := VL
  have C : ∀ (post : Int32 → (Nat → Int64) → Prop), post (nI b) (fb_put (g i) val a b) → ∀ (dd m : Nat), m + dd = b → wp_X7_film_L65 (v 1) (f 0) (f 1) (f 2) (v 5) (v 7) (v (29 + i)) (nI tt) (nI b) (nI i) (nI a) post (dd + 1) (fb_put (g i) val a m) (nI (m + 1)) := by
    intro post p dd
    induction dd with
    | zero =>
      intro m hm
      have : m = b := by omega
      subst this
      exact q_t (nI_lt (by omega) (by omega)) p
    | succ dd ih =>
      intro m hm
      refine q_f (nI_nlt (by omega) (by omega)) ⟨x_in1 hi, s0_noticedBy hD htt (by omega) hkd hfn hd ek ef ed ?_⟩
      rw [nI_add, show a + (m + 1) = a + m + 1 by omega, nI_pred, ← nI_succ]
      refine s_put hl (by omega) hl1 ?_
      rw [← hval m, fbL_succ]
      exact ih (m + 1) (by omega)
  have D : ∀ (post : Int32 → (Nat → Int64) → Prop), post (nI b) (fb_put (g 4) val (24 * i + a) b) → ∀ (dd m : Nat), m + dd = b → wp_X8_film_L71 (f 29) (nI tt) (nI b) (nI i) (nI l) (nI a) post (dd + 1) (fb_put (g 4) val (24 * i + a) m) (nI m) := by
    intro post p dd
    induction dd with
    | zero =>
      intro m hm
      have : m = b := by omega
      subst this
      exact q_t (nI_le (Nat.le_refl _) (by omega)) p
    | succ dd ih =>
      intro m hm
      refine q_f (nI_ge (by omega) (by omega)) ?_
      rw [ix24, nI_add, nI_clamp (by omega), ← nI_succ]
      refine s8_noticedBy hc (by omega) (by omega) hfn hkd hd m4 h5 hok nk nf nd (s_cutTo hl ⟨vp_in_nI (by omega) (by decide), ?_⟩)
      rw [q0, ← hval m, fbL_succ]
      exact ih (m + 1) (by omega)
  refine ⟨b + 1, ?_⟩
  have z := C (fun r1 s_items' => wp_X8_film (f 26) (f 27) (g 4) (f 29) (nI tt) (nI b) (nI i) (nI l) (nI a) (fun r2 m_item' => r1 = r2 ∧ RR v f (va_up (va_up g i s_items') 4 m_item'))) ?_ b 0 (by omega)
  · rw [fb_put_0] at z; exact z
  refine s8_isTaster_ok m13 ht htt (q_f ne10 (s_in_ok h h2 (q_f ne10 (s8_all hc m4 (q_f hnl (s8s_ok hi (q_f ne10 (in3_ok hl (n_t ne10 (hr8 _ (q_t rfl ⟨b + 1, ?_⟩)))))))))))
  have z := D (fun r2 m_item' => nI b = r2 ∧ RR v f (va_up (va_up g i (fb_put (g i) val a b)) 4 m_item')) ⟨rfl, ?_⟩ b 0 (by omega)
  · rw [fb_put_0] at z; exact z
  refine RR_mk keep (fun x hx => rfl) (fun x hx hx' => rfl) (SH_up hS (j := i) (fun x hx hn => rfl) (fun x hx hn => rfl) (fun x hx hn => by rw [w_n (by omega), w_n hn]) (fun x hx hn => rfl) (fun x hx hn => rfl) (fun x y hx hn hy => ?_) (Or.inr ⟨l, n', hl, hn', hl1, hl2, hs1, hs2, fun x hx => ?_⟩))
  · rw [w_s rfl, fb_put_out (by omega)]
  · dsimp only
    rw [w_n (by omega), w_s rfl, w_s rfl]
    by_cases e : a ≤ x ∧ x < a + b
    · rw [fb_put_in e.1 e.2, fb_put_in (by omega) (by omega)]; congr 1; omega
    · rw [fb_put_out (by omega), fb_put_out (by omega)]; exact hit x hx
/-- a copy within the model's items, upwards -/
theorem cp_up {mi : Nat → Int64} {i j a b n : Nat} (h1 : 24 * j + a + n ≤ 96) (h2 : 24 * i + b + n ≤ 96) (ho : 24 * i + b ≤ 24 * j + a ∨ 24 * j + a + n ≤ 24 * i + b) {post : Int32 → (Nat → Int64) → Prop}
    (p : post (nI n) (fb_put mi (fun x => mi (24 * j + a + x)) (24 * i + b) n)) : ∃ k, wp_X8_copy_L110 (nI j) (nI a) (nI i) (nI b) (nI n) 0 post k mi 0 := by
  have L : ∀ (d m : Nat), m + d = n → wp_X8_copy_L110 (nI j) (nI a) (nI i) (nI b) (nI n) 0 post (d + 1) (fb_put mi (fun x => mi (24 * j + a + x)) (24 * i + b) m) (nI m) := by
    intro d
    induction d with
    | zero =>
      intro m hm
      have : m = n := by omega
      subst this
      exact q_t (nI_le (Nat.le_refl _) (by omega)) p
    | succ d ih =>
      intro m hm
      refine q_f (nI_ge (by omega) (by omega)) (q_t rfl ?_)
      unfold wp_X8_copy_J134
      rw [ix24, ix24, nI_add, nI_add, nI_clamp (by omega), nI_clamp (by omega), ← nI_succ]
      refine ⟨vp_in_nI (by omega) (by decide), vp_in_nI (by omega) (by decide), ?_⟩
      have e := ih (m + 1) (by omega)
      rw [← fbL_succ] at e
      rw [fb_put_out (k := 24 * j + a + m) (by omega)]; exact e
  exact ⟨n + 1, by have := L n 0 (by omega); rw [fb_put_0] at this; exact this⟩
theorem cp_dn {mi : Nat → Int64} {i j a b n : Nat} (h1 : 24 * j + a + n ≤ 96) (h2 : 24 * i + b + n ≤ 96) (ho : 24 * j + a < 24 * i + b) {post : Int32 → (Nat → Int64) → Prop}
    (p : post (nI n) (fb_put mi (fun x => mi (24 * j + a + x)) (24 * i + b) n)) : ∃ k, wp_X8_copy_L110 (nI j) (nI a) (nI i) (nI b) (nI n) 1 post k mi 0 := by
  have L : ∀ (d : Nat) (it : Nat → Int64) (m : Nat), m + d = n → (∀ x, x < 24 * i + b + d ∨ 24 * i + b + n ≤ x → it x = mi x) → (∀ x, 24 * i + b + d ≤ x → x < 24 * i + b + n → it x = mi (24 * j + a + (x - (24 * i + b)))) → wp_X8_copy_L110 (nI j) (nI a) (nI i) (nI b) (nI n) 1 post (d + 1) it (nI m) := by
    intro d
    induction d with
    | zero =>
      intro it m hm ha hb
      have : m = n := by omega
      subst this
      refine q_t (nI_le (Nat.le_refl _) (by omega)) ?_
      have e : it = fb_put mi (fun x => mi (24 * j + a + x)) (24 * i + b) m := by
        funext x
        by_cases h : 24 * i + b ≤ x ∧ x < 24 * i + b + m
        · rw [fb_put_in h.1 h.2]; exact hb x h.1 h.2
        · rw [fb_put_out (by omega)]; exact ha x (by omega)
      rw [e]; exact p
    | succ d ih =>
      intro it m hm ha hb
      refine q_f (nI_ge (by omega) (by omega)) (q_f ne10 ?_)
      have e : nI n - 1 - nI m = nI d := by
        obtain ⟨n', rfl⟩ : ∃ n', n = n' + 1 := ⟨n - 1, by omega⟩
        rw [nI_pred]
        rw [fa_eq, fb_subI] <;> rw [nI_toInt (by omega), nI_toInt (by omega)] <;> first | (rw [nI_toInt (by omega)]; omega) | omega
      unfold wp_X8_copy_J134
      rw [e, ix24, ix24, nI_add, nI_add, nI_clamp (by omega), nI_clamp (by omega), ← nI_succ]
      refine ⟨vp_in_nI (by omega) (by decide), vp_in_nI (by omega) (by decide), ih _ (m + 1) (by omega) (fun x hx => ?_) (fun x hx hx' => ?_)⟩
      · rw [l_n (by omega)]; exact ha x (by omega)
      · by_cases h : x = 24 * i + b + d
        · rw [l_s h, ha _ (by omega)]; congr 1; omega
        · rw [l_n h]; exact hb x (by omega) hx'
  exact ⟨n + 1, L n mi 0 (by omega) (fun x _ => rfl) (fun x h h' => absurd h (by omega))⟩
