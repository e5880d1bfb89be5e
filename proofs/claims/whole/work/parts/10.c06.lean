set_option maxHeartbeats 4000000 in
set_option maxRecDepth 100000 in
theorem c_X7_restore (l : Launch) (D : va_G) (G : Nat → ClassId) (sz : Nat) (x_xo : Nat) (da : Nat) (k_da : Nat) (t_ta : Nat) (p_pl : Nat) (r_tr : Nat) (w_ro : Nat) (x_ash : Nat) (ami : Nat) (aki : Nat) (afi : Nat) (anw : Nat) (apa : Nat) (pq : Nat → Nat) (k_ami : Nat) (k_aki : Nat) (k_afi : Nat) (k_anw : Nat) (k_apa : Nat) (k_pq : Nat → Nat) (x_isKept : Int32) (cows : Int32) (tasters : Int32) (newest : Int32) (known : Int32) (milks : Nat → Int32) (kinds : Nat → Int32) (fines : Nat → Int32) (mayBe : Int32) (bearer : Int32) (day : Int32) (draw : Int32) (pm : Nat → Int32) (pb : Nat → Int32) (pd : Nat → Int32) (pw : Nat → Int32) (k_cows : Int32) (k_tasters : Int32) (k_newest : Int32) (k_known : Int32) (k_milks : Nat → Int32) (k_kinds : Nat → Int32) (k_fines : Nat → Int32) (k_mayBe : Int32) (k_bearer : Int32) (k_day : Int32) (k_draw : Int32) (k_pm : Nat → Int32) (k_pb : Nat → Int32) (k_pd : Nat → Int32) (k_pw : Nat → Int32) (post : Int32 → Int32 → Int32 → Int32 → Int32 → (Nat → Int32) → (Nat → Int32) → (Nat → Int32) → Int32 → Int32 → Int32 → Int32 → (Nat → Int32) → (Nat → Int32) → (Nat → Int32) → (Nat → Int32) → Prop) (hw : wp_X7_restore x_isKept cows tasters newest known milks kinds fines mayBe bearer day draw pm pb pd pw k_cows k_tasters k_newest k_known k_milks k_kinds k_fines k_mayBe k_bearer k_day k_draw k_pm k_pb k_pd k_pw post) : Met l yX7_restore wsX7_restore ({ frames := 2, cells := 0, slots := 0, locals := 48 } : Room) (va_Pc [.ref x_xo] (xM D G sz [(x_xo, .inr (7, [.ref da, .ref k_da, .int x_isKept, .ref t_ta, .ref p_pl, .ref r_tr, .ref w_ro, .ref x_ash])), (da, .inr (0, [.ref ami, .int cows, .ref aki, .ref afi, .int tasters, .ref anw, .ref apa, .int newest, .int known])), (ami, .inl (G 0, 8, .inl milks)), (aki, .inl (G 0, 4, .inl kinds)), (afi, .inl (G 0, 4, .inl fines)), (anw, .inr (1, [.int mayBe, .int bearer, .int day, .int draw])), (apa, .inl (G 4, 8, .inr (.inr (.inr (.inr (fun k => some (pq k))))))), ((pq 0), .inr (1, [.int (pm 0), .int (pb 0), .int (pd 0), .int (pw 0)])), ((pq 1), .inr (1, [.int (pm 1), .int (pb 1), .int (pd 1), .int (pw 1)])), ((pq 2), .inr (1, [.int (pm 2), .int (pb 2), .int (pd 2), .int (pw 2)])), ((pq 3), .inr (1, [.int (pm 3), .int (pb 3), .int (pd 3), .int (pw 3)])), ((pq 4), .inr (1, [.int (pm 4), .int (pb 4), .int (pd 4), .int (pw 4)])), ((pq 5), .inr (1, [.int (pm 5), .int (pb 5), .int (pd 5), .int (pw 5)])), ((pq 6), .inr (1, [.int (pm 6), .int (pb 6), .int (pd 6), .int (pw 6)])), ((pq 7), .inr (1, [.int (pm 7), .int (pb 7), .int (pd 7), .int (pw 7)])), (k_da, .inr (0, [.ref k_ami, .int k_cows, .ref k_aki, .ref k_afi, .int k_tasters, .ref k_anw, .ref k_apa, .int k_newest, .int k_known])), (k_ami, .inl (G 0, 8, .inl k_milks)), (k_aki, .inl (G 0, 4, .inl k_kinds)), (k_afi, .inl (G 0, 4, .inl k_fines)), (k_anw, .inr (1, [.int k_mayBe, .int k_bearer, .int k_day, .int k_draw])), (k_apa, .inl (G 4, 8, .inr (.inr (.inr (.inr (fun k => some (k_pq k))))))), ((k_pq 0), .inr (1, [.int (k_pm 0), .int (k_pb 0), .int (k_pd 0), .int (k_pw 0)])), ((k_pq 1), .inr (1, [.int (k_pm 1), .int (k_pb 1), .int (k_pd 1), .int (k_pw 1)])), ((k_pq 2), .inr (1, [.int (k_pm 2), .int (k_pb 2), .int (k_pd 2), .int (k_pw 2)])), ((k_pq 3), .inr (1, [.int (k_pm 3), .int (k_pb 3), .int (k_pd 3), .int (k_pw 3)])), ((k_pq 4), .inr (1, [.int (k_pm 4), .int (k_pb 4), .int (k_pd 4), .int (k_pw 4)])), ((k_pq 5), .inr (1, [.int (k_pm 5), .int (k_pb 5), .int (k_pd 5), .int (k_pw 5)])), ((k_pq 6), .inr (1, [.int (k_pm 6), .int (k_pb 6), .int (k_pd 6), .int (k_pw 6)])), ((k_pq 7), .inr (1, [.int (k_pm 7), .int (k_pb 7), .int (k_pd 7), .int (k_pw 7)]))])) (va_Qi (fun r (u : Int32 × Int32 × Int32 × Int32 × (Nat → Int32) × (Nat → Int32) × (Nat → Int32) × Int32 × Int32 × Int32 × Int32 × (Nat → Int32) × (Nat → Int32) × (Nat → Int32) × (Nat → Int32)) => post r u.1 u.2.1 u.2.2.1 u.2.2.2.1 u.2.2.2.2.1 u.2.2.2.2.2.1 u.2.2.2.2.2.2.1 u.2.2.2.2.2.2.2.1 u.2.2.2.2.2.2.2.2.1 u.2.2.2.2.2.2.2.2.2.1 u.2.2.2.2.2.2.2.2.2.2.1 u.2.2.2.2.2.2.2.2.2.2.2.1 u.2.2.2.2.2.2.2.2.2.2.2.2.1 u.2.2.2.2.2.2.2.2.2.2.2.2.2.1 u.2.2.2.2.2.2.2.2.2.2.2.2.2.2) (fun u t => xE D G (va_A [(x_xo, .inr (7, [.ref da, .ref k_da, .int x_isKept, .ref t_ta, .ref p_pl, .ref r_tr, .ref w_ro, .ref x_ash])), (da, .inr (0, [.ref ami, .int cows, .ref aki, .ref afi, .int tasters, .ref anw, .ref apa, .int newest, .int known])), (ami, .inl (G 0, 8, .inl milks)), (aki, .inl (G 0, 4, .inl kinds)), (afi, .inl (G 0, 4, .inl fines)), (anw, .inr (1, [.int mayBe, .int bearer, .int day, .int draw])), (apa, .inl (G 4, 8, .inr (.inr (.inr (.inr (fun k => some (pq k))))))), ((pq 0), .inr (1, [.int (pm 0), .int (pb 0), .int (pd 0), .int (pw 0)])), ((pq 1), .inr (1, [.int (pm 1), .int (pb 1), .int (pd 1), .int (pw 1)])), ((pq 2), .inr (1, [.int (pm 2), .int (pb 2), .int (pd 2), .int (pw 2)])), ((pq 3), .inr (1, [.int (pm 3), .int (pb 3), .int (pd 3), .int (pw 3)])), ((pq 4), .inr (1, [.int (pm 4), .int (pb 4), .int (pd 4), .int (pw 4)])), ((pq 5), .inr (1, [.int (pm 5), .int (pb 5), .int (pd 5), .int (pw 5)])), ((pq 6), .inr (1, [.int (pm 6), .int (pb 6), .int (pd 6), .int (pw 6)])), ((pq 7), .inr (1, [.int (pm 7), .int (pb 7), .int (pd 7), .int (pw 7)])), (k_da, .inr (0, [.ref k_ami, .int k_cows, .ref k_aki, .ref k_afi, .int k_tasters, .ref k_anw, .ref k_apa, .int k_newest, .int k_known])), (k_ami, .inl (G 0, 8, .inl k_milks)), (k_aki, .inl (G 0, 4, .inl k_kinds)), (k_afi, .inl (G 0, 4, .inl k_fines)), (k_anw, .inr (1, [.int k_mayBe, .int k_bearer, .int k_day, .int k_draw])), (k_apa, .inl (G 4, 8, .inr (.inr (.inr (.inr (fun k => some (k_pq k))))))), ((k_pq 0), .inr (1, [.int (k_pm 0), .int (k_pb 0), .int (k_pd 0), .int (k_pw 0)])), ((k_pq 1), .inr (1, [.int (k_pm 1), .int (k_pb 1), .int (k_pd 1), .int (k_pw 1)])), ((k_pq 2), .inr (1, [.int (k_pm 2), .int (k_pb 2), .int (k_pd 2), .int (k_pw 2)])), ((k_pq 3), .inr (1, [.int (k_pm 3), .int (k_pb 3), .int (k_pd 3), .int (k_pw 3)])), ((k_pq 4), .inr (1, [.int (k_pm 4), .int (k_pb 4), .int (k_pd 4), .int (k_pw 4)])), ((k_pq 5), .inr (1, [.int (k_pm 5), .int (k_pb 5), .int (k_pd 5), .int (k_pw 5)])), ((k_pq 6), .inr (1, [.int (k_pm 6), .int (k_pb 6), .int (k_pd 6), .int (k_pw 6)])), ((k_pq 7), .inr (1, [.int (k_pm 7), .int (k_pb 7), .int (k_pd 7), .int (k_pw 7)]))] sz) [(x_xo, .inr (7, [.ref da, .ref k_da, .int x_isKept, .ref t_ta, .ref p_pl, .ref r_tr, .ref w_ro, .ref x_ash])), (da, .inr (0, [.ref ami, .int u.1, .ref aki, .ref afi, .int u.2.1, .ref anw, .ref apa, .int u.2.2.1, .int u.2.2.2.1])), (ami, .inl (G 0, 8, .inl (u.2.2.2.2.1))), (aki, .inl (G 0, 4, .inl (u.2.2.2.2.2.1))), (afi, .inl (G 0, 4, .inl (u.2.2.2.2.2.2.1))), (anw, .inr (1, [.int u.2.2.2.2.2.2.2.1, .int u.2.2.2.2.2.2.2.2.1, .int u.2.2.2.2.2.2.2.2.2.1, .int u.2.2.2.2.2.2.2.2.2.2.1])), (apa, .inl (G 4, 8, .inr (.inr (.inr (.inr (fun k => some (pq k))))))), ((pq 0), .inr (1, [.int ((u.2.2.2.2.2.2.2.2.2.2.2.1) 0), .int ((u.2.2.2.2.2.2.2.2.2.2.2.2.1) 0), .int ((u.2.2.2.2.2.2.2.2.2.2.2.2.2.1) 0), .int ((u.2.2.2.2.2.2.2.2.2.2.2.2.2.2) 0)])), ((pq 1), .inr (1, [.int ((u.2.2.2.2.2.2.2.2.2.2.2.1) 1), .int ((u.2.2.2.2.2.2.2.2.2.2.2.2.1) 1), .int ((u.2.2.2.2.2.2.2.2.2.2.2.2.2.1) 1), .int ((u.2.2.2.2.2.2.2.2.2.2.2.2.2.2) 1)])), ((pq 2), .inr (1, [.int ((u.2.2.2.2.2.2.2.2.2.2.2.1) 2), .int ((u.2.2.2.2.2.2.2.2.2.2.2.2.1) 2), .int ((u.2.2.2.2.2.2.2.2.2.2.2.2.2.1) 2), .int ((u.2.2.2.2.2.2.2.2.2.2.2.2.2.2) 2)])), ((pq 3), .inr (1, [.int ((u.2.2.2.2.2.2.2.2.2.2.2.1) 3), .int ((u.2.2.2.2.2.2.2.2.2.2.2.2.1) 3), .int ((u.2.2.2.2.2.2.2.2.2.2.2.2.2.1) 3), .int ((u.2.2.2.2.2.2.2.2.2.2.2.2.2.2) 3)])), ((pq 4), .inr (1, [.int ((u.2.2.2.2.2.2.2.2.2.2.2.1) 4), .int ((u.2.2.2.2.2.2.2.2.2.2.2.2.1) 4), .int ((u.2.2.2.2.2.2.2.2.2.2.2.2.2.1) 4), .int ((u.2.2.2.2.2.2.2.2.2.2.2.2.2.2) 4)])), ((pq 5), .inr (1, [.int ((u.2.2.2.2.2.2.2.2.2.2.2.1) 5), .int ((u.2.2.2.2.2.2.2.2.2.2.2.2.1) 5), .int ((u.2.2.2.2.2.2.2.2.2.2.2.2.2.1) 5), .int ((u.2.2.2.2.2.2.2.2.2.2.2.2.2.2) 5)])), ((pq 6), .inr (1, [.int ((u.2.2.2.2.2.2.2.2.2.2.2.1) 6), .int ((u.2.2.2.2.2.2.2.2.2.2.2.2.1) 6), .int ((u.2.2.2.2.2.2.2.2.2.2.2.2.2.1) 6), .int ((u.2.2.2.2.2.2.2.2.2.2.2.2.2.2) 6)])), ((pq 7), .inr (1, [.int ((u.2.2.2.2.2.2.2.2.2.2.2.1) 7), .int ((u.2.2.2.2.2.2.2.2.2.2.2.2.1) 7), .int ((u.2.2.2.2.2.2.2.2.2.2.2.2.2.1) 7), .int ((u.2.2.2.2.2.2.2.2.2.2.2.2.2.2) 7)])), (k_da, .inr (0, [.ref k_ami, .int k_cows, .ref k_aki, .ref k_afi, .int k_tasters, .ref k_anw, .ref k_apa, .int k_newest, .int k_known])), (k_ami, .inl (G 0, 8, .inl k_milks)), (k_aki, .inl (G 0, 4, .inl k_kinds)), (k_afi, .inl (G 0, 4, .inl k_fines)), (k_anw, .inr (1, [.int k_mayBe, .int k_bearer, .int k_day, .int k_draw])), (k_apa, .inl (G 4, 8, .inr (.inr (.inr (.inr (fun k => some (k_pq k))))))), ((k_pq 0), .inr (1, [.int (k_pm 0), .int (k_pb 0), .int (k_pd 0), .int (k_pw 0)])), ((k_pq 1), .inr (1, [.int (k_pm 1), .int (k_pb 1), .int (k_pd 1), .int (k_pw 1)])), ((k_pq 2), .inr (1, [.int (k_pm 2), .int (k_pb 2), .int (k_pd 2), .int (k_pw 2)])), ((k_pq 3), .inr (1, [.int (k_pm 3), .int (k_pb 3), .int (k_pd 3), .int (k_pw 3)])), ((k_pq 4), .inr (1, [.int (k_pm 4), .int (k_pb 4), .int (k_pd 4), .int (k_pw 4)])), ((k_pq 5), .inr (1, [.int (k_pm 5), .int (k_pb 5), .int (k_pd 5), .int (k_pw 5)])), ((k_pq 6), .inr (1, [.int (k_pm 6), .int (k_pb 6), .int (k_pd 6), .int (k_pw 6)])), ((k_pq 7), .inr (1, [.int (k_pm 7), .int (k_pb 7), .int (k_pd 7), .int (k_pw 7)]))] t) (va_A [(x_xo, .inr (7, [.ref da, .ref k_da, .int x_isKept, .ref t_ta, .ref p_pl, .ref r_tr, .ref w_ro, .ref x_ash])), (da, .inr (0, [.ref ami, .int cows, .ref aki, .ref afi, .int tasters, .ref anw, .ref apa, .int newest, .int known])), (ami, .inl (G 0, 8, .inl milks)), (aki, .inl (G 0, 4, .inl kinds)), (afi, .inl (G 0, 4, .inl fines)), (anw, .inr (1, [.int mayBe, .int bearer, .int day, .int draw])), (apa, .inl (G 4, 8, .inr (.inr (.inr (.inr (fun k => some (pq k))))))), ((pq 0), .inr (1, [.int (pm 0), .int (pb 0), .int (pd 0), .int (pw 0)])), ((pq 1), .inr (1, [.int (pm 1), .int (pb 1), .int (pd 1), .int (pw 1)])), ((pq 2), .inr (1, [.int (pm 2), .int (pb 2), .int (pd 2), .int (pw 2)])), ((pq 3), .inr (1, [.int (pm 3), .int (pb 3), .int (pd 3), .int (pw 3)])), ((pq 4), .inr (1, [.int (pm 4), .int (pb 4), .int (pd 4), .int (pw 4)])), ((pq 5), .inr (1, [.int (pm 5), .int (pb 5), .int (pd 5), .int (pw 5)])), ((pq 6), .inr (1, [.int (pm 6), .int (pb 6), .int (pd 6), .int (pw 6)])), ((pq 7), .inr (1, [.int (pm 7), .int (pb 7), .int (pd 7), .int (pw 7)])), (k_da, .inr (0, [.ref k_ami, .int k_cows, .ref k_aki, .ref k_afi, .int k_tasters, .ref k_anw, .ref k_apa, .int k_newest, .int k_known])), (k_ami, .inl (G 0, 8, .inl k_milks)), (k_aki, .inl (G 0, 4, .inl k_kinds)), (k_afi, .inl (G 0, 4, .inl k_fines)), (k_anw, .inr (1, [.int k_mayBe, .int k_bearer, .int k_day, .int k_draw])), (k_apa, .inl (G 4, 8, .inr (.inr (.inr (.inr (fun k => some (k_pq k))))))), ((k_pq 0), .inr (1, [.int (k_pm 0), .int (k_pb 0), .int (k_pd 0), .int (k_pw 0)])), ((k_pq 1), .inr (1, [.int (k_pm 1), .int (k_pb 1), .int (k_pd 1), .int (k_pw 1)])), ((k_pq 2), .inr (1, [.int (k_pm 2), .int (k_pb 2), .int (k_pd 2), .int (k_pw 2)])), ((k_pq 3), .inr (1, [.int (k_pm 3), .int (k_pb 3), .int (k_pd 3), .int (k_pw 3)])), ((k_pq 4), .inr (1, [.int (k_pm 4), .int (k_pb 4), .int (k_pd 4), .int (k_pw 4)])), ((k_pq 5), .inr (1, [.int (k_pm 5), .int (k_pb 5), .int (k_pd 5), .int (k_pw 5)])), ((k_pq 6), .inr (1, [.int (k_pm 6), .int (k_pb 6), .int (k_pd 6), .int (k_pw 6)])), ((k_pq 7), .inr (1, [.int (k_pm 7), .int (k_pb 7), .int (k_pd 7), .int (k_pw 7)]))] sz)) 0 0 (va_A [(x_xo, .inr (7, [.ref da, .ref k_da, .int x_isKept, .ref t_ta, .ref p_pl, .ref r_tr, .ref w_ro, .ref x_ash])), (da, .inr (0, [.ref ami, .int cows, .ref aki, .ref afi, .int tasters, .ref anw, .ref apa, .int newest, .int known])), (ami, .inl (G 0, 8, .inl milks)), (aki, .inl (G 0, 4, .inl kinds)), (afi, .inl (G 0, 4, .inl fines)), (anw, .inr (1, [.int mayBe, .int bearer, .int day, .int draw])), (apa, .inl (G 4, 8, .inr (.inr (.inr (.inr (fun k => some (pq k))))))), ((pq 0), .inr (1, [.int (pm 0), .int (pb 0), .int (pd 0), .int (pw 0)])), ((pq 1), .inr (1, [.int (pm 1), .int (pb 1), .int (pd 1), .int (pw 1)])), ((pq 2), .inr (1, [.int (pm 2), .int (pb 2), .int (pd 2), .int (pw 2)])), ((pq 3), .inr (1, [.int (pm 3), .int (pb 3), .int (pd 3), .int (pw 3)])), ((pq 4), .inr (1, [.int (pm 4), .int (pb 4), .int (pd 4), .int (pw 4)])), ((pq 5), .inr (1, [.int (pm 5), .int (pb 5), .int (pd 5), .int (pw 5)])), ((pq 6), .inr (1, [.int (pm 6), .int (pb 6), .int (pd 6), .int (pw 6)])), ((pq 7), .inr (1, [.int (pm 7), .int (pb 7), .int (pd 7), .int (pw 7)])), (k_da, .inr (0, [.ref k_ami, .int k_cows, .ref k_aki, .ref k_afi, .int k_tasters, .ref k_anw, .ref k_apa, .int k_newest, .int k_known])), (k_ami, .inl (G 0, 8, .inl k_milks)), (k_aki, .inl (G 0, 4, .inl k_kinds)), (k_afi, .inl (G 0, 4, .inl k_fines)), (k_anw, .inr (1, [.int k_mayBe, .int k_bearer, .int k_day, .int k_draw])), (k_apa, .inl (G 4, 8, .inr (.inr (.inr (.inr (fun k => some (k_pq k))))))), ((k_pq 0), .inr (1, [.int (k_pm 0), .int (k_pb 0), .int (k_pd 0), .int (k_pw 0)])), ((k_pq 1), .inr (1, [.int (k_pm 1), .int (k_pb 1), .int (k_pd 1), .int (k_pw 1)])), ((k_pq 2), .inr (1, [.int (k_pm 2), .int (k_pb 2), .int (k_pd 2), .int (k_pw 2)])), ((k_pq 3), .inr (1, [.int (k_pm 3), .int (k_pb 3), .int (k_pd 3), .int (k_pw 3)])), ((k_pq 4), .inr (1, [.int (k_pm 4), .int (k_pb 4), .int (k_pd 4), .int (k_pw 4)])), ((k_pq 5), .inr (1, [.int (k_pm 5), .int (k_pb 5), .int (k_pd 5), .int (k_pw 5)])), ((k_pq 6), .inr (1, [.int (k_pm 6), .int (k_pb 6), .int (k_pd 6), .int (k_pw 6)])), ((k_pq 7), .inr (1, [.int (k_pm 7), .int (k_pb 7), .int (k_pd 7), .int (k_pw 7)]))] sz) := by
  refine Met.ofW (cc := cX7_restore) (maxL := 1) (ret := (some .int)) (by decide) rfl ?_
  intro p e s m args below meth c s₁ B hml hv
  obtain ⟨rfl, hsz, hP, hK, hD0⟩ := hv
  have hx := B.exec
  have hb := B.bytes
  have hr := B.returns
  have hts := atoms_spec (ws := wsX7_restore) B.pre
  have hown : s.vm.findClass RX7 = some m.cls := findClass_of_methodNamed B.named
  have hlocks := B.notSynchronized
  subst hsz
  have hD := hD0.self (sz := s.heap.size)
  generalize hAe : va_A [(x_xo, .inr (7, [.ref da, .ref k_da, .int x_isKept, .ref t_ta, .ref p_pl, .ref r_tr, .ref w_ro, .ref x_ash])), (da, .inr (0, [.ref ami, .int cows, .ref aki, .ref afi, .int tasters, .ref anw, .ref apa, .int newest, .int known])), (ami, .inl (G 0, 8, .inl milks)), (aki, .inl (G 0, 4, .inl kinds)), (afi, .inl (G 0, 4, .inl fines)), (anw, .inr (1, [.int mayBe, .int bearer, .int day, .int draw])), (apa, .inl (G 4, 8, .inr (.inr (.inr (.inr (fun k => some (pq k))))))), ((pq 0), .inr (1, [.int (pm 0), .int (pb 0), .int (pd 0), .int (pw 0)])), ((pq 1), .inr (1, [.int (pm 1), .int (pb 1), .int (pd 1), .int (pw 1)])), ((pq 2), .inr (1, [.int (pm 2), .int (pb 2), .int (pd 2), .int (pw 2)])), ((pq 3), .inr (1, [.int (pm 3), .int (pb 3), .int (pd 3), .int (pw 3)])), ((pq 4), .inr (1, [.int (pm 4), .int (pb 4), .int (pd 4), .int (pw 4)])), ((pq 5), .inr (1, [.int (pm 5), .int (pb 5), .int (pd 5), .int (pw 5)])), ((pq 6), .inr (1, [.int (pm 6), .int (pb 6), .int (pd 6), .int (pw 6)])), ((pq 7), .inr (1, [.int (pm 7), .int (pb 7), .int (pd 7), .int (pw 7)])), (k_da, .inr (0, [.ref k_ami, .int k_cows, .ref k_aki, .ref k_afi, .int k_tasters, .ref k_anw, .ref k_apa, .int k_newest, .int k_known])), (k_ami, .inl (G 0, 8, .inl k_milks)), (k_aki, .inl (G 0, 4, .inl k_kinds)), (k_afi, .inl (G 0, 4, .inl k_fines)), (k_anw, .inr (1, [.int k_mayBe, .int k_bearer, .int k_day, .int k_draw])), (k_apa, .inl (G 4, 8, .inr (.inr (.inr (.inr (fun k => some (k_pq k))))))), ((k_pq 0), .inr (1, [.int (k_pm 0), .int (k_pb 0), .int (k_pd 0), .int (k_pw 0)])), ((k_pq 1), .inr (1, [.int (k_pm 1), .int (k_pb 1), .int (k_pd 1), .int (k_pw 1)])), ((k_pq 2), .inr (1, [.int (k_pm 2), .int (k_pb 2), .int (k_pd 2), .int (k_pw 2)])), ((k_pq 3), .inr (1, [.int (k_pm 3), .int (k_pb 3), .int (k_pd 3), .int (k_pw 3)])), ((k_pq 4), .inr (1, [.int (k_pm 4), .int (k_pb 4), .int (k_pd 4), .int (k_pw 4)])), ((k_pq 5), .inr (1, [.int (k_pm 5), .int (k_pb 5), .int (k_pd 5), .int (k_pw 5)])), ((k_pq 6), .inr (1, [.int (k_pm 6), .int (k_pb 6), .int (k_pd 6), .int (k_pw 6)])), ((k_pq 7), .inr (1, [.int (k_pm 7), .int (k_pb 7), .int (k_pd 7), .int (k_pw 7)]))] s.heap.size = A at hD ⊢
  have hA : ∀ q : Nat, s.heap.size ≤ q → A q := fun q h => by rw [← hAe]; exact Or.inr h
  have hS : va_S A s.heap s.heap [] := va_S.rf
  have inX7 : ∀ w ∈ wsX70, w ∈ wsX7_restore := by decide +kernel
  have fl19 := hts (.fieldLink RX7 19 "NewsCow" "isKept" "Z") (by decide +kernel)
  have fl12 := hts (.fieldLink RX7 12 "NewsCow" "dairy" "LNewsCow$Dairy;") (by decide +kernel)
  have fl16 := hts (.fieldLink RX7 16 "NewsCow" "kept" "LNewsCow$Dairy;") (by decide +kernel)
  have hl := lv_entry ([.ref x_xo] : List Value) (n := 1) (Nat.le_of_ble_eq_true rfl)
  rw [lg_entry_eq]
  generalize (lg_sl ([.ref x_xo] : List Value) ++ List.replicate (1 - (lg_sl ([.ref x_xo] : List Value)).length) Slot.unset).toArray = ls at hl ⊢
  have hl : lv_has ls 1 [(0, .ref x_xo)] := hl
  unfold wp_X7_restore at hw
  refine lv_aload_n hx hb dX7_restore_0 rfl (lv_at hl 0 rfl) ?_
  refine va_get (D := D) (ci := 7) (v := .int x_isKept) (C := RX7) (T := TX7) (N := 8) hx hb hts inX7 hown hK hP 0 rfl rfl 2 (by decide) fl19 (fun _ h9 => h9) rfl dX7_restore_1 ?_
  refine lv_if_ne (tgt := 10) hx hb dX7_restore_4 (by decide) (fun c9 => ?_) (fun c9 => ?_)
  · replace hw := hw.1 c9
    refine lv_aload_n hx hb dX7_restore_10 rfl (lv_at hl 0 rfl) ?_
    refine va_get (D := D) (ci := 7) (v := .ref da) (C := RX7) (T := TX7) (N := 8) hx hb hts inX7 hown hK hP 0 rfl rfl 0 (by decide) fl12 (fun _ h9 => h9) rfl dX7_restore_11 ?_
    refine lv_aload_n hx hb dX7_restore_14 rfl (lv_at hl 0 rfl) ?_
    refine va_get (D := D) (ci := 7) (v := .ref k_da) (C := RX7) (T := TX7) (N := 8) hx hb hts inX7 hown hK hP 0 rfl rfl 1 (by decide) fl16 (fun _ h9 => h9) rfl dX7_restore_15 ?_
    refine x_cMv (wr := [(x_xo, .inr (7, [.ref da, .ref k_da, .int x_isKept, .ref t_ta, .ref p_pl, .ref r_tr, .ref w_ro, .ref x_ash]))]) (va_runV (As := [.ref k_da]) (rest := []) ⟨hx, hb, hml, hown, hts⟩ (c_X0_becomeLike l D G _ da ami aki afi anw apa pq k_da k_ami k_aki k_afi k_anw k_apa k_pq cows tasters newest known milks kinds fines mayBe bearer day draw pm pb pd pw k_cows k_tasters k_newest k_known k_milks k_kinds k_fines k_mayBe k_bearer k_day k_draw k_pm k_pb k_pd k_pw _ hw) (cwV 1 hts gX7_restore_X0_becomeLike rfl rfl rfl (by decide +kernel) ⟨(Nat.le_of_ble_eq_true rfl), (Nat.le_of_ble_eq_true rfl)⟩) (xM_pv (hP.sub [1, 2, 3, 4, 5, 6, 7, 8, 9, 10, 11, 12, 13, 14, 15, 16, 17, 18, 19, 20, 21, 22, 23, 24, 25, 26, 27, 28] rfl) hK (hD.sub [1, 2, 3, 4, 5, 6, 7, 8, 9, 10, 11, 12, 13, 14, 15, 16, 17, 18, 19, 20, 21, 22, 23, 24, 25, 26, 27, 28] (by decide) rfl) (va_recv hK hP (ci := 0) (q0 := 1) rfl rfl)) rfl rfl hl.1 rfl (lv_room (Nat.le_of_ble_eq_true rfl)) dX7_restore_18 ⟨Nat.zero_le _, Nat.zero_le _⟩) hP hD hS hA [1, 2, 3, 4, 5, 6, 7, 8, 9, 10, 11, 12, 13, 14, 15, 16, 17, 18, 19, 20, 21, 22, 23, 24, 25, 26, 27, 28] [0] rfl rfl (by decide) (by decide) [0, 1, 2, 3, 4, 5, 6, 7, 8, 9, 10, 11, 12, 13, 14, 15, 16, 17, 18, 19, 20, 21, 22, 23, 24, 25, 26, 27, 28] (fun u => [(x_xo, .inr (7, [.ref da, .ref k_da, .int x_isKept, .ref t_ta, .ref p_pl, .ref r_tr, .ref w_ro, .ref x_ash])), (da, .inr (0, [.ref ami, .int u.1, .ref aki, .ref afi, .int u.2.1, .ref anw, .ref apa, .int u.2.2.1, .int u.2.2.2.1])), (ami, .inl (G 0, 8, .inl (u.2.2.2.2.1))), (aki, .inl (G 0, 4, .inl (u.2.2.2.2.2.1))), (afi, .inl (G 0, 4, .inl (u.2.2.2.2.2.2.1))), (anw, .inr (1, [.int u.2.2.2.2.2.2.2.1, .int u.2.2.2.2.2.2.2.2.1, .int u.2.2.2.2.2.2.2.2.2.1, .int u.2.2.2.2.2.2.2.2.2.2.1])), (apa, .inl (G 4, 8, .inr (.inr (.inr (.inr (fun k => some (pq k))))))), ((pq 0), .inr (1, [.int ((u.2.2.2.2.2.2.2.2.2.2.2.1) 0), .int ((u.2.2.2.2.2.2.2.2.2.2.2.2.1) 0), .int ((u.2.2.2.2.2.2.2.2.2.2.2.2.2.1) 0), .int ((u.2.2.2.2.2.2.2.2.2.2.2.2.2.2) 0)])), ((pq 1), .inr (1, [.int ((u.2.2.2.2.2.2.2.2.2.2.2.1) 1), .int ((u.2.2.2.2.2.2.2.2.2.2.2.2.1) 1), .int ((u.2.2.2.2.2.2.2.2.2.2.2.2.2.1) 1), .int ((u.2.2.2.2.2.2.2.2.2.2.2.2.2.2) 1)])), ((pq 2), .inr (1, [.int ((u.2.2.2.2.2.2.2.2.2.2.2.1) 2), .int ((u.2.2.2.2.2.2.2.2.2.2.2.2.1) 2), .int ((u.2.2.2.2.2.2.2.2.2.2.2.2.2.1) 2), .int ((u.2.2.2.2.2.2.2.2.2.2.2.2.2.2) 2)])), ((pq 3), .inr (1, [.int ((u.2.2.2.2.2.2.2.2.2.2.2.1) 3), .int ((u.2.2.2.2.2.2.2.2.2.2.2.2.1) 3), .int ((u.2.2.2.2.2.2.2.2.2.2.2.2.2.1) 3), .int ((u.2.2.2.2.2.2.2.2.2.2.2.2.2.2) 3)])), ((pq 4), .inr (1, [.int ((u.2.2.2.2.2.2.2.2.2.2.2.1) 4), .int ((u.2.2.2.2.2.2.2.2.2.2.2.2.1) 4), .int ((u.2.2.2.2.2.2.2.2.2.2.2.2.2.1) 4), .int ((u.2.2.2.2.2.2.2.2.2.2.2.2.2.2) 4)])), ((pq 5), .inr (1, [.int ((u.2.2.2.2.2.2.2.2.2.2.2.1) 5), .int ((u.2.2.2.2.2.2.2.2.2.2.2.2.1) 5), .int ((u.2.2.2.2.2.2.2.2.2.2.2.2.2.1) 5), .int ((u.2.2.2.2.2.2.2.2.2.2.2.2.2.2) 5)])), ((pq 6), .inr (1, [.int ((u.2.2.2.2.2.2.2.2.2.2.2.1) 6), .int ((u.2.2.2.2.2.2.2.2.2.2.2.2.1) 6), .int ((u.2.2.2.2.2.2.2.2.2.2.2.2.2.1) 6), .int ((u.2.2.2.2.2.2.2.2.2.2.2.2.2.2) 6)])), ((pq 7), .inr (1, [.int ((u.2.2.2.2.2.2.2.2.2.2.2.1) 7), .int ((u.2.2.2.2.2.2.2.2.2.2.2.2.1) 7), .int ((u.2.2.2.2.2.2.2.2.2.2.2.2.2.1) 7), .int ((u.2.2.2.2.2.2.2.2.2.2.2.2.2.2) 7)])), (k_da, .inr (0, [.ref k_ami, .int k_cows, .ref k_aki, .ref k_afi, .int k_tasters, .ref k_anw, .ref k_apa, .int k_newest, .int k_known])), (k_ami, .inl (G 0, 8, .inl k_milks)), (k_aki, .inl (G 0, 4, .inl k_kinds)), (k_afi, .inl (G 0, 4, .inl k_fines)), (k_anw, .inr (1, [.int k_mayBe, .int k_bearer, .int k_day, .int k_draw])), (k_apa, .inl (G 4, 8, .inr (.inr (.inr (.inr (fun k => some (k_pq k))))))), ((k_pq 0), .inr (1, [.int (k_pm 0), .int (k_pb 0), .int (k_pd 0), .int (k_pw 0)])), ((k_pq 1), .inr (1, [.int (k_pm 1), .int (k_pb 1), .int (k_pd 1), .int (k_pw 1)])), ((k_pq 2), .inr (1, [.int (k_pm 2), .int (k_pb 2), .int (k_pd 2), .int (k_pw 2)])), ((k_pq 3), .inr (1, [.int (k_pm 3), .int (k_pb 3), .int (k_pd 3), .int (k_pw 3)])), ((k_pq 4), .inr (1, [.int (k_pm 4), .int (k_pb 4), .int (k_pd 4), .int (k_pw 4)])), ((k_pq 5), .inr (1, [.int (k_pm 5), .int (k_pb 5), .int (k_pd 5), .int (k_pw 5)])), ((k_pq 6), .inr (1, [.int (k_pm 6), .int (k_pb 6), .int (k_pd 6), .int (k_pw 6)])), ((k_pq 7), .inr (1, [.int (k_pm 7), .int (k_pb 7), .int (k_pd 7), .int (k_pw 7)]))]) (by decide) (fun u => rfl) (fun u H locs hw hP hD hS => ?_)
    obtain ⟨cows_1, tasters_1, newest_1, known_1, milks_1, kinds_1, fines_1, mayBe_1, bearer_1, day_1, draw_1, pm_1, pb_1, pd_1, pw_1⟩ := u
    try dsimp only at hw
    replace hP : va_P D vwCl [(x_xo, .inr (7, [.ref da, .ref k_da, .int x_isKept, .ref t_ta, .ref p_pl, .ref r_tr, .ref w_ro, .ref x_ash])), (da, .inr (0, [.ref ami, .int cows_1, .ref aki, .ref afi, .int tasters_1, .ref anw, .ref apa, .int newest_1, .int known_1])), (ami, .inl (G 0, 8, .inl milks_1)), (aki, .inl (G 0, 4, .inl kinds_1)), (afi, .inl (G 0, 4, .inl fines_1)), (anw, .inr (1, [.int mayBe_1, .int bearer_1, .int day_1, .int draw_1])), (apa, .inl (G 4, 8, .inr (.inr (.inr (.inr (fun k => some (pq k))))))), ((pq 0), .inr (1, [.int (pm_1 0), .int (pb_1 0), .int (pd_1 0), .int (pw_1 0)])), ((pq 1), .inr (1, [.int (pm_1 1), .int (pb_1 1), .int (pd_1 1), .int (pw_1 1)])), ((pq 2), .inr (1, [.int (pm_1 2), .int (pb_1 2), .int (pd_1 2), .int (pw_1 2)])), ((pq 3), .inr (1, [.int (pm_1 3), .int (pb_1 3), .int (pd_1 3), .int (pw_1 3)])), ((pq 4), .inr (1, [.int (pm_1 4), .int (pb_1 4), .int (pd_1 4), .int (pw_1 4)])), ((pq 5), .inr (1, [.int (pm_1 5), .int (pb_1 5), .int (pd_1 5), .int (pw_1 5)])), ((pq 6), .inr (1, [.int (pm_1 6), .int (pb_1 6), .int (pd_1 6), .int (pw_1 6)])), ((pq 7), .inr (1, [.int (pm_1 7), .int (pb_1 7), .int (pd_1 7), .int (pw_1 7)])), (k_da, .inr (0, [.ref k_ami, .int k_cows, .ref k_aki, .ref k_afi, .int k_tasters, .ref k_anw, .ref k_apa, .int k_newest, .int k_known])), (k_ami, .inl (G 0, 8, .inl k_milks)), (k_aki, .inl (G 0, 4, .inl k_kinds)), (k_afi, .inl (G 0, 4, .inl k_fines)), (k_anw, .inr (1, [.int k_mayBe, .int k_bearer, .int k_day, .int k_draw])), (k_apa, .inl (G 4, 8, .inr (.inr (.inr (.inr (fun k => some (k_pq k))))))), ((k_pq 0), .inr (1, [.int (k_pm 0), .int (k_pb 0), .int (k_pd 0), .int (k_pw 0)])), ((k_pq 1), .inr (1, [.int (k_pm 1), .int (k_pb 1), .int (k_pd 1), .int (k_pw 1)])), ((k_pq 2), .inr (1, [.int (k_pm 2), .int (k_pb 2), .int (k_pd 2), .int (k_pw 2)])), ((k_pq 3), .inr (1, [.int (k_pm 3), .int (k_pb 3), .int (k_pd 3), .int (k_pw 3)])), ((k_pq 4), .inr (1, [.int (k_pm 4), .int (k_pb 4), .int (k_pd 4), .int (k_pw 4)])), ((k_pq 5), .inr (1, [.int (k_pm 5), .int (k_pb 5), .int (k_pd 5), .int (k_pw 5)])), ((k_pq 6), .inr (1, [.int (k_pm 6), .int (k_pb 6), .int (k_pd 6), .int (k_pw 6)])), ((k_pq 7), .inr (1, [.int (k_pm 7), .int (k_pb 7), .int (k_pd 7), .int (k_pw 7)]))] H := hP
    replace hD : va_D A [(x_xo, .inr (7, [.ref da, .ref k_da, .int x_isKept, .ref t_ta, .ref p_pl, .ref r_tr, .ref w_ro, .ref x_ash])), (da, .inr (0, [.ref ami, .int cows_1, .ref aki, .ref afi, .int tasters_1, .ref anw, .ref apa, .int newest_1, .int known_1])), (ami, .inl (G 0, 8, .inl milks_1)), (aki, .inl (G 0, 4, .inl kinds_1)), (afi, .inl (G 0, 4, .inl fines_1)), (anw, .inr (1, [.int mayBe_1, .int bearer_1, .int day_1, .int draw_1])), (apa, .inl (G 4, 8, .inr (.inr (.inr (.inr (fun k => some (pq k))))))), ((pq 0), .inr (1, [.int (pm_1 0), .int (pb_1 0), .int (pd_1 0), .int (pw_1 0)])), ((pq 1), .inr (1, [.int (pm_1 1), .int (pb_1 1), .int (pd_1 1), .int (pw_1 1)])), ((pq 2), .inr (1, [.int (pm_1 2), .int (pb_1 2), .int (pd_1 2), .int (pw_1 2)])), ((pq 3), .inr (1, [.int (pm_1 3), .int (pb_1 3), .int (pd_1 3), .int (pw_1 3)])), ((pq 4), .inr (1, [.int (pm_1 4), .int (pb_1 4), .int (pd_1 4), .int (pw_1 4)])), ((pq 5), .inr (1, [.int (pm_1 5), .int (pb_1 5), .int (pd_1 5), .int (pw_1 5)])), ((pq 6), .inr (1, [.int (pm_1 6), .int (pb_1 6), .int (pd_1 6), .int (pw_1 6)])), ((pq 7), .inr (1, [.int (pm_1 7), .int (pb_1 7), .int (pd_1 7), .int (pw_1 7)])), (k_da, .inr (0, [.ref k_ami, .int k_cows, .ref k_aki, .ref k_afi, .int k_tasters, .ref k_anw, .ref k_apa, .int k_newest, .int k_known])), (k_ami, .inl (G 0, 8, .inl k_milks)), (k_aki, .inl (G 0, 4, .inl k_kinds)), (k_afi, .inl (G 0, 4, .inl k_fines)), (k_anw, .inr (1, [.int k_mayBe, .int k_bearer, .int k_day, .int k_draw])), (k_apa, .inl (G 4, 8, .inr (.inr (.inr (.inr (fun k => some (k_pq k))))))), ((k_pq 0), .inr (1, [.int (k_pm 0), .int (k_pb 0), .int (k_pd 0), .int (k_pw 0)])), ((k_pq 1), .inr (1, [.int (k_pm 1), .int (k_pb 1), .int (k_pd 1), .int (k_pw 1)])), ((k_pq 2), .inr (1, [.int (k_pm 2), .int (k_pb 2), .int (k_pd 2), .int (k_pw 2)])), ((k_pq 3), .inr (1, [.int (k_pm 3), .int (k_pb 3), .int (k_pd 3), .int (k_pw 3)])), ((k_pq 4), .inr (1, [.int (k_pm 4), .int (k_pb 4), .int (k_pd 4), .int (k_pw 4)])), ((k_pq 5), .inr (1, [.int (k_pm 5), .int (k_pb 5), .int (k_pd 5), .int (k_pw 5)])), ((k_pq 6), .inr (1, [.int (k_pm 6), .int (k_pb 6), .int (k_pd 6), .int (k_pw 6)])), ((k_pq 7), .inr (1, [.int (k_pm 7), .int (k_pb 7), .int (k_pd 7), .int (k_pw 7)]))] := hD
    refine lv_iconst (v := 1) hx hb dX7_restore_21 (by decide) ?_
    exact W.iret hx hb hr (x_mi (u := (cows_1, tasters_1, newest_1, known_1, milks_1, kinds_1, fines_1, mayBe_1, bearer_1, day_1, draw_1, pm_1, pb_1, pd_1, pw_1)) hP hK hD hS hw) hS.2.2 dX7_restore_22
  · replace hw := hw.2 c9
    refine lv_bipush (v := -4) hx hb dX7_restore_7 (by decide) ?_
    exact W.iret hx hb hr (x_mi (u := (cows, tasters, newest, known, milks, kinds, fines, mayBe, bearer, day, draw, pm, pb, pd, pw)) hP hK hD hS hw) hS.2.2 dX7_restore_9
set_option maxHeartbeats 4000000 in
set_option maxRecDepth 100000 in
theorem c_X7_isSheet (l : Launch) (D : va_G) (G : Nat → ClassId) (x0 : Int32) (post : Int32 → Prop) (hw : wp_X7_isSheet x0 post) : Met l yX7_isSheet wsX7_isSheet ({ frames := 0, cells := 0, slots := 0, locals := 0 } : Room) (va_Pc [.int x0] (xR D G [])) (vp_Si post) 0 0 (fun _ => False) := by
  refine Met.ofW (cc := cX7_isSheet) (maxL := 1) (ret := (some .boolean)) (by decide) rfl ?_
  intro p e s m args below meth c s₁ B hml hv
  obtain ⟨rfl, hP, hK⟩ := hv
  have hx := B.exec
  have hb := B.bytes
  have hr := B.returns
  have hts := atoms_spec (ws := wsX7_isSheet) B.pre
  have hown : s.vm.findClass RX7 = some m.cls := findClass_of_methodNamed B.named
  have hlocks := B.notSynchronized
  have hl := lv_entry ([.int x0] : List Value) (n := 1) (Nat.le_of_ble_eq_true rfl)
  rw [lg_entry_eq]
  generalize (lg_sl ([.int x0] : List Value) ++ List.replicate (1 - (lg_sl ([.int x0] : List Value)).length) Slot.unset).toArray = ls at hl ⊢
  have hl : lv_has ls 1 [(0, .int x0)] := hl
  unfold wp_X7_isSheet at hw
  refine lv_iload_n hx hb dX7_isSheet_0 rfl (lv_at hl 0 rfl) ?_
  refine lv_if_lt (tgt := 13) hx hb dX7_isSheet_1 (by decide) (fun c9 => ?_) (fun c9 => ?_)
  · replace hw := hw.1 c9
    refine lv_iconst (v := 0) hx hb dX7_isSheet_13 (by decide) ?_
    exact W.zret hx hb hr rfl (fun t ht _ => ⟨_, rfl, hw, ht⟩) (fun _ h => absurd h List.not_mem_nil) dX7_isSheet_14
  · replace hw := hw.2 c9
    refine lv_iload_n hx hb dX7_isSheet_4 rfl (lv_at hl 0 rfl) ?_
    refine lv_iconst (v := 4) hx hb dX7_isSheet_5 (by decide) ?_
    refine lv_icmp_ge (tgt := 13) hx hb dX7_isSheet_6 (by decide) (fun c9 => ?_) (fun c9 => ?_)
    · replace hw := hw.1 c9
      refine lv_iconst (v := 0) hx hb dX7_isSheet_13 (by decide) ?_
      exact W.zret hx hb hr rfl (fun t ht _ => ⟨_, rfl, hw, ht⟩) (fun _ h => absurd h List.not_mem_nil) dX7_isSheet_14
    · replace hw := hw.2 c9
      refine lv_iconst (v := 1) hx hb dX7_isSheet_9 (by decide) ?_
      refine lv_goto (tgt := 14) hx hb dX7_isSheet_10 (by decide) ?_
      exact W.zret hx hb hr rfl (fun t ht _ => ⟨_, rfl, hw, ht⟩) (fun _ h => absurd h List.not_mem_nil) dX7_isSheet_14
set_option maxHeartbeats 4000000 in
set_option maxRecDepth 100000 in
theorem c_X7_isLaneOfSheet (l : Launch) (D : va_G) (G : Nat → ClassId) (x0 : Int32) (x1 : Int32) (post : Int32 → Prop) (hw : wp_X7_isLaneOfSheet x0 x1 post) : Met l yX7_isLaneOfSheet wsX7_isLaneOfSheet ({ frames := 1, cells := 0, slots := 0, locals := 20 } : Room) (va_Pc [.int x0, .int x1] (xR D G [])) (vp_Si post) 0 0 (fun _ => False) := by
  refine Met.ofW (cc := cX7_isLaneOfSheet) (maxL := 2) (ret := (some .boolean)) (by decide) rfl ?_
  intro p e s m args below meth c s₁ B hml hv
  obtain ⟨rfl, hP, hK⟩ := hv
  have hx := B.exec
  have hb := B.bytes
  have hr := B.returns
  have hts := atoms_spec (ws := wsX7_isLaneOfSheet) B.pre
  have hown : s.vm.findClass RX7 = some m.cls := findClass_of_methodNamed B.named
  have hlocks := B.notSynchronized
  have hl := lv_entry ([.int x0, .int x1] : List Value) (n := 2) (Nat.le_of_ble_eq_true rfl)
  rw [lg_entry_eq]
  generalize (lg_sl ([.int x0, .int x1] : List Value) ++ List.replicate (2 - (lg_sl ([.int x0, .int x1] : List Value)).length) Slot.unset).toArray = ls at hl ⊢
  have hl : lv_has ls 2 [(0, .int x0), (1, .int x1)] := hl
  unfold wp_X7_isLaneOfSheet at hw
  refine lv_iload_n hx hb dX7_isLaneOfSheet_0 rfl (lv_at hl 0 rfl) ?_
  refine vp_callSi (W.runS (As := [.int x0]) (rest := []) ⟨hx, hb, hml, hown, hts⟩ (c_X7_isSheet l D G x0 _ hw) (va_cwS 1 hts gX7_isLaneOfSheet_X7_isSheet rfl rfl rfl (by decide +kernel) ⟨(Nat.le_of_ble_eq_true rfl), (Nat.le_of_ble_eq_true rfl)⟩) (xR_ps (hP.sub [] rfl) hK) rfl rfl hl.1 rfl (lv_room (Nat.le_of_ble_eq_true rfl)) dX7_isLaneOfSheet_1 ⟨Nat.zero_le _, Nat.zero_le _⟩) (fun r1 hw => ?_)
  refine lv_if_eq (tgt := 20) hx hb dX7_isLaneOfSheet_4 (by decide) (fun c9 => ?_) (fun c9 => ?_)
  · replace hw := hw.1 c9
    refine lv_iconst (v := 0) hx hb dX7_isLaneOfSheet_20 (by decide) ?_
    exact W.zret hx hb hr rfl (fun t ht _ => ⟨_, rfl, hw, ht⟩) (fun _ h => absurd h List.not_mem_nil) dX7_isLaneOfSheet_21
  · replace hw := hw.2 c9
    refine lv_iload_n hx hb dX7_isLaneOfSheet_7 rfl (lv_at hl 1 rfl) ?_
    refine lv_if_lt (tgt := 20) hx hb dX7_isLaneOfSheet_8 (by decide) (fun c9 => ?_) (fun c9 => ?_)
    · replace hw := hw.1 c9
      refine lv_iconst (v := 0) hx hb dX7_isLaneOfSheet_20 (by decide) ?_
      exact W.zret hx hb hr rfl (fun t ht _ => ⟨_, rfl, hw, ht⟩) (fun _ h => absurd h List.not_mem_nil) dX7_isLaneOfSheet_21
    · replace hw := hw.2 c9
      refine lv_iload_n hx hb dX7_isLaneOfSheet_11 rfl (lv_at hl 1 rfl) ?_
      refine lv_iconst (v := 4) hx hb dX7_isLaneOfSheet_12 (by decide) ?_
      refine lv_icmp_ge (tgt := 20) hx hb dX7_isLaneOfSheet_13 (by decide) (fun c9 => ?_) (fun c9 => ?_)
      · replace hw := hw.1 c9
        refine lv_iconst (v := 0) hx hb dX7_isLaneOfSheet_20 (by decide) ?_
        exact W.zret hx hb hr rfl (fun t ht _ => ⟨_, rfl, hw, ht⟩) (fun _ h => absurd h List.not_mem_nil) dX7_isLaneOfSheet_21
      · replace hw := hw.2 c9
        refine lv_iconst (v := 1) hx hb dX7_isLaneOfSheet_16 (by decide) ?_
        refine lv_goto (tgt := 21) hx hb dX7_isLaneOfSheet_17 (by decide) ?_
        exact W.zret hx hb hr rfl (fun t ht _ => ⟨_, rfl, hw, ht⟩) (fun _ h => absurd h List.not_mem_nil) dX7_isLaneOfSheet_21
set_option maxHeartbeats 4000000 in
set_option maxRecDepth 100000 in
theorem c_X7_readRow (l : Launch) (D : va_G) (G : Nat → ClassId) (sz : Nat) (x_xo : Nat) (da : Nat) (k_da : Nat) (t_ta : Nat) (p_pl : Nat) (r_tr : Nat) (w_ro : Nat) (x_ash : Nat) (ami : Nat) (aki : Nat) (afi : Nat) (anw : Nat) (apa : Nat) (w_amx : Nat) (w_aan : Nat) (w_aag : Nat) (x_sq : Nat → Nat) (s_ait : Nat) (x_isKept : Int32) (cows : Int32) (tasters : Int32) (newest : Int32) (known : Int32) (w_pairs : Int32) (w_mixes : Nat → Int32) (w_answers : Nat → Int32) (s_lane : Int32) (s_size : Int32) (s_items : Nat → Int64) (x1 : Int32) (x2 : Int32) (x3 : Int32) (x4 : Int32) (post : Int32 → Int32 → (Nat → Int32) → (Nat → Int32) → Prop) (hw : wp_X7_readRow cows w_pairs w_mixes w_answers s_lane s_size s_items x1 x2 x3 x4 post) : Met l yX7_readRow wsX7_readRow ({ frames := 2, cells := 0, slots := 0, locals := 50 } : Room) (va_Pc [.ref x_xo, .int x1, .int x2, .int x3, .int x4] (xM D G sz [(x_xo, .inr (7, [.ref da, .ref k_da, .int x_isKept, .ref t_ta, .ref p_pl, .ref r_tr, .ref w_ro, .ref x_ash])), (da, .inr (0, [.ref ami, .int cows, .ref aki, .ref afi, .int tasters, .ref anw, .ref apa, .int newest, .int known])), (w_ro, .inr (3, [.ref w_amx, .ref w_aan, .int w_pairs, .ref w_aag])), (w_amx, .inl (G 0, 6, .inl w_mixes)), (w_aan, .inl (G 0, 6, .inl w_answers)), (x_ash, .inl (G 5, 4, .inr (.inr (.inr (.inr (fun k => some (x_sq k))))))), ((x_sq x1.toNatClampNeg), .inr (4, [.ref s_ait, .int s_lane, .int s_size])), (s_ait, .inl (G 1, 24, .inr (.inl s_items)))])) (va_Qi (fun r (u : Int32 × (Nat → Int32) × (Nat → Int32)) => post r u.1 u.2.1 u.2.2) (fun u t => xE D G (va_A [(x_xo, .inr (7, [.ref da, .ref k_da, .int x_isKept, .ref t_ta, .ref p_pl, .ref r_tr, .ref w_ro, .ref x_ash])), (da, .inr (0, [.ref ami, .int cows, .ref aki, .ref afi, .int tasters, .ref anw, .ref apa, .int newest, .int known])), (w_ro, .inr (3, [.ref w_amx, .ref w_aan, .int w_pairs, .ref w_aag])), (w_amx, .inl (G 0, 6, .inl w_mixes)), (w_aan, .inl (G 0, 6, .inl w_answers)), (x_ash, .inl (G 5, 4, .inr (.inr (.inr (.inr (fun k => some (x_sq k))))))), ((x_sq x1.toNatClampNeg), .inr (4, [.ref s_ait, .int s_lane, .int s_size])), (s_ait, .inl (G 1, 24, .inr (.inl s_items)))] sz) [(x_xo, .inr (7, [.ref da, .ref k_da, .int x_isKept, .ref t_ta, .ref p_pl, .ref r_tr, .ref w_ro, .ref x_ash])), (da, .inr (0, [.ref ami, .int cows, .ref aki, .ref afi, .int tasters, .ref anw, .ref apa, .int newest, .int known])), (w_ro, .inr (3, [.ref w_amx, .ref w_aan, .int u.1, .ref w_aag])), (w_amx, .inl (G 0, 6, .inl (u.2.1))), (w_aan, .inl (G 0, 6, .inl (u.2.2))), (x_ash, .inl (G 5, 4, .inr (.inr (.inr (.inr (fun k => some (x_sq k))))))), ((x_sq x1.toNatClampNeg), .inr (4, [.ref s_ait, .int s_lane, .int s_size])), (s_ait, .inl (G 1, 24, .inr (.inl s_items)))] t) (va_A [(x_xo, .inr (7, [.ref da, .ref k_da, .int x_isKept, .ref t_ta, .ref p_pl, .ref r_tr, .ref w_ro, .ref x_ash])), (da, .inr (0, [.ref ami, .int cows, .ref aki, .ref afi, .int tasters, .ref anw, .ref apa, .int newest, .int known])), (w_ro, .inr (3, [.ref w_amx, .ref w_aan, .int w_pairs, .ref w_aag])), (w_amx, .inl (G 0, 6, .inl w_mixes)), (w_aan, .inl (G 0, 6, .inl w_answers)), (x_ash, .inl (G 5, 4, .inr (.inr (.inr (.inr (fun k => some (x_sq k))))))), ((x_sq x1.toNatClampNeg), .inr (4, [.ref s_ait, .int s_lane, .int s_size])), (s_ait, .inl (G 1, 24, .inr (.inl s_items)))] sz)) 0 0 (va_A [(x_xo, .inr (7, [.ref da, .ref k_da, .int x_isKept, .ref t_ta, .ref p_pl, .ref r_tr, .ref w_ro, .ref x_ash])), (da, .inr (0, [.ref ami, .int cows, .ref aki, .ref afi, .int tasters, .ref anw, .ref apa, .int newest, .int known])), (w_ro, .inr (3, [.ref w_amx, .ref w_aan, .int w_pairs, .ref w_aag])), (w_amx, .inl (G 0, 6, .inl w_mixes)), (w_aan, .inl (G 0, 6, .inl w_answers)), (x_ash, .inl (G 5, 4, .inr (.inr (.inr (.inr (fun k => some (x_sq k))))))), ((x_sq x1.toNatClampNeg), .inr (4, [.ref s_ait, .int s_lane, .int s_size])), (s_ait, .inl (G 1, 24, .inr (.inl s_items)))] sz) := by
  refine Met.ofW (cc := cX7_readRow) (maxL := 6) (ret := (some .int)) (by decide) rfl ?_
  intro p e s m args below meth c s₁ B hml hv
  obtain ⟨rfl, hsz, hP, hK, hD0⟩ := hv
  have hx := B.exec
  have hb := B.bytes
  have hr := B.returns
  have hts := atoms_spec (ws := wsX7_readRow) B.pre
  have hown : s.vm.findClass RX7 = some m.cls := findClass_of_methodNamed B.named
  have hlocks := B.notSynchronized
  subst hsz
  have hD := hD0.self (sz := s.heap.size)
  generalize hAe : va_A [(x_xo, .inr (7, [.ref da, .ref k_da, .int x_isKept, .ref t_ta, .ref p_pl, .ref r_tr, .ref w_ro, .ref x_ash])), (da, .inr (0, [.ref ami, .int cows, .ref aki, .ref afi, .int tasters, .ref anw, .ref apa, .int newest, .int known])), (w_ro, .inr (3, [.ref w_amx, .ref w_aan, .int w_pairs, .ref w_aag])), (w_amx, .inl (G 0, 6, .inl w_mixes)), (w_aan, .inl (G 0, 6, .inl w_answers)), (x_ash, .inl (G 5, 4, .inr (.inr (.inr (.inr (fun k => some (x_sq k))))))), ((x_sq x1.toNatClampNeg), .inr (4, [.ref s_ait, .int s_lane, .int s_size])), (s_ait, .inl (G 1, 24, .inr (.inl s_items)))] s.heap.size = A at hD ⊢
  have hA : ∀ q : Nat, s.heap.size ≤ q → A q := fun q h => by rw [← hAe]; exact Or.inr h
  have hS : va_S A s.heap s.heap [] := va_S.rf
  have inX7 : ∀ w ∈ wsX70, w ∈ wsX7_readRow := by decide +kernel
  have fl53 := hts (.fieldLink RX7 53 "NewsCow" "sheets" "[LNewsCow$Sheet;") (by decide +kernel)
  have fl47 := hts (.fieldLink RX7 47 "NewsCow" "row" "LNewsCow$Row;") (by decide +kernel)
  have fl12 := hts (.fieldLink RX7 12 "NewsCow" "dairy" "LNewsCow$Dairy;") (by decide +kernel)
  have hl := lv_entry ([.ref x_xo, .int x1, .int x2, .int x3, .int x4] : List Value) (n := 6) (Nat.le_of_ble_eq_true rfl)
  rw [lg_entry_eq]
  generalize (lg_sl ([.ref x_xo, .int x1, .int x2, .int x3, .int x4] : List Value) ++ List.replicate (6 - (lg_sl ([.ref x_xo, .int x1, .int x2, .int x3, .int x4] : List Value)).length) Slot.unset).toArray = ls at hl ⊢
  have hl : lv_has ls 6 [(0, .ref x_xo), (1, .int x1), (2, .int x2), (3, .int x3), (4, .int x4)] := hl
  unfold wp_X7_readRow at hw
  refine lv_aload_n hx hb dX7_readRow_0 rfl (lv_at hl 0 rfl) ?_
  refine va_get (D := D) (ci := 7) (v := .ref x_ash) (C := RX7) (T := TX7) (N := 8) hx hb hts inX7 hown hK hP 0 rfl rfl 7 (by decide) fl53 (fun _ h9 => h9) rfl dX7_readRow_1 ?_
  refine lv_iload_n hx hb dX7_readRow_4 rfl (lv_at hl 1 rfl) ?_
  refine x_aldq (j := x1.toNatClampNeg) (b := (x_sq x1.toNatClampNeg)) hx hb hK hP 5 5 rfl rfl rfl rfl hw.1 dX7_readRow_5 ?_
  replace hw := hw.2
  refine lv_iload_n hx hb dX7_readRow_6 rfl (lv_at hl 2 rfl) ?_
  refine lv_iload_n hx hb dX7_readRow_7 rfl (lv_at hl 3 rfl) ?_
  refine lv_iconst (v := 2) hx hb dX7_readRow_8 (by decide) ?_
  refine lv_iload hx hb dX7_readRow_9 (lv_at hl 4 rfl) ?_
  refine lv_imul hx hb dX7_readRow_11 ?_
  refine vp_callSi (W.runV (As := [.int x2, .int x3, .int ((2 : Int32) * x4)]) (rest := []) ⟨hx, hb, hml, hown, hts⟩ (c_X4_refusal l D G (x_sq x1.toNatClampNeg) s_ait s_lane s_size x2 x3 ((2 : Int32) * x4) _ hw) (cwV 3 hts gX7_readRow_X4_refusal rfl rfl rfl (by decide +kernel) ⟨(Nat.le_of_ble_eq_true rfl), (Nat.le_of_ble_eq_true rfl)⟩) (xR_pv (hP.sub [6] rfl) hK (va_recv hK hP (ci := 4) (q0 := 6) rfl rfl)) rfl rfl hl.1 rfl (lv_room (Nat.le_of_ble_eq_true rfl)) dX7_readRow_12 ⟨Nat.zero_le _, Nat.zero_le _⟩) (fun r1 hw => ?_)
  refine lv_istore (lv' := [(5, .int r1), (0, .ref x_xo), (1, .int x1), (2, .int x2), (3, .int x3), (4, .int x4)]) hx hb dX7_readRow_15 hl (by decide) rfl (fun ls hl => ?_)
  refine lv_iload hx hb dX7_readRow_17 (lv_at hl 0 rfl) ?_
  refine lv_if_eq (tgt := 25) hx hb dX7_readRow_19 (by decide) (fun c9 => ?_) (fun c9 => ?_)
  · replace hw := hw.1 c9
    refine lv_aload_n hx hb dX7_readRow_25 rfl (lv_at hl 1 rfl) ?_
    refine va_get (D := D) (ci := 7) (v := .ref w_ro) (C := RX7) (T := TX7) (N := 8) hx hb hts inX7 hown hK hP 0 rfl rfl 6 (by decide) fl47 (fun _ h9 => h9) rfl dX7_readRow_26 ?_
    refine lv_aload_n hx hb dX7_readRow_29 rfl (lv_at hl 1 rfl) ?_
    refine va_get (D := D) (ci := 7) (v := .ref x_ash) (C := RX7) (T := TX7) (N := 8) hx hb hts inX7 hown hK hP 0 rfl rfl 7 (by decide) fl53 (fun _ h9 => h9) rfl dX7_readRow_30 ?_
    refine lv_iload_n hx hb dX7_readRow_33 rfl (lv_at hl 2 rfl) ?_
    refine x_aldq (j := x1.toNatClampNeg) (b := (x_sq x1.toNatClampNeg)) hx hb hK hP 5 5 rfl rfl rfl rfl hw.1 dX7_readRow_34 ?_
    replace hw := hw.2
    refine lv_iload_n hx hb dX7_readRow_35 rfl (lv_at hl 4 rfl) ?_
    refine lv_iload hx hb dX7_readRow_36 (lv_at hl 5 rfl) ?_
    refine lv_aload_n hx hb dX7_readRow_38 rfl (lv_at hl 1 rfl) ?_
    refine va_get (D := D) (ci := 7) (v := .ref da) (C := RX7) (T := TX7) (N := 8) hx hb hts inX7 hown hK hP 0 rfl rfl 0 (by decide) fl12 (fun _ h9 => h9) rfl dX7_readRow_39 ?_
    refine vp_callSi (W.runV (As := []) (rest := [.int x4, .int x3, .ref (x_sq x1.toNatClampNeg), .ref w_ro]) ⟨hx, hb, hml, hown, hts⟩ (c_X0_allCows l D G da ami aki afi anw apa cows tasters newest known _ hw) (cwV 0 hts gX7_readRow_X0_allCows rfl rfl rfl (by decide +kernel) ⟨(Nat.le_of_ble_eq_true rfl), (Nat.le_of_ble_eq_true rfl)⟩) (xR_pv (hP.sub [1] rfl) hK (va_recv hK hP (ci := 0) (q0 := 1) rfl rfl)) rfl rfl hl.1 rfl (lv_room (Nat.le_of_ble_eq_true rfl)) dX7_readRow_42 ⟨Nat.zero_le _, Nat.zero_le _⟩) (fun r2 hw => ?_)
    refine x_cMi (wr := [(x_xo, .inr (7, [.ref da, .ref k_da, .int x_isKept, .ref t_ta, .ref p_pl, .ref r_tr, .ref w_ro, .ref x_ash])), (da, .inr (0, [.ref ami, .int cows, .ref aki, .ref afi, .int tasters, .ref anw, .ref apa, .int newest, .int known])), (x_ash, .inl (G 5, 4, .inr (.inr (.inr (.inr (fun k => some (x_sq k)))))))]) (va_runV (As := [.ref (x_sq x1.toNatClampNeg), .int x3, .int x4, .int r2]) (rest := []) ⟨hx, hb, hml, hown, hts⟩ (c_X3_read l D G _ w_ro w_amx w_aan w_aag (x_sq x1.toNatClampNeg) s_ait w_pairs w_mixes w_answers s_lane s_size s_items x3 x4 r2 _ hw) (cwV 4 hts gX7_readRow_X3_read rfl rfl rfl (by decide +kernel) ⟨(Nat.le_of_ble_eq_true rfl), (Nat.le_of_ble_eq_true rfl)⟩) (xM_pv (hP.sub [2, 3, 4, 6, 7] rfl) hK (hD.sub [2, 3, 4, 6, 7] (by decide) rfl) (va_recv hK hP (ci := 3) (q0 := 2) rfl rfl)) rfl rfl hl.1 rfl (lv_room (Nat.le_of_ble_eq_true rfl)) dX7_readRow_45 ⟨Nat.zero_le _, Nat.zero_le _⟩) hP hD hS hA [2, 3, 4, 6, 7] [0, 1, 5] rfl rfl (by decide) (by decide) [0, 1, 3, 4, 5, 2, 6, 7] (fun u => [(x_xo, .inr (7, [.ref da, .ref k_da, .int x_isKept, .ref t_ta, .ref p_pl, .ref r_tr, .ref w_ro, .ref x_ash])), (da, .inr (0, [.ref ami, .int cows, .ref aki, .ref afi, .int tasters, .ref anw, .ref apa, .int newest, .int known])), (w_ro, .inr (3, [.ref w_amx, .ref w_aan, .int u.1, .ref w_aag])), (w_amx, .inl (G 0, 6, .inl (u.2.1))), (w_aan, .inl (G 0, 6, .inl (u.2.2))), (x_ash, .inl (G 5, 4, .inr (.inr (.inr (.inr (fun k => some (x_sq k))))))), ((x_sq x1.toNatClampNeg), .inr (4, [.ref s_ait, .int s_lane, .int s_size])), (s_ait, .inl (G 1, 24, .inr (.inl s_items)))]) (by decide) (fun u => rfl) (fun r3 u H locs hw hP hD hS => ?_)
    obtain ⟨w_pairs_3, w_mixes_3, w_answers_3⟩ := u
    try dsimp only at hw
    replace hP : va_P D vwCl [(x_xo, .inr (7, [.ref da, .ref k_da, .int x_isKept, .ref t_ta, .ref p_pl, .ref r_tr, .ref w_ro, .ref x_ash])), (da, .inr (0, [.ref ami, .int cows, .ref aki, .ref afi, .int tasters, .ref anw, .ref apa, .int newest, .int known])), (w_ro, .inr (3, [.ref w_amx, .ref w_aan, .int w_pairs_3, .ref w_aag])), (w_amx, .inl (G 0, 6, .inl w_mixes_3)), (w_aan, .inl (G 0, 6, .inl w_answers_3)), (x_ash, .inl (G 5, 4, .inr (.inr (.inr (.inr (fun k => some (x_sq k))))))), ((x_sq x1.toNatClampNeg), .inr (4, [.ref s_ait, .int s_lane, .int s_size])), (s_ait, .inl (G 1, 24, .inr (.inl s_items)))] H := hP
    replace hD : va_D A [(x_xo, .inr (7, [.ref da, .ref k_da, .int x_isKept, .ref t_ta, .ref p_pl, .ref r_tr, .ref w_ro, .ref x_ash])), (da, .inr (0, [.ref ami, .int cows, .ref aki, .ref afi, .int tasters, .ref anw, .ref apa, .int newest, .int known])), (w_ro, .inr (3, [.ref w_amx, .ref w_aan, .int w_pairs_3, .ref w_aag])), (w_amx, .inl (G 0, 6, .inl w_mixes_3)), (w_aan, .inl (G 0, 6, .inl w_answers_3)), (x_ash, .inl (G 5, 4, .inr (.inr (.inr (.inr (fun k => some (x_sq k))))))), ((x_sq x1.toNatClampNeg), .inr (4, [.ref s_ait, .int s_lane, .int s_size])), (s_ait, .inl (G 1, 24, .inr (.inl s_items)))] := hD
    refine lv_if_eq (tgt := 55) hx hb dX7_readRow_48 (by decide) (fun c9 => ?_) (fun c9 => ?_)
    · replace hw := hw.1 c9
      refine lv_bipush (v := -2) hx hb dX7_readRow_55 (by decide) ?_
      exact W.iret hx hb hr (x_mi (u := (w_pairs_3, w_mixes_3, w_answers_3)) hP hK hD hS hw) hS.2.2 dX7_readRow_57
    · replace hw := hw.2 c9
      refine lv_iconst (v := 0) hx hb dX7_readRow_51 (by decide) ?_
      refine lv_goto (tgt := 57) hx hb dX7_readRow_52 (by decide) ?_
      exact W.iret hx hb hr (x_mi (u := (w_pairs_3, w_mixes_3, w_answers_3)) hP hK hD hS hw) hS.2.2 dX7_readRow_57
  · replace hw := hw.2 c9
    refine lv_iload hx hb dX7_readRow_22 (lv_at hl 0 rfl) ?_
    exact W.iret hx hb hr (x_mi (u := (w_pairs, w_mixes, w_answers)) hP hK hD hS hw) hS.2.2 dX7_readRow_24
set_option maxHeartbeats 4000000 in
set_option maxRecDepth 100000 in
theorem c_X7_fits (l : Launch) (D : va_G) (G : Nat → ClassId) (sz : Nat) (x_xo : Nat) (da : Nat) (k_da : Nat) (t_ta : Nat) (p_pl : Nat) (r_tr : Nat) (w_ro : Nat) (x_ash : Nat) (ami : Nat) (aki : Nat) (afi : Nat) (anw : Nat) (apa : Nat) (w_amx : Nat) (w_aan : Nat) (w_aag : Nat) (x_sq : Nat → Nat) (s_ait : Nat) (x_isKept : Int32) (cows : Int32) (tasters : Int32) (newest : Int32) (known : Int32) (milks : Nat → Int32) (kinds : Nat → Int32) (fines : Nat → Int32) (mayBe : Int32) (bearer : Int32) (day : Int32) (draw : Int32) (w_pairs : Int32) (w_mixes : Nat → Int32) (w_answers : Nat → Int32) (s_lane : Int32) (s_size : Int32) (s_items : Nat → Int64) (x1 : Int32) (x2 : Int32) (x3 : Int32) (x4 : Int32) (x5 : Int32) (x6 : Int32) (post : Int32 → Int32 → (Nat → Int32) → (Nat → Int32) → Prop) (hw : wp_X7_fits cows tasters milks kinds fines day w_pairs w_mixes w_answers s_lane s_size s_items x1 x2 x3 x4 x5 x6 post) : Met l yX7_fits wsX7_fits ({ frames := 6, cells := 0, slots := 0, locals := 145 } : Room) (va_Pc [.ref x_xo, .int x1, .int x2, .int x3, .int x4, .int x5, .int x6] (xM D G sz [(x_xo, .inr (7, [.ref da, .ref k_da, .int x_isKept, .ref t_ta, .ref p_pl, .ref r_tr, .ref w_ro, .ref x_ash])), (da, .inr (0, [.ref ami, .int cows, .ref aki, .ref afi, .int tasters, .ref anw, .ref apa, .int newest, .int known])), (ami, .inl (G 0, 8, .inl milks)), (aki, .inl (G 0, 4, .inl kinds)), (afi, .inl (G 0, 4, .inl fines)), (anw, .inr (1, [.int mayBe, .int bearer, .int day, .int draw])), (w_ro, .inr (3, [.ref w_amx, .ref w_aan, .int w_pairs, .ref w_aag])), (w_amx, .inl (G 0, 6, .inl w_mixes)), (w_aan, .inl (G 0, 6, .inl w_answers)), (x_ash, .inl (G 5, 4, .inr (.inr (.inr (.inr (fun k => some (x_sq k))))))), ((x_sq x2.toNatClampNeg), .inr (4, [.ref s_ait, .int s_lane, .int s_size])), (s_ait, .inl (G 1, 24, .inr (.inl s_items)))])) (va_Qi (fun r (u : Int32 × (Nat → Int32) × (Nat → Int32)) => post r u.1 u.2.1 u.2.2) (fun u t => xE D G (va_A [(x_xo, .inr (7, [.ref da, .ref k_da, .int x_isKept, .ref t_ta, .ref p_pl, .ref r_tr, .ref w_ro, .ref x_ash])), (da, .inr (0, [.ref ami, .int cows, .ref aki, .ref afi, .int tasters, .ref anw, .ref apa, .int newest, .int known])), (ami, .inl (G 0, 8, .inl milks)), (aki, .inl (G 0, 4, .inl kinds)), (afi, .inl (G 0, 4, .inl fines)), (anw, .inr (1, [.int mayBe, .int bearer, .int day, .int draw])), (w_ro, .inr (3, [.ref w_amx, .ref w_aan, .int w_pairs, .ref w_aag])), (w_amx, .inl (G 0, 6, .inl w_mixes)), (w_aan, .inl (G 0, 6, .inl w_answers)), (x_ash, .inl (G 5, 4, .inr (.inr (.inr (.inr (fun k => some (x_sq k))))))), ((x_sq x2.toNatClampNeg), .inr (4, [.ref s_ait, .int s_lane, .int s_size])), (s_ait, .inl (G 1, 24, .inr (.inl s_items)))] sz) [(x_xo, .inr (7, [.ref da, .ref k_da, .int x_isKept, .ref t_ta, .ref p_pl, .ref r_tr, .ref w_ro, .ref x_ash])), (da, .inr (0, [.ref ami, .int cows, .ref aki, .ref afi, .int tasters, .ref anw, .ref apa, .int newest, .int known])), (ami, .inl (G 0, 8, .inl milks)), (aki, .inl (G 0, 4, .inl kinds)), (afi, .inl (G 0, 4, .inl fines)), (anw, .inr (1, [.int mayBe, .int bearer, .int day, .int draw])), (w_ro, .inr (3, [.ref w_amx, .ref w_aan, .int u.1, .ref w_aag])), (w_amx, .inl (G 0, 6, .inl (u.2.1))), (w_aan, .inl (G 0, 6, .inl (u.2.2))), (x_ash, .inl (G 5, 4, .inr (.inr (.inr (.inr (fun k => some (x_sq k))))))), ((x_sq x2.toNatClampNeg), .inr (4, [.ref s_ait, .int s_lane, .int s_size])), (s_ait, .inl (G 1, 24, .inr (.inl s_items)))] t) (va_A [(x_xo, .inr (7, [.ref da, .ref k_da, .int x_isKept, .ref t_ta, .ref p_pl, .ref r_tr, .ref w_ro, .ref x_ash])), (da, .inr (0, [.ref ami, .int cows, .ref aki, .ref afi, .int tasters, .ref anw, .ref apa, .int newest, .int known])), (ami, .inl (G 0, 8, .inl milks)), (aki, .inl (G 0, 4, .inl kinds)), (afi, .inl (G 0, 4, .inl fines)), (anw, .inr (1, [.int mayBe, .int bearer, .int day, .int draw])), (w_ro, .inr (3, [.ref w_amx, .ref w_aan, .int w_pairs, .ref w_aag])), (w_amx, .inl (G 0, 6, .inl w_mixes)), (w_aan, .inl (G 0, 6, .inl w_answers)), (x_ash, .inl (G 5, 4, .inr (.inr (.inr (.inr (fun k => some (x_sq k))))))), ((x_sq x2.toNatClampNeg), .inr (4, [.ref s_ait, .int s_lane, .int s_size])), (s_ait, .inl (G 1, 24, .inr (.inl s_items)))] sz)) 0 0 (va_A [(x_xo, .inr (7, [.ref da, .ref k_da, .int x_isKept, .ref t_ta, .ref p_pl, .ref r_tr, .ref w_ro, .ref x_ash])), (da, .inr (0, [.ref ami, .int cows, .ref aki, .ref afi, .int tasters, .ref anw, .ref apa, .int newest, .int known])), (ami, .inl (G 0, 8, .inl milks)), (aki, .inl (G 0, 4, .inl kinds)), (afi, .inl (G 0, 4, .inl fines)), (anw, .inr (1, [.int mayBe, .int bearer, .int day, .int draw])), (w_ro, .inr (3, [.ref w_amx, .ref w_aan, .int w_pairs, .ref w_aag])), (w_amx, .inl (G 0, 6, .inl w_mixes)), (w_aan, .inl (G 0, 6, .inl w_answers)), (x_ash, .inl (G 5, 4, .inr (.inr (.inr (.inr (fun k => some (x_sq k))))))), ((x_sq x2.toNatClampNeg), .inr (4, [.ref s_ait, .int s_lane, .int s_size])), (s_ait, .inl (G 1, 24, .inr (.inl s_items)))] sz) := by
  refine Met.ofW (cc := cX7_fits) (maxL := 10) (ret := (some .int)) (by decide) rfl ?_
  intro p e s m args below meth c s₁ B hml hv
  obtain ⟨rfl, hsz, hP, hK, hD0⟩ := hv
  have hx := B.exec
  have hb := B.bytes
  have hr := B.returns
  have hts := atoms_spec (ws := wsX7_fits) B.pre
  have hown : s.vm.findClass RX7 = some m.cls := findClass_of_methodNamed B.named
  have hlocks := B.notSynchronized
  subst hsz
  have hD := hD0.self (sz := s.heap.size)
  generalize hAe : va_A [(x_xo, .inr (7, [.ref da, .ref k_da, .int x_isKept, .ref t_ta, .ref p_pl, .ref r_tr, .ref w_ro, .ref x_ash])), (da, .inr (0, [.ref ami, .int cows, .ref aki, .ref afi, .int tasters, .ref anw, .ref apa, .int newest, .int known])), (ami, .inl (G 0, 8, .inl milks)), (aki, .inl (G 0, 4, .inl kinds)), (afi, .inl (G 0, 4, .inl fines)), (anw, .inr (1, [.int mayBe, .int bearer, .int day, .int draw])), (w_ro, .inr (3, [.ref w_amx, .ref w_aan, .int w_pairs, .ref w_aag])), (w_amx, .inl (G 0, 6, .inl w_mixes)), (w_aan, .inl (G 0, 6, .inl w_answers)), (x_ash, .inl (G 5, 4, .inr (.inr (.inr (.inr (fun k => some (x_sq k))))))), ((x_sq x2.toNatClampNeg), .inr (4, [.ref s_ait, .int s_lane, .int s_size])), (s_ait, .inl (G 1, 24, .inr (.inl s_items)))] s.heap.size = A at hD ⊢
  have hA : ∀ q : Nat, s.heap.size ≤ q → A q := fun q h => by rw [← hAe]; exact Or.inr h
  have hS : va_S A s.heap s.heap [] := va_S.rf
  have inX0 : ∀ w ∈ wsX00, w ∈ wsX7_fits := by decide +kernel
  have inX7 : ∀ w ∈ wsX70, w ∈ wsX7_fits := by decide +kernel
  have fl12 := hts (.fieldLink RX7 12 "NewsCow" "dairy" "LNewsCow$Dairy;") (by decide +kernel)
  have fl103 := hts (.fieldLink RX7 103 "NewsCow$Dairy" "kinds" "[I") (by decide +kernel)
  have fl106 := hts (.fieldLink RX7 106 "NewsCow$Dairy" "fines" "[I") (by decide +kernel)
  have fl47 := hts (.fieldLink RX7 47 "NewsCow" "row" "LNewsCow$Row;") (by decide +kernel)
  have hl := lv_entry ([.ref x_xo, .int x1, .int x2, .int x3, .int x4, .int x5, .int x6] : List Value) (n := 10) (Nat.le_of_ble_eq_true rfl)
  rw [lg_entry_eq]
  generalize (lg_sl ([.ref x_xo, .int x1, .int x2, .int x3, .int x4, .int x5, .int x6] : List Value) ++ List.replicate (10 - (lg_sl ([.ref x_xo, .int x1, .int x2, .int x3, .int x4, .int x5, .int x6] : List Value)).length) Slot.unset).toArray = ls at hl ⊢
  have hl : lv_has ls 10 [(0, .ref x_xo), (1, .int x1), (2, .int x2), (3, .int x3), (4, .int x4), (5, .int x5), (6, .int x6)] := hl
  unfold wp_X7_fits at hw
  refine lv_aload_n hx hb dX7_fits_0 rfl (lv_at hl 0 rfl) ?_
  refine lv_iload_n hx hb dX7_fits_1 rfl (lv_at hl 1 rfl) ?_
  refine vp_callSi (W.runV (As := [.int x1]) (rest := []) ⟨hx, hb, hml, hown, hts⟩ (c_X7_isTaster l D G x_xo da k_da t_ta p_pl r_tr w_ro x_ash ami aki afi anw apa x_isKept cows tasters newest known x1 _ hw) (cwV 1 hts gX7_fits_X7_isTaster rfl rfl rfl (by decide +kernel) ⟨(Nat.le_of_ble_eq_true rfl), (Nat.le_of_ble_eq_true rfl)⟩) (xR_pv (hP.sub [0, 1] rfl) hK (va_recv hK hP (ci := 7) (q0 := 0) rfl rfl)) rfl rfl hl.1 rfl (lv_room (Nat.le_of_ble_eq_true rfl)) dX7_fits_2 ⟨Nat.zero_le _, Nat.zero_le _⟩) (fun r1 hw => ?_)
  refine lv_if_eq (tgt := 40) hx hb dX7_fits_5 (by decide) (fun c9 => ?_) (fun c9 => ?_)
  · replace hw := hw.1 c9
    refine lv_iconst (v := -1) hx hb dX7_fits_40 (by decide) ?_
    exact W.iret hx hb hr (x_mi (u := (w_pairs, w_mixes, w_answers)) hP hK hD hS hw) hS.2.2 dX7_fits_41
  · replace hw := hw.2 c9
    refine lv_iload_n hx hb dX7_fits_8 rfl (lv_at hl 2 rfl) ?_
    refine lv_iload_n hx hb dX7_fits_9 rfl (lv_at hl 3 rfl) ?_
    refine vp_callSi (W.runS (As := [.int x2, .int x3]) (rest := []) ⟨hx, hb, hml, hown, hts⟩ (c_X7_isLaneOfSheet l D G x2 x3 _ hw) (va_cwS 2 hts gX7_fits_X7_isLaneOfSheet rfl rfl rfl (by decide +kernel) ⟨(Nat.le_of_ble_eq_true rfl), (Nat.le_of_ble_eq_true rfl)⟩) (xR_ps (hP.sub [] rfl) hK) rfl rfl hl.1 rfl (lv_room (Nat.le_of_ble_eq_true rfl)) dX7_fits_10 ⟨Nat.zero_le _, Nat.zero_le _⟩) (fun r2 hw => ?_)
    refine lv_if_eq (tgt := 40) hx hb dX7_fits_13 (by decide) (fun c9 => ?_) (fun c9 => ?_)
    · replace hw := hw.1 c9
      refine lv_iconst (v := -1) hx hb dX7_fits_40 (by decide) ?_
      exact W.iret hx hb hr (x_mi (u := (w_pairs, w_mixes, w_answers)) hP hK hD hS hw) hS.2.2 dX7_fits_41
    · replace hw := hw.2 c9
      refine lv_iload hx hb dX7_fits_16 (lv_at hl 5 rfl) ?_
      refine lv_iconst (v := 1) hx hb dX7_fits_18 (by decide) ?_
      refine lv_icmp_lt (tgt := 40) hx hb dX7_fits_19 (by decide) (fun c9 => ?_) (fun c9 => ?_)
      · replace hw := hw.1 c9
        refine lv_iconst (v := -1) hx hb dX7_fits_40 (by decide) ?_
        exact W.iret hx hb hr (x_mi (u := (w_pairs, w_mixes, w_answers)) hP hK hD hS hw) hS.2.2 dX7_fits_41
      · replace hw := hw.2 c9
        refine lv_iload hx hb dX7_fits_22 (lv_at hl 5 rfl) ?_
        refine lv_bipush (v := 6) hx hb dX7_fits_24 (by decide) ?_
        refine lv_icmp_gt (tgt := 40) hx hb dX7_fits_26 (by decide) (fun c9 => ?_) (fun c9 => ?_)
        · replace hw := hw.1 c9
          refine lv_iconst (v := -1) hx hb dX7_fits_40 (by decide) ?_
          exact W.iret hx hb hr (x_mi (u := (w_pairs, w_mixes, w_answers)) hP hK hD hS hw) hS.2.2 dX7_fits_41
        · replace hw := hw.2 c9
          refine lv_iload hx hb dX7_fits_29 (lv_at hl 6 rfl) ?_
          refine lv_if_lt (tgt := 40) hx hb dX7_fits_31 (by decide) (fun c9 => ?_) (fun c9 => ?_)
          · replace hw := hw.1 c9
            refine lv_iconst (v := -1) hx hb dX7_fits_40 (by decide) ?_
            exact W.iret hx hb hr (x_mi (u := (w_pairs, w_mixes, w_answers)) hP hK hD hS hw) hS.2.2 dX7_fits_41
          · replace hw := hw.2 c9
            refine lv_iload hx hb dX7_fits_34 (lv_at hl 6 rfl) ?_
            refine lv_iconst (v := 3) hx hb dX7_fits_36 (by decide) ?_
            refine lv_icmp_le (tgt := 42) hx hb dX7_fits_37 (by decide) (fun c9 => ?_) (fun c9 => ?_)
            · replace hw := hw.1 c9
              refine lv_aload_n hx hb dX7_fits_42 rfl (lv_at hl 0 rfl) ?_
              refine lv_iload_n hx hb dX7_fits_43 rfl (lv_at hl 2 rfl) ?_
              refine lv_iload_n hx hb dX7_fits_44 rfl (lv_at hl 3 rfl) ?_
              refine lv_iload hx hb dX7_fits_45 (lv_at hl 4 rfl) ?_
              refine lv_iload hx hb dX7_fits_47 (lv_at hl 5 rfl) ?_
              refine x_cMi (wr := [(ami, .inl (G 0, 8, .inl milks)), (aki, .inl (G 0, 4, .inl kinds)), (afi, .inl (G 0, 4, .inl fines)), (anw, .inr (1, [.int mayBe, .int bearer, .int day, .int draw]))]) (va_runV (As := [.int x2, .int x3, .int x4, .int x5]) (rest := []) ⟨hx, hb, hml, hown, hts⟩ (c_X7_readRow l D G _ x_xo da k_da t_ta p_pl r_tr w_ro x_ash ami aki afi anw apa w_amx w_aan w_aag x_sq s_ait x_isKept cows tasters newest known w_pairs w_mixes w_answers s_lane s_size s_items x2 x3 x4 x5 _ hw) (cwV 4 hts gX7_fits_X7_readRow rfl rfl rfl (by decide +kernel) ⟨(Nat.le_of_ble_eq_true rfl), (Nat.le_of_ble_eq_true rfl)⟩) (xM_pv (hP.sub [0, 1, 6, 7, 8, 9, 10, 11] rfl) hK (hD.sub [0, 1, 6, 7, 8, 9, 10, 11] (by decide) rfl) (va_recv hK hP (ci := 7) (q0 := 0) rfl rfl)) rfl rfl hl.1 rfl (lv_room (Nat.le_of_ble_eq_true rfl)) dX7_fits_49 ⟨Nat.zero_le _, Nat.zero_le _⟩) hP hD hS hA [0, 1, 6, 7, 8, 9, 10, 11] [2, 3, 4, 5] rfl rfl (by decide) (by decide) [4, 5, 0, 1, 2, 3, 6, 7, 8, 9, 10, 11] (fun u => [(x_xo, .inr (7, [.ref da, .ref k_da, .int x_isKept, .ref t_ta, .ref p_pl, .ref r_tr, .ref w_ro, .ref x_ash])), (da, .inr (0, [.ref ami, .int cows, .ref aki, .ref afi, .int tasters, .ref anw, .ref apa, .int newest, .int known])), (ami, .inl (G 0, 8, .inl milks)), (aki, .inl (G 0, 4, .inl kinds)), (afi, .inl (G 0, 4, .inl fines)), (anw, .inr (1, [.int mayBe, .int bearer, .int day, .int draw])), (w_ro, .inr (3, [.ref w_amx, .ref w_aan, .int u.1, .ref w_aag])), (w_amx, .inl (G 0, 6, .inl (u.2.1))), (w_aan, .inl (G 0, 6, .inl (u.2.2))), (x_ash, .inl (G 5, 4, .inr (.inr (.inr (.inr (fun k => some (x_sq k))))))), ((x_sq x2.toNatClampNeg), .inr (4, [.ref s_ait, .int s_lane, .int s_size])), (s_ait, .inl (G 1, 24, .inr (.inl s_items)))]) (by decide) (fun u => rfl) (fun r3 u H locs hw hP hD hS => ?_)
              obtain ⟨w_pairs_3, w_mixes_3, w_answers_3⟩ := u
              try dsimp only at hw
              replace hP : va_P D vwCl [(x_xo, .inr (7, [.ref da, .ref k_da, .int x_isKept, .ref t_ta, .ref p_pl, .ref r_tr, .ref w_ro, .ref x_ash])), (da, .inr (0, [.ref ami, .int cows, .ref aki, .ref afi, .int tasters, .ref anw, .ref apa, .int newest, .int known])), (ami, .inl (G 0, 8, .inl milks)), (aki, .inl (G 0, 4, .inl kinds)), (afi, .inl (G 0, 4, .inl fines)), (anw, .inr (1, [.int mayBe, .int bearer, .int day, .int draw])), (w_ro, .inr (3, [.ref w_amx, .ref w_aan, .int w_pairs_3, .ref w_aag])), (w_amx, .inl (G 0, 6, .inl w_mixes_3)), (w_aan, .inl (G 0, 6, .inl w_answers_3)), (x_ash, .inl (G 5, 4, .inr (.inr (.inr (.inr (fun k => some (x_sq k))))))), ((x_sq x2.toNatClampNeg), .inr (4, [.ref s_ait, .int s_lane, .int s_size])), (s_ait, .inl (G 1, 24, .inr (.inl s_items)))] H := hP
              replace hD : va_D A [(x_xo, .inr (7, [.ref da, .ref k_da, .int x_isKept, .ref t_ta, .ref p_pl, .ref r_tr, .ref w_ro, .ref x_ash])), (da, .inr (0, [.ref ami, .int cows, .ref aki, .ref afi, .int tasters, .ref anw, .ref apa, .int newest, .int known])), (ami, .inl (G 0, 8, .inl milks)), (aki, .inl (G 0, 4, .inl kinds)), (afi, .inl (G 0, 4, .inl fines)), (anw, .inr (1, [.int mayBe, .int bearer, .int day, .int draw])), (w_ro, .inr (3, [.ref w_amx, .ref w_aan, .int w_pairs_3, .ref w_aag])), (w_amx, .inl (G 0, 6, .inl w_mixes_3)), (w_aan, .inl (G 0, 6, .inl w_answers_3)), (x_ash, .inl (G 5, 4, .inr (.inr (.inr (.inr (fun k => some (x_sq k))))))), ((x_sq x2.toNatClampNeg), .inr (4, [.ref s_ait, .int s_lane, .int s_size])), (s_ait, .inl (G 1, 24, .inr (.inl s_items)))] := hD
              refine lv_istore (lv' := [(7, .int r3), (0, .ref x_xo), (1, .int x1), (2, .int x2), (3, .int x3), (4, .int x4), (5, .int x5), (6, .int x6)]) hx hb dX7_fits_52 hl (by decide) rfl (fun ls hl => ?_)
              refine lv_iload hx hb dX7_fits_54 (lv_at hl 0 rfl) ?_
              refine lv_if_eq (tgt := 62) hx hb dX7_fits_56 (by decide) (fun c9 => ?_) (fun c9 => ?_)
              · replace hw := hw.1 c9
                refine lv_aload_n hx hb dX7_fits_62 rfl (lv_at hl 1 rfl) ?_
                refine va_get (D := D) (ci := 7) (v := .ref da) (C := RX7) (T := TX7) (N := 8) hx hb hts inX7 hown hK hP 0 rfl rfl 0 (by decide) fl12 (fun _ h9 => h9) rfl dX7_fits_63 ?_
                refine va_get (D := D) (ci := 0) (v := .ref aki) (C := RX0) (T := TX0) (N := 9) hx hb hts inX0 hown hK hP 1 rfl rfl 2 (by decide) fl103 (fun _ h9 => h9) rfl dX7_fits_66 ?_
                refine lv_iload_n hx hb dX7_fits_69 rfl (lv_at hl 2 rfl) ?_
                refine x_iald (j := x1.toNatClampNeg) hx hb hK hP 3 0 rfl rfl rfl hw.1 dX7_fits_70 ?_
                replace hw := hw.2
                refine lv_istore (lv' := [(8, .int (kinds x1.toNatClampNeg)), (7, .int r3), (0, .ref x_xo), (1, .int x1), (2, .int x2), (3, .int x3), (4, .int x4), (5, .int x5), (6, .int x6)]) hx hb dX7_fits_71 hl (by decide) rfl (fun ls hl => ?_)
                refine lv_aload_n hx hb dX7_fits_73 rfl (lv_at hl 2 rfl) ?_
                refine va_get (D := D) (ci := 7) (v := .ref da) (C := RX7) (T := TX7) (N := 8) hx hb hts inX7 hown hK hP 0 rfl rfl 0 (by decide) fl12 (fun _ h9 => h9) rfl dX7_fits_74 ?_
                refine va_get (D := D) (ci := 0) (v := .ref afi) (C := RX0) (T := TX0) (N := 9) hx hb hts inX0 hown hK hP 1 rfl rfl 3 (by decide) fl106 (fun _ h9 => h9) rfl dX7_fits_77 ?_
                refine lv_iload_n hx hb dX7_fits_80 rfl (lv_at hl 3 rfl) ?_
                refine x_iald (j := x1.toNatClampNeg) hx hb hK hP 4 0 rfl rfl rfl hw.1 dX7_fits_81 ?_
                replace hw := hw.2
                refine lv_istore (lv' := [(9, .int (fines x1.toNatClampNeg)), (8, .int (kinds x1.toNatClampNeg)), (7, .int r3), (0, .ref x_xo), (1, .int x1), (2, .int x2), (3, .int x3), (4, .int x4), (5, .int x5), (6, .int x6)]) hx hb dX7_fits_82 hl (by decide) rfl (fun ls hl => ?_)
                refine lv_iload hx hb dX7_fits_84 (lv_at hl 9 rfl) ?_
                by_cases c0 : x6 = 0
                · replace hw := hw.1 c0
                  refine lv_tableIn (tgt := 112) (off := 26) hx hb dX7_fits_86 (by rw [c0]; decide) (by rw [c0]; decide) (by rw [c0]; decide) (by decide) ?_
                  refine lv_aload_n hx hb dX7_fits_112 rfl (lv_at hl 3 rfl) ?_
                  refine va_get (D := D) (ci := 7) (v := .ref w_ro) (C := RX7) (T := TX7) (N := 8) hx hb hts inX7 hown hK hP 0 rfl rfl 6 (by decide) fl47 (fun _ h9 => h9) rfl dX7_fits_113 ?_
                  refine lv_aload_n hx hb dX7_fits_116 rfl (lv_at hl 3 rfl) ?_
                  refine va_get (D := D) (ci := 7) (v := .ref da) (C := RX7) (T := TX7) (N := 8) hx hb hts inX7 hown hK hP 0 rfl rfl 0 (by decide) fl12 (fun _ h9 => h9) rfl dX7_fits_117 ?_
                  refine lv_iload hx hb dX7_fits_120 (lv_at hl 1 rfl) ?_
                  refine lv_iload hx hb dX7_fits_122 (lv_at hl 0 rfl) ?_
                  refine vp_callSi (W.runV (As := [.ref da, .int (kinds x1.toNatClampNeg), .int (fines x1.toNatClampNeg)]) (rest := []) ⟨hx, hb, hml, hown, hts⟩ (c_X3_fitting l D G w_ro w_amx w_aan w_aag da ami aki afi anw apa w_pairs_3 w_mixes_3 w_answers_3 cows tasters newest known milks mayBe bearer day draw (kinds x1.toNatClampNeg) (fines x1.toNatClampNeg) _ hw) (cwV 3 hts gX7_fits_X3_fitting rfl rfl rfl (by decide +kernel) ⟨(Nat.le_of_ble_eq_true rfl), (Nat.le_of_ble_eq_true rfl)⟩) (xR_pv (hP.sub [6, 7, 8, 1, 2, 5] rfl) hK (va_recv hK hP (ci := 3) (q0 := 6) rfl rfl)) rfl rfl hl.1 rfl (lv_room (Nat.le_of_ble_eq_true rfl)) dX7_fits_124 ⟨Nat.zero_le _, Nat.zero_le _⟩) (fun r4 hw => ?_)
                  exact W.iret hx hb hr (x_mi (u := (w_pairs_3, w_mixes_3, w_answers_3)) hP hK hD hS hw) hS.2.2 dX7_fits_127
                replace hw := hw.2 c0
                by_cases c1 : x6 = 1
                · replace hw := hw.1 c1
                  refine lv_tableIn (tgt := 128) (off := 42) hx hb dX7_fits_86 (by rw [c1]; decide) (by rw [c1]; decide) (by rw [c1]; decide) (by decide) ?_
                  refine lv_aload_n hx hb dX7_fits_128 rfl (lv_at hl 3 rfl) ?_
                  refine va_get (D := D) (ci := 7) (v := .ref w_ro) (C := RX7) (T := TX7) (N := 8) hx hb hts inX7 hown hK hP 0 rfl rfl 6 (by decide) fl47 (fun _ h9 => h9) rfl dX7_fits_129 ?_
                  refine lv_aload_n hx hb dX7_fits_132 rfl (lv_at hl 3 rfl) ?_
                  refine va_get (D := D) (ci := 7) (v := .ref da) (C := RX7) (T := TX7) (N := 8) hx hb hts inX7 hown hK hP 0 rfl rfl 0 (by decide) fl12 (fun _ h9 => h9) rfl dX7_fits_133 ?_
                  refine lv_iload hx hb dX7_fits_136 (lv_at hl 1 rfl) ?_
                  refine lv_iload hx hb dX7_fits_138 (lv_at hl 0 rfl) ?_
                  refine vp_callSi (W.runV (As := [.ref da, .int (kinds x1.toNatClampNeg), .int (fines x1.toNatClampNeg)]) (rest := []) ⟨hx, hb, hml, hown, hts⟩ (c_X3_fittingButOne l D G w_ro w_amx w_aan w_aag da ami aki afi anw apa w_pairs_3 w_mixes_3 w_answers_3 cows tasters newest known milks mayBe bearer day draw (kinds x1.toNatClampNeg) (fines x1.toNatClampNeg) _ hw) (cwV 3 hts gX7_fits_X3_fittingButOne rfl rfl rfl (by decide +kernel) ⟨(Nat.le_of_ble_eq_true rfl), (Nat.le_of_ble_eq_true rfl)⟩) (xR_pv (hP.sub [6, 7, 8, 1, 2, 5] rfl) hK (va_recv hK hP (ci := 3) (q0 := 6) rfl rfl)) rfl rfl hl.1 rfl (lv_room (Nat.le_of_ble_eq_true rfl)) dX7_fits_140 ⟨Nat.zero_le _, Nat.zero_le _⟩) (fun r5 hw => ?_)
                  exact W.iret hx hb hr (x_mi (u := (w_pairs_3, w_mixes_3, w_answers_3)) hP hK hD hS hw) hS.2.2 dX7_fits_143
                replace hw := hw.2 c1
                by_cases c2 : x6 = 2
                · replace hw := hw.1 c2
                  refine lv_tableIn (tgt := 144) (off := 58) hx hb dX7_fits_86 (by rw [c2]; decide) (by rw [c2]; decide) (by rw [c2]; decide) (by decide) ?_
                  refine lv_aload_n hx hb dX7_fits_144 rfl (lv_at hl 3 rfl) ?_
                  refine va_get (D := D) (ci := 7) (v := .ref w_ro) (C := RX7) (T := TX7) (N := 8) hx hb hts inX7 hown hK hP 0 rfl rfl 6 (by decide) fl47 (fun _ h9 => h9) rfl dX7_fits_145 ?_
                  refine lv_aload_n hx hb dX7_fits_148 rfl (lv_at hl 3 rfl) ?_
                  refine va_get (D := D) (ci := 7) (v := .ref da) (C := RX7) (T := TX7) (N := 8) hx hb hts inX7 hown hK hP 0 rfl rfl 0 (by decide) fl12 (fun _ h9 => h9) rfl dX7_fits_149 ?_
                  refine lv_iload hx hb dX7_fits_152 (lv_at hl 0 rfl) ?_
                  refine vp_callSi (W.runV (As := [.ref da, .int (fines x1.toNatClampNeg)]) (rest := []) ⟨hx, hb, hml, hown, hts⟩ (c_X3_kindsThatFit l D G w_ro w_amx w_aan w_aag da ami aki afi anw apa w_pairs_3 w_mixes_3 w_answers_3 cows tasters newest known milks mayBe bearer day draw (fines x1.toNatClampNeg) _ hw) (cwV 2 hts gX7_fits_X3_kindsThatFit rfl rfl rfl (by decide +kernel) ⟨(Nat.le_of_ble_eq_true rfl), (Nat.le_of_ble_eq_true rfl)⟩) (xR_pv (hP.sub [6, 7, 8, 1, 2, 5] rfl) hK (va_recv hK hP (ci := 3) (q0 := 6) rfl rfl)) rfl rfl hl.1 rfl (lv_room (Nat.le_of_ble_eq_true rfl)) dX7_fits_154 ⟨Nat.zero_le _, Nat.zero_le _⟩) (fun r6 hw => ?_)
                  exact W.iret hx hb hr (x_mi (u := (w_pairs_3, w_mixes_3, w_answers_3)) hP hK hD hS hw) hS.2.2 dX7_fits_157
                replace hw := hw.2 c2
                refine lv_tableOut (tgt := 158) hx hb dX7_fits_86 (x_sw0_2 c0 c1 c2) (by decide) ?_
                refine lv_aload_n hx hb dX7_fits_158 rfl (lv_at hl 3 rfl) ?_
                refine va_get (D := D) (ci := 7) (v := .ref w_ro) (C := RX7) (T := TX7) (N := 8) hx hb hts inX7 hown hK hP 0 rfl rfl 6 (by decide) fl47 (fun _ h9 => h9) rfl dX7_fits_159 ?_
                refine lv_aload_n hx hb dX7_fits_162 rfl (lv_at hl 3 rfl) ?_
                refine va_get (D := D) (ci := 7) (v := .ref da) (C := RX7) (T := TX7) (N := 8) hx hb hts inX7 hown hK hP 0 rfl rfl 0 (by decide) fl12 (fun _ h9 => h9) rfl dX7_fits_163 ?_
                refine lv_iload hx hb dX7_fits_166 (lv_at hl 1 rfl) ?_
                refine vp_callSi (W.runV (As := [.ref da, .int (kinds x1.toNatClampNeg)]) (rest := []) ⟨hx, hb, hml, hown, hts⟩ (c_X3_finesThatFit l D G w_ro w_amx w_aan w_aag da ami aki afi anw apa w_pairs_3 w_mixes_3 w_answers_3 cows tasters newest known milks mayBe bearer day draw (kinds x1.toNatClampNeg) _ hw) (cwV 2 hts gX7_fits_X3_finesThatFit rfl rfl rfl (by decide +kernel) ⟨(Nat.le_of_ble_eq_true rfl), (Nat.le_of_ble_eq_true rfl)⟩) (xR_pv (hP.sub [6, 7, 8, 1, 2, 5] rfl) hK (va_recv hK hP (ci := 3) (q0 := 6) rfl rfl)) rfl rfl hl.1 rfl (lv_room (Nat.le_of_ble_eq_true rfl)) dX7_fits_168 ⟨Nat.zero_le _, Nat.zero_le _⟩) (fun r7 hw => ?_)
                exact W.iret hx hb hr (x_mi (u := (w_pairs_3, w_mixes_3, w_answers_3)) hP hK hD hS hw) hS.2.2 dX7_fits_171
              · replace hw := hw.2 c9
                refine lv_iload hx hb dX7_fits_59 (lv_at hl 0 rfl) ?_
                exact W.iret hx hb hr (x_mi (u := (w_pairs_3, w_mixes_3, w_answers_3)) hP hK hD hS hw) hS.2.2 dX7_fits_61
            · replace hw := hw.2 c9
              refine lv_iconst (v := -1) hx hb dX7_fits_40 (by decide) ?_
              exact W.iret hx hb hr (x_mi (u := (w_pairs, w_mixes, w_answers)) hP hK hD hS hw) hS.2.2 dX7_fits_41
set_option maxHeartbeats 4000000 in
set_option maxRecDepth 100000 in
theorem c_X7_slips (l : Launch) (D : va_G) (G : Nat → ClassId) (sz : Nat) (x_xo : Nat) (da : Nat) (k_da : Nat) (t_ta : Nat) (p_pl : Nat) (r_tr : Nat) (w_ro : Nat) (x_ash : Nat) (ami : Nat) (aki : Nat) (afi : Nat) (anw : Nat) (apa : Nat) (w_amx : Nat) (w_aan : Nat) (w_aag : Nat) (x_sq : Nat → Nat) (s_ait : Nat) (x_isKept : Int32) (cows : Int32) (tasters : Int32) (newest : Int32) (known : Int32) (milks : Nat → Int32) (kinds : Nat → Int32) (fines : Nat → Int32) (mayBe : Int32) (bearer : Int32) (day : Int32) (draw : Int32) (w_pairs : Int32) (w_mixes : Nat → Int32) (w_answers : Nat → Int32) (w_agreed : Nat → Int32) (s_lane : Int32) (s_size : Int32) (s_items : Nat → Int64) (x1 : Int32) (x2 : Int32) (x3 : Int32) (x4 : Int32) (x5 : Int32) (x6 : Int32) (x7 : Int32) (x8 : Int32) (post : Int64 → Int32 → (Nat → Int32) → (Nat → Int32) → (Nat → Int32) → Prop) (hw : wp_X7_slips cows tasters milks kinds fines mayBe day w_pairs w_mixes w_answers w_agreed s_lane s_size s_items x1 x2 x3 x4 x5 x6 x7 x8 post) : Met l yX7_slips wsX7_slips ({ frames := 5, cells := 0, slots := 0, locals := 120 } : Room) (va_Pc [.ref x_xo, .int x1, .int x2, .int x3, .int x4, .int x5, .int x6, .int x7, .int x8] (xM D G sz [(x_xo, .inr (7, [.ref da, .ref k_da, .int x_isKept, .ref t_ta, .ref p_pl, .ref r_tr, .ref w_ro, .ref x_ash])), (da, .inr (0, [.ref ami, .int cows, .ref aki, .ref afi, .int tasters, .ref anw, .ref apa, .int newest, .int known])), (ami, .inl (G 0, 8, .inl milks)), (aki, .inl (G 0, 4, .inl kinds)), (afi, .inl (G 0, 4, .inl fines)), (anw, .inr (1, [.int mayBe, .int bearer, .int day, .int draw])), (w_ro, .inr (3, [.ref w_amx, .ref w_aan, .int w_pairs, .ref w_aag])), (w_amx, .inl (G 0, 6, .inl w_mixes)), (w_aan, .inl (G 0, 6, .inl w_answers)), (w_aag, .inl (G 0, 6, .inl w_agreed)), (x_ash, .inl (G 5, 4, .inr (.inr (.inr (.inr (fun k => some (x_sq k))))))), ((x_sq x4.toNatClampNeg), .inr (4, [.ref s_ait, .int s_lane, .int s_size])), (s_ait, .inl (G 1, 24, .inr (.inl s_items)))])) (va_Ql (fun r (u : Int32 × (Nat → Int32) × (Nat → Int32) × (Nat → Int32)) => post r u.1 u.2.1 u.2.2.1 u.2.2.2) (fun u t => xE D G (va_A [(x_xo, .inr (7, [.ref da, .ref k_da, .int x_isKept, .ref t_ta, .ref p_pl, .ref r_tr, .ref w_ro, .ref x_ash])), (da, .inr (0, [.ref ami, .int cows, .ref aki, .ref afi, .int tasters, .ref anw, .ref apa, .int newest, .int known])), (ami, .inl (G 0, 8, .inl milks)), (aki, .inl (G 0, 4, .inl kinds)), (afi, .inl (G 0, 4, .inl fines)), (anw, .inr (1, [.int mayBe, .int bearer, .int day, .int draw])), (w_ro, .inr (3, [.ref w_amx, .ref w_aan, .int w_pairs, .ref w_aag])), (w_amx, .inl (G 0, 6, .inl w_mixes)), (w_aan, .inl (G 0, 6, .inl w_answers)), (w_aag, .inl (G 0, 6, .inl w_agreed)), (x_ash, .inl (G 5, 4, .inr (.inr (.inr (.inr (fun k => some (x_sq k))))))), ((x_sq x4.toNatClampNeg), .inr (4, [.ref s_ait, .int s_lane, .int s_size])), (s_ait, .inl (G 1, 24, .inr (.inl s_items)))] sz) [(x_xo, .inr (7, [.ref da, .ref k_da, .int x_isKept, .ref t_ta, .ref p_pl, .ref r_tr, .ref w_ro, .ref x_ash])), (da, .inr (0, [.ref ami, .int cows, .ref aki, .ref afi, .int tasters, .ref anw, .ref apa, .int newest, .int known])), (ami, .inl (G 0, 8, .inl milks)), (aki, .inl (G 0, 4, .inl kinds)), (afi, .inl (G 0, 4, .inl fines)), (anw, .inr (1, [.int mayBe, .int bearer, .int day, .int draw])), (w_ro, .inr (3, [.ref w_amx, .ref w_aan, .int u.1, .ref w_aag])), (w_amx, .inl (G 0, 6, .inl (u.2.1))), (w_aan, .inl (G 0, 6, .inl (u.2.2.1))), (w_aag, .inl (G 0, 6, .inl (u.2.2.2))), (x_ash, .inl (G 5, 4, .inr (.inr (.inr (.inr (fun k => some (x_sq k))))))), ((x_sq x4.toNatClampNeg), .inr (4, [.ref s_ait, .int s_lane, .int s_size])), (s_ait, .inl (G 1, 24, .inr (.inl s_items)))] t) (va_A [(x_xo, .inr (7, [.ref da, .ref k_da, .int x_isKept, .ref t_ta, .ref p_pl, .ref r_tr, .ref w_ro, .ref x_ash])), (da, .inr (0, [.ref ami, .int cows, .ref aki, .ref afi, .int tasters, .ref anw, .ref apa, .int newest, .int known])), (ami, .inl (G 0, 8, .inl milks)), (aki, .inl (G 0, 4, .inl kinds)), (afi, .inl (G 0, 4, .inl fines)), (anw, .inr (1, [.int mayBe, .int bearer, .int day, .int draw])), (w_ro, .inr (3, [.ref w_amx, .ref w_aan, .int w_pairs, .ref w_aag])), (w_amx, .inl (G 0, 6, .inl w_mixes)), (w_aan, .inl (G 0, 6, .inl w_answers)), (w_aag, .inl (G 0, 6, .inl w_agreed)), (x_ash, .inl (G 5, 4, .inr (.inr (.inr (.inr (fun k => some (x_sq k))))))), ((x_sq x4.toNatClampNeg), .inr (4, [.ref s_ait, .int s_lane, .int s_size])), (s_ait, .inl (G 1, 24, .inr (.inl s_items)))] sz)) 0 0 (va_A [(x_xo, .inr (7, [.ref da, .ref k_da, .int x_isKept, .ref t_ta, .ref p_pl, .ref r_tr, .ref w_ro, .ref x_ash])), (da, .inr (0, [.ref ami, .int cows, .ref aki, .ref afi, .int tasters, .ref anw, .ref apa, .int newest, .int known])), (ami, .inl (G 0, 8, .inl milks)), (aki, .inl (G 0, 4, .inl kinds)), (afi, .inl (G 0, 4, .inl fines)), (anw, .inr (1, [.int mayBe, .int bearer, .int day, .int draw])), (w_ro, .inr (3, [.ref w_amx, .ref w_aan, .int w_pairs, .ref w_aag])), (w_amx, .inl (G 0, 6, .inl w_mixes)), (w_aan, .inl (G 0, 6, .inl w_answers)), (w_aag, .inl (G 0, 6, .inl w_agreed)), (x_ash, .inl (G 5, 4, .inr (.inr (.inr (.inr (fun k => some (x_sq k))))))), ((x_sq x4.toNatClampNeg), .inr (4, [.ref s_ait, .int s_lane, .int s_size])), (s_ait, .inl (G 1, 24, .inr (.inl s_items)))] sz) := by
  refine Met.ofW (cc := cX7_slips) (maxL := 11) (ret := (some .long)) (by decide) rfl ?_
  intro p e s m args below meth c s₁ B hml hv
  obtain ⟨rfl, hsz, hP, hK, hD0⟩ := hv
  have hx := B.exec
  have hb := B.bytes
  have hr := B.returns
  have hts := atoms_spec (ws := wsX7_slips) B.pre
  have hown : s.vm.findClass RX7 = some m.cls := findClass_of_methodNamed B.named
  have hlocks := B.notSynchronized
  subst hsz
  have hD := hD0.self (sz := s.heap.size)
  generalize hAe : va_A [(x_xo, .inr (7, [.ref da, .ref k_da, .int x_isKept, .ref t_ta, .ref p_pl, .ref r_tr, .ref w_ro, .ref x_ash])), (da, .inr (0, [.ref ami, .int cows, .ref aki, .ref afi, .int tasters, .ref anw, .ref apa, .int newest, .int known])), (ami, .inl (G 0, 8, .inl milks)), (aki, .inl (G 0, 4, .inl kinds)), (afi, .inl (G 0, 4, .inl fines)), (anw, .inr (1, [.int mayBe, .int bearer, .int day, .int draw])), (w_ro, .inr (3, [.ref w_amx, .ref w_aan, .int w_pairs, .ref w_aag])), (w_amx, .inl (G 0, 6, .inl w_mixes)), (w_aan, .inl (G 0, 6, .inl w_answers)), (w_aag, .inl (G 0, 6, .inl w_agreed)), (x_ash, .inl (G 5, 4, .inr (.inr (.inr (.inr (fun k => some (x_sq k))))))), ((x_sq x4.toNatClampNeg), .inr (4, [.ref s_ait, .int s_lane, .int s_size])), (s_ait, .inl (G 1, 24, .inr (.inl s_items)))] s.heap.size = A at hD ⊢
  have hA : ∀ q : Nat, s.heap.size ≤ q → A q := fun q h => by rw [← hAe]; exact Or.inr h
  have hS : va_S A s.heap s.heap [] := va_S.rf
  have inX0 : ∀ w ∈ wsX00, w ∈ wsX7_slips := by decide +kernel
  have inX1 : ∀ w ∈ wsX10, w ∈ wsX7_slips := by decide +kernel
  have inX7 : ∀ w ∈ wsX70, w ∈ wsX7_slips := by decide +kernel
  have fl47 := hts (.fieldLink RX7 47 "NewsCow" "row" "LNewsCow$Row;") (by decide +kernel)
  have fl12 := hts (.fieldLink RX7 12 "NewsCow" "dairy" "LNewsCow$Dairy;") (by decide +kernel)
  have fl103 := hts (.fieldLink RX7 103 "NewsCow$Dairy" "kinds" "[I") (by decide +kernel)
  have fl106 := hts (.fieldLink RX7 106 "NewsCow$Dairy" "fines" "[I") (by decide +kernel)
  have fl66 := hts (.fieldLink RX7 66 "NewsCow$Dairy" "now" "LNewsCow$Moment;") (by decide +kernel)
  have fl74 := hts (.fieldLink RX7 74 "NewsCow$Moment" "mayBe" "I") (by decide +kernel)
  have hl := lv_entry ([.ref x_xo, .int x1, .int x2, .int x3, .int x4, .int x5, .int x6, .int x7, .int x8] : List Value) (n := 11) (Nat.le_of_ble_eq_true rfl)
  rw [lg_entry_eq]
  generalize (lg_sl ([.ref x_xo, .int x1, .int x2, .int x3, .int x4, .int x5, .int x6, .int x7, .int x8] : List Value) ++ List.replicate (11 - (lg_sl ([.ref x_xo, .int x1, .int x2, .int x3, .int x4, .int x5, .int x6, .int x7, .int x8] : List Value)).length) Slot.unset).toArray = ls at hl ⊢
  have hl : lv_has ls 11 [(0, .ref x_xo), (1, .int x1), (2, .int x2), (3, .int x3), (4, .int x4), (5, .int x5), (6, .int x6), (7, .int x7), (8, .int x8)] := hl
  unfold wp_X7_slips at hw
  refine lv_aload_n hx hb dX7_slips_0 rfl (lv_at hl 0 rfl) ?_
  refine lv_iload_n hx hb dX7_slips_1 rfl (lv_at hl 1 rfl) ?_
  refine vp_callSi (W.runV (As := [.int x1]) (rest := []) ⟨hx, hb, hml, hown, hts⟩ (c_X7_isCow l D G x_xo da k_da t_ta p_pl r_tr w_ro x_ash ami aki afi anw apa x_isKept cows tasters newest known x1 _ hw) (cwV 1 hts gX7_slips_X7_isCow rfl rfl rfl (by decide +kernel) ⟨(Nat.le_of_ble_eq_true rfl), (Nat.le_of_ble_eq_true rfl)⟩) (xR_pv (hP.sub [0, 1] rfl) hK (va_recv hK hP (ci := 7) (q0 := 0) rfl rfl)) rfl rfl hl.1 rfl (lv_room (Nat.le_of_ble_eq_true rfl)) dX7_slips_2 ⟨Nat.zero_le _, Nat.zero_le _⟩) (fun r1 hw => ?_)
  refine lv_if_eq (tgt := 26) hx hb dX7_slips_5 (by decide) (fun c9 => ?_) (fun c9 => ?_)
  · replace hw := hw.1 c9
    refine lv_ldc2 (v := -1) hx hb hown (hts (.constantLong RX7 235 (-1)) (by decide +kernel)) dX7_slips_26 ?_
    exact W.lret hx hb hr (x_ml (u := (w_pairs, w_mixes, w_answers, w_agreed)) hP hK hD hS hw) hS.2.2 dX7_slips_29
  · replace hw := hw.2 c9
    refine lv_aload_n hx hb dX7_slips_8 rfl (lv_at hl 0 rfl) ?_
    refine lv_iload_n hx hb dX7_slips_9 rfl (lv_at hl 2 rfl) ?_
    refine vp_callSi (W.runV (As := [.int x2]) (rest := []) ⟨hx, hb, hml, hown, hts⟩ (c_X7_isTaster l D G x_xo da k_da t_ta p_pl r_tr w_ro x_ash ami aki afi anw apa x_isKept cows tasters newest known x2 _ hw) (cwV 1 hts gX7_slips_X7_isTaster rfl rfl rfl (by decide +kernel) ⟨(Nat.le_of_ble_eq_true rfl), (Nat.le_of_ble_eq_true rfl)⟩) (xR_pv (hP.sub [0, 1] rfl) hK (va_recv hK hP (ci := 7) (q0 := 0) rfl rfl)) rfl rfl hl.1 rfl (lv_room (Nat.le_of_ble_eq_true rfl)) dX7_slips_10 ⟨Nat.zero_le _, Nat.zero_le _⟩) (fun r2 hw => ?_)
    refine lv_if_eq (tgt := 26) hx hb dX7_slips_13 (by decide) (fun c9 => ?_) (fun c9 => ?_)
    · replace hw := hw.1 c9
      refine lv_ldc2 (v := -1) hx hb hown (hts (.constantLong RX7 235 (-1)) (by decide +kernel)) dX7_slips_26 ?_
      exact W.lret hx hb hr (x_ml (u := (w_pairs, w_mixes, w_answers, w_agreed)) hP hK hD hS hw) hS.2.2 dX7_slips_29
    · replace hw := hw.2 c9
      refine lv_iload_n hx hb dX7_slips_16 rfl (lv_at hl 3 rfl) ?_
      refine lv_if_lt (tgt := 26) hx hb dX7_slips_17 (by decide) (fun c9 => ?_) (fun c9 => ?_)
      · replace hw := hw.1 c9
        refine lv_ldc2 (v := -1) hx hb hown (hts (.constantLong RX7 235 (-1)) (by decide +kernel)) dX7_slips_26 ?_
        exact W.lret hx hb hr (x_ml (u := (w_pairs, w_mixes, w_answers, w_agreed)) hP hK hD hS hw) hS.2.2 dX7_slips_29
      · replace hw := hw.2 c9
        refine lv_iload_n hx hb dX7_slips_20 rfl (lv_at hl 3 rfl) ?_
        refine lv_bipush (v := 10) hx hb dX7_slips_21 (by decide) ?_
        refine lv_icmp_le (tgt := 30) hx hb dX7_slips_23 (by decide) (fun c9 => ?_) (fun c9 => ?_)
        · replace hw := hw.1 c9
          refine lv_iload hx hb dX7_slips_30 (lv_at hl 4 rfl) ?_
          refine lv_iload hx hb dX7_slips_32 (lv_at hl 5 rfl) ?_
          refine vp_callSi (W.runS (As := [.int x4, .int x5]) (rest := []) ⟨hx, hb, hml, hown, hts⟩ (c_X7_isLaneOfSheet l D G x4 x5 _ hw) (va_cwS 2 hts gX7_slips_X7_isLaneOfSheet rfl rfl rfl (by decide +kernel) ⟨(Nat.le_of_ble_eq_true rfl), (Nat.le_of_ble_eq_true rfl)⟩) (xR_ps (hP.sub [] rfl) hK) rfl rfl hl.1 rfl (lv_room (Nat.le_of_ble_eq_true rfl)) dX7_slips_34 ⟨Nat.zero_le _, Nat.zero_le _⟩) (fun r3 hw => ?_)
          refine lv_if_eq (tgt := 61) hx hb dX7_slips_37 (by decide) (fun c9 => ?_) (fun c9 => ?_)
          · replace hw := hw.1 c9
            refine lv_ldc2 (v := -1) hx hb hown (hts (.constantLong RX7 235 (-1)) (by decide +kernel)) dX7_slips_61 ?_
            exact W.lret hx hb hr (x_ml (u := (w_pairs, w_mixes, w_answers, w_agreed)) hP hK hD hS hw) hS.2.2 dX7_slips_64
          · replace hw := hw.2 c9
            refine lv_iload hx hb dX7_slips_40 (lv_at hl 7 rfl) ?_
            refine lv_iconst (v := 1) hx hb dX7_slips_42 (by decide) ?_
            refine lv_icmp_lt (tgt := 61) hx hb dX7_slips_43 (by decide) (fun c9 => ?_) (fun c9 => ?_)
            · replace hw := hw.1 c9
              refine lv_ldc2 (v := -1) hx hb hown (hts (.constantLong RX7 235 (-1)) (by decide +kernel)) dX7_slips_61 ?_
              exact W.lret hx hb hr (x_ml (u := (w_pairs, w_mixes, w_answers, w_agreed)) hP hK hD hS hw) hS.2.2 dX7_slips_64
            · replace hw := hw.2 c9
              refine lv_iload hx hb dX7_slips_46 (lv_at hl 7 rfl) ?_
              refine lv_bipush (v := 6) hx hb dX7_slips_48 (by decide) ?_
              refine lv_icmp_gt (tgt := 61) hx hb dX7_slips_50 (by decide) (fun c9 => ?_) (fun c9 => ?_)
              · replace hw := hw.1 c9
                refine lv_ldc2 (v := -1) hx hb hown (hts (.constantLong RX7 235 (-1)) (by decide +kernel)) dX7_slips_61 ?_
                exact W.lret hx hb hr (x_ml (u := (w_pairs, w_mixes, w_answers, w_agreed)) hP hK hD hS hw) hS.2.2 dX7_slips_64
              · replace hw := hw.2 c9
                refine lv_iload hx hb dX7_slips_53 (lv_at hl 8 rfl) ?_
                refine vp_callSi (W.runS (As := [.int x8]) (rest := []) ⟨hx, hb, hml, hown, hts⟩ (c_X7_isEither l D G x8 _ hw) (va_cwS 1 hts gX7_slips_X7_isEither rfl rfl rfl (by decide +kernel) ⟨(Nat.le_of_ble_eq_true rfl), (Nat.le_of_ble_eq_true rfl)⟩) (xR_ps (hP.sub [] rfl) hK) rfl rfl hl.1 rfl (lv_room (Nat.le_of_ble_eq_true rfl)) dX7_slips_55 ⟨Nat.zero_le _, Nat.zero_le _⟩) (fun r4 hw => ?_)
                refine lv_if_ne (tgt := 65) hx hb dX7_slips_58 (by decide) (fun c9 => ?_) (fun c9 => ?_)
                · replace hw := hw.1 c9
                  refine lv_aload_n hx hb dX7_slips_65 rfl (lv_at hl 0 rfl) ?_
                  refine lv_iload hx hb dX7_slips_66 (lv_at hl 4 rfl) ?_
                  refine lv_iload hx hb dX7_slips_68 (lv_at hl 5 rfl) ?_
                  refine lv_iload hx hb dX7_slips_70 (lv_at hl 6 rfl) ?_
                  refine lv_iload hx hb dX7_slips_72 (lv_at hl 7 rfl) ?_
                  refine x_cMi (wr := [(ami, .inl (G 0, 8, .inl milks)), (aki, .inl (G 0, 4, .inl kinds)), (afi, .inl (G 0, 4, .inl fines)), (anw, .inr (1, [.int mayBe, .int bearer, .int day, .int draw])), (w_aag, .inl (G 0, 6, .inl w_agreed))]) (va_runV (As := [.int x4, .int x5, .int x6, .int x7]) (rest := []) ⟨hx, hb, hml, hown, hts⟩ (c_X7_readRow l D G _ x_xo da k_da t_ta p_pl r_tr w_ro x_ash ami aki afi anw apa w_amx w_aan w_aag x_sq s_ait x_isKept cows tasters newest known w_pairs w_mixes w_answers s_lane s_size s_items x4 x5 x6 x7 _ hw) (cwV 4 hts gX7_slips_X7_readRow rfl rfl rfl (by decide +kernel) ⟨(Nat.le_of_ble_eq_true rfl), (Nat.le_of_ble_eq_true rfl)⟩) (xM_pv (hP.sub [0, 1, 6, 7, 8, 10, 11, 12] rfl) hK (hD.sub [0, 1, 6, 7, 8, 10, 11, 12] (by decide) rfl) (va_recv hK hP (ci := 7) (q0 := 0) rfl rfl)) rfl rfl hl.1 rfl (lv_room (Nat.le_of_ble_eq_true rfl)) dX7_slips_74 ⟨Nat.zero_le _, Nat.zero_le _⟩) hP hD hS hA [0, 1, 6, 7, 8, 10, 11, 12] [2, 3, 4, 5, 9] rfl rfl (by decide) (by decide) [5, 6, 0, 1, 2, 3, 7, 8, 9, 4, 10, 11, 12] (fun u => [(x_xo, .inr (7, [.ref da, .ref k_da, .int x_isKept, .ref t_ta, .ref p_pl, .ref r_tr, .ref w_ro, .ref x_ash])), (da, .inr (0, [.ref ami, .int cows, .ref aki, .ref afi, .int tasters, .ref anw, .ref apa, .int newest, .int known])), (ami, .inl (G 0, 8, .inl milks)), (aki, .inl (G 0, 4, .inl kinds)), (afi, .inl (G 0, 4, .inl fines)), (anw, .inr (1, [.int mayBe, .int bearer, .int day, .int draw])), (w_ro, .inr (3, [.ref w_amx, .ref w_aan, .int u.1, .ref w_aag])), (w_amx, .inl (G 0, 6, .inl (u.2.1))), (w_aan, .inl (G 0, 6, .inl (u.2.2))), (w_aag, .inl (G 0, 6, .inl w_agreed)), (x_ash, .inl (G 5, 4, .inr (.inr (.inr (.inr (fun k => some (x_sq k))))))), ((x_sq x4.toNatClampNeg), .inr (4, [.ref s_ait, .int s_lane, .int s_size])), (s_ait, .inl (G 1, 24, .inr (.inl s_items)))]) (by decide) (fun u => rfl) (fun r5 u H locs hw hP hD hS => ?_)
                  obtain ⟨w_pairs_5, w_mixes_5, w_answers_5⟩ := u
                  try dsimp only at hw
                  replace hP : va_P D vwCl [(x_xo, .inr (7, [.ref da, .ref k_da, .int x_isKept, .ref t_ta, .ref p_pl, .ref r_tr, .ref w_ro, .ref x_ash])), (da, .inr (0, [.ref ami, .int cows, .ref aki, .ref afi, .int tasters, .ref anw, .ref apa, .int newest, .int known])), (ami, .inl (G 0, 8, .inl milks)), (aki, .inl (G 0, 4, .inl kinds)), (afi, .inl (G 0, 4, .inl fines)), (anw, .inr (1, [.int mayBe, .int bearer, .int day, .int draw])), (w_ro, .inr (3, [.ref w_amx, .ref w_aan, .int w_pairs_5, .ref w_aag])), (w_amx, .inl (G 0, 6, .inl w_mixes_5)), (w_aan, .inl (G 0, 6, .inl w_answers_5)), (w_aag, .inl (G 0, 6, .inl w_agreed)), (x_ash, .inl (G 5, 4, .inr (.inr (.inr (.inr (fun k => some (x_sq k))))))), ((x_sq x4.toNatClampNeg), .inr (4, [.ref s_ait, .int s_lane, .int s_size])), (s_ait, .inl (G 1, 24, .inr (.inl s_items)))] H := hP
                  replace hD : va_D A [(x_xo, .inr (7, [.ref da, .ref k_da, .int x_isKept, .ref t_ta, .ref p_pl, .ref r_tr, .ref w_ro, .ref x_ash])), (da, .inr (0, [.ref ami, .int cows, .ref aki, .ref afi, .int tasters, .ref anw, .ref apa, .int newest, .int known])), (ami, .inl (G 0, 8, .inl milks)), (aki, .inl (G 0, 4, .inl kinds)), (afi, .inl (G 0, 4, .inl fines)), (anw, .inr (1, [.int mayBe, .int bearer, .int day, .int draw])), (w_ro, .inr (3, [.ref w_amx, .ref w_aan, .int w_pairs_5, .ref w_aag])), (w_amx, .inl (G 0, 6, .inl w_mixes_5)), (w_aan, .inl (G 0, 6, .inl w_answers_5)), (w_aag, .inl (G 0, 6, .inl w_agreed)), (x_ash, .inl (G 5, 4, .inr (.inr (.inr (.inr (fun k => some (x_sq k))))))), ((x_sq x4.toNatClampNeg), .inr (4, [.ref s_ait, .int s_lane, .int s_size])), (s_ait, .inl (G 1, 24, .inr (.inl s_items)))] := hD
                  refine lv_istore (lv' := [(9, .int r5), (0, .ref x_xo), (1, .int x1), (2, .int x2), (3, .int x3), (4, .int x4), (5, .int x5), (6, .int x6), (7, .int x7), (8, .int x8)]) hx hb dX7_slips_77 hl (by decide) rfl (fun ls hl => ?_)
                  refine lv_iload hx hb dX7_slips_79 (lv_at hl 0 rfl) ?_
                  refine lv_if_eq (tgt := 88) hx hb dX7_slips_81 (by decide) (fun c9 => ?_) (fun c9 => ?_)
                  · replace hw := hw.1 c9
                    refine lv_aload_n hx hb dX7_slips_88 rfl (lv_at hl 1 rfl) ?_
                    refine va_get (D := D) (ci := 7) (v := .ref w_ro) (C := RX7) (T := TX7) (N := 8) hx hb hts inX7 hown hK hP 0 rfl rfl 6 (by decide) fl47 (fun _ h9 => h9) rfl dX7_slips_89 ?_
                    refine lv_aload_n hx hb dX7_slips_92 rfl (lv_at hl 1 rfl) ?_
                    refine va_get (D := D) (ci := 7) (v := .ref da) (C := RX7) (T := TX7) (N := 8) hx hb hts inX7 hown hK hP 0 rfl rfl 0 (by decide) fl12 (fun _ h9 => h9) rfl dX7_slips_93 ?_
                    refine lv_aload_n hx hb dX7_slips_96 rfl (lv_at hl 1 rfl) ?_
                    refine va_get (D := D) (ci := 7) (v := .ref da) (C := RX7) (T := TX7) (N := 8) hx hb hts inX7 hown hK hP 0 rfl rfl 0 (by decide) fl12 (fun _ h9 => h9) rfl dX7_slips_97 ?_
                    refine va_get (D := D) (ci := 0) (v := .ref aki) (C := RX0) (T := TX0) (N := 9) hx hb hts inX0 hown hK hP 1 rfl rfl 2 (by decide) fl103 (fun _ h9 => h9) rfl dX7_slips_100 ?_
                    refine lv_iload_n hx hb dX7_slips_103 rfl (lv_at hl 3 rfl) ?_
                    refine x_iald (j := x2.toNatClampNeg) hx hb hK hP 3 0 rfl rfl rfl hw.1 dX7_slips_104 ?_
                    replace hw := hw.2
                    refine lv_aload_n hx hb dX7_slips_105 rfl (lv_at hl 1 rfl) ?_
                    refine va_get (D := D) (ci := 7) (v := .ref da) (C := RX7) (T := TX7) (N := 8) hx hb hts inX7 hown hK hP 0 rfl rfl 0 (by decide) fl12 (fun _ h9 => h9) rfl dX7_slips_106 ?_
                    refine va_get (D := D) (ci := 0) (v := .ref afi) (C := RX0) (T := TX0) (N := 9) hx hb hts inX0 hown hK hP 1 rfl rfl 3 (by decide) fl106 (fun _ h9 => h9) rfl dX7_slips_109 ?_
                    refine lv_iload_n hx hb dX7_slips_112 rfl (lv_at hl 3 rfl) ?_
                    refine x_iald (j := x2.toNatClampNeg) hx hb hK hP 4 0 rfl rfl rfl hw.1 dX7_slips_113 ?_
                    replace hw := hw.2
                    refine x_cMv (wr := [(x_xo, .inr (7, [.ref da, .ref k_da, .int x_isKept, .ref t_ta, .ref p_pl, .ref r_tr, .ref w_ro, .ref x_ash])), (aki, .inl (G 0, 4, .inl kinds)), (afi, .inl (G 0, 4, .inl fines)), (x_ash, .inl (G 5, 4, .inr (.inr (.inr (.inr (fun k => some (x_sq k))))))), ((x_sq x4.toNatClampNeg), .inr (4, [.ref s_ait, .int s_lane, .int s_size])), (s_ait, .inl (G 1, 24, .inr (.inl s_items)))]) (va_runV (As := [.ref da, .int (kinds x2.toNatClampNeg), .int (fines x2.toNatClampNeg)]) (rest := []) ⟨hx, hb, hml, hown, hts⟩ (c_X3_compare l D G _ w_ro w_amx w_aan w_aag da ami aki afi anw apa w_pairs_5 w_mixes_5 w_answers_5 w_agreed cows tasters newest known milks mayBe bearer day draw (kinds x2.toNatClampNeg) (fines x2.toNatClampNeg) _ hw) (cwV 3 hts gX7_slips_X3_compare rfl rfl rfl (by decide +kernel) ⟨(Nat.le_of_ble_eq_true rfl), (Nat.le_of_ble_eq_true rfl)⟩) (xM_pv (hP.sub [6, 7, 8, 9, 1, 2, 5] rfl) hK (hD.sub [6, 7, 8, 9, 1, 2, 5] (by decide) rfl) (va_recv hK hP (ci := 3) (q0 := 6) rfl rfl)) rfl rfl hl.1 rfl (lv_room (Nat.le_of_ble_eq_true rfl)) dX7_slips_114 ⟨Nat.zero_le _, Nat.zero_le _⟩) hP hD hS hA [6, 7, 8, 9, 1, 2, 5] [0, 3, 4, 10, 11, 12] rfl rfl (by decide) (by decide) [0, 10, 11, 1, 2, 12, 6, 7, 8, 9, 3, 4, 5] (fun u => [(x_xo, .inr (7, [.ref da, .ref k_da, .int x_isKept, .ref t_ta, .ref p_pl, .ref r_tr, .ref w_ro, .ref x_ash])), (da, .inr (0, [.ref ami, .int cows, .ref aki, .ref afi, .int tasters, .ref anw, .ref apa, .int newest, .int known])), (ami, .inl (G 0, 8, .inl milks)), (aki, .inl (G 0, 4, .inl kinds)), (afi, .inl (G 0, 4, .inl fines)), (anw, .inr (1, [.int mayBe, .int bearer, .int day, .int draw])), (w_ro, .inr (3, [.ref w_amx, .ref w_aan, .int w_pairs_5, .ref w_aag])), (w_amx, .inl (G 0, 6, .inl w_mixes_5)), (w_aan, .inl (G 0, 6, .inl w_answers_5)), (w_aag, .inl (G 0, 6, .inl u)), (x_ash, .inl (G 5, 4, .inr (.inr (.inr (.inr (fun k => some (x_sq k))))))), ((x_sq x4.toNatClampNeg), .inr (4, [.ref s_ait, .int s_lane, .int s_size])), (s_ait, .inl (G 1, 24, .inr (.inl s_items)))]) (by decide) (fun u => rfl) (fun u H locs hw hP hD hS => ?_)
                    obtain ⟨w_agreed_6, rfl⟩ : ∃ z, z = u := ⟨_, rfl⟩
                    try dsimp only at hw
                    replace hP : va_P D vwCl [(x_xo, .inr (7, [.ref da, .ref k_da, .int x_isKept, .ref t_ta, .ref p_pl, .ref r_tr, .ref w_ro, .ref x_ash])), (da, .inr (0, [.ref ami, .int cows, .ref aki, .ref afi, .int tasters, .ref anw, .ref apa, .int newest, .int known])), (ami, .inl (G 0, 8, .inl milks)), (aki, .inl (G 0, 4, .inl kinds)), (afi, .inl (G 0, 4, .inl fines)), (anw, .inr (1, [.int mayBe, .int bearer, .int day, .int draw])), (w_ro, .inr (3, [.ref w_amx, .ref w_aan, .int w_pairs_5, .ref w_aag])), (w_amx, .inl (G 0, 6, .inl w_mixes_5)), (w_aan, .inl (G 0, 6, .inl w_answers_5)), (w_aag, .inl (G 0, 6, .inl w_agreed_6)), (x_ash, .inl (G 5, 4, .inr (.inr (.inr (.inr (fun k => some (x_sq k))))))), ((x_sq x4.toNatClampNeg), .inr (4, [.ref s_ait, .int s_lane, .int s_size])), (s_ait, .inl (G 1, 24, .inr (.inl s_items)))] H := hP
                    replace hD : va_D A [(x_xo, .inr (7, [.ref da, .ref k_da, .int x_isKept, .ref t_ta, .ref p_pl, .ref r_tr, .ref w_ro, .ref x_ash])), (da, .inr (0, [.ref ami, .int cows, .ref aki, .ref afi, .int tasters, .ref anw, .ref apa, .int newest, .int known])), (ami, .inl (G 0, 8, .inl milks)), (aki, .inl (G 0, 4, .inl kinds)), (afi, .inl (G 0, 4, .inl fines)), (anw, .inr (1, [.int mayBe, .int bearer, .int day, .int draw])), (w_ro, .inr (3, [.ref w_amx, .ref w_aan, .int w_pairs_5, .ref w_aag])), (w_amx, .inl (G 0, 6, .inl w_mixes_5)), (w_aan, .inl (G 0, 6, .inl w_answers_5)), (w_aag, .inl (G 0, 6, .inl w_agreed_6)), (x_ash, .inl (G 5, 4, .inr (.inr (.inr (.inr (fun k => some (x_sq k))))))), ((x_sq x4.toNatClampNeg), .inr (4, [.ref s_ait, .int s_lane, .int s_size])), (s_ait, .inl (G 1, 24, .inr (.inl s_items)))] := hD
                    refine lv_aload_n hx hb dX7_slips_117 rfl (lv_at hl 1 rfl) ?_
                    refine va_get (D := D) (ci := 7) (v := .ref da) (C := RX7) (T := TX7) (N := 8) hx hb hts inX7 hown hK hP 0 rfl rfl 0 (by decide) fl12 (fun _ h9 => h9) rfl dX7_slips_118 ?_
                    refine va_get (D := D) (ci := 0) (v := .ref anw) (C := RX0) (T := TX0) (N := 9) hx hb hts inX0 hown hK hP 1 rfl rfl 5 (by decide) fl66 (fun _ h9 => h9) rfl dX7_slips_121 ?_
                    refine va_get (D := D) (ci := 1) (v := .int mayBe) (C := RX1) (T := TX1) (N := 4) hx hb hts inX1 hown hK hP 5 rfl rfl 0 (by decide) fl74 (fun _ h9 => h9) rfl dX7_slips_124 ?_
                    refine lv_istore (lv' := [(10, .int mayBe), (9, .int r5), (0, .ref x_xo), (1, .int x1), (2, .int x2), (3, .int x3), (4, .int x4), (5, .int x5), (6, .int x6), (7, .int x7), (8, .int x8)]) hx hb dX7_slips_127 hl (by decide) rfl (fun ls hl => ?_)
                    refine lv_aload_n hx hb dX7_slips_129 rfl (lv_at hl 2 rfl) ?_
                    refine va_get (D := D) (ci := 7) (v := .ref w_ro) (C := RX7) (T := TX7) (N := 8) hx hb hts inX7 hown hK hP 0 rfl rfl 6 (by decide) fl47 (fun _ h9 => h9) rfl dX7_slips_130 ?_
                    refine lv_aload_n hx hb dX7_slips_133 rfl (lv_at hl 2 rfl) ?_
                    refine va_get (D := D) (ci := 7) (v := .ref da) (C := RX7) (T := TX7) (N := 8) hx hb hts inX7 hown hK hP 0 rfl rfl 0 (by decide) fl12 (fun _ h9 => h9) rfl dX7_slips_134 ?_
                    refine lv_iconst (v := 1) hx hb dX7_slips_137 (by decide) ?_
                    refine lv_iload_n hx hb dX7_slips_138 rfl (lv_at hl 3 rfl) ?_
                    refine lv_ishl hx hb dX7_slips_139 ?_
                    refine lv_iload hx hb dX7_slips_140 (lv_at hl 0 rfl) ?_
                    refine lv_iand hx hb dX7_slips_142 ?_
                    refine lv_iload_n hx hb dX7_slips_143 rfl (lv_at hl 5 rfl) ?_
                    refine vp_callSl (W.runV (As := [.ref da, .int (((1 : Int32) <<< (x1 &&& 31)) &&& mayBe), .int x3]) (rest := []) ⟨hx, hb, hml, hown, hts⟩ (c_X3_weightOf l D G w_ro w_amx w_aan w_aag da ami aki afi anw apa w_pairs_5 w_agreed_6 cows tasters newest known milks (((1 : Int32) <<< (x1 &&& 31)) &&& mayBe) x3 _ hw) (cwV 3 hts gX7_slips_X3_weightOf rfl rfl rfl (by decide +kernel) ⟨(Nat.le_of_ble_eq_true rfl), (Nat.le_of_ble_eq_true rfl)⟩) (xR_pv (hP.sub [6, 9, 1, 2] rfl) hK (va_recv hK hP (ci := 3) (q0 := 6) rfl rfl)) rfl rfl hl.1 rfl (lv_room (Nat.le_of_ble_eq_true rfl)) dX7_slips_144 ⟨Nat.zero_le _, Nat.zero_le _⟩) (fun r7 hw => ?_)
                    refine lv_aload_n hx hb dX7_slips_147 rfl (lv_at hl 2 rfl) ?_
                    refine va_get (D := D) (ci := 7) (v := .ref w_ro) (C := RX7) (T := TX7) (N := 8) hx hb hts inX7 hown hK hP 0 rfl rfl 6 (by decide) fl47 (fun _ h9 => h9) rfl dX7_slips_148 ?_
                    refine lv_aload_n hx hb dX7_slips_151 rfl (lv_at hl 2 rfl) ?_
                    refine va_get (D := D) (ci := 7) (v := .ref da) (C := RX7) (T := TX7) (N := 8) hx hb hts inX7 hown hK hP 0 rfl rfl 0 (by decide) fl12 (fun _ h9 => h9) rfl dX7_slips_152 ?_
                    refine lv_iload hx hb dX7_slips_155 (lv_at hl 0 rfl) ?_
                    refine lv_iload_n hx hb dX7_slips_157 rfl (lv_at hl 5 rfl) ?_
                    refine vp_callSl (W.runV (As := [.ref da, .int mayBe, .int x3]) (rest := [.long r7]) ⟨hx, hb, hml, hown, hts⟩ (c_X3_weightOf l D G w_ro w_amx w_aan w_aag da ami aki afi anw apa w_pairs_5 w_agreed_6 cows tasters newest known milks mayBe x3 _ hw) (cwV 3 hts gX7_slips_X3_weightOf rfl rfl rfl (by decide +kernel) ⟨(Nat.le_of_ble_eq_true rfl), (Nat.le_of_ble_eq_true rfl)⟩) (xR_pv (hP.sub [6, 9, 1, 2] rfl) hK (va_recv hK hP (ci := 3) (q0 := 6) rfl rfl)) rfl rfl hl.1 rfl (lv_room (Nat.le_of_ble_eq_true rfl)) dX7_slips_158 ⟨Nat.zero_le _, Nat.zero_le _⟩) (fun r8 hw => ?_)
                    refine lv_iload hx hb dX7_slips_161 (lv_at hl 10 rfl) ?_
                    refine vp_callSl (W.runS (As := [.long r7, .long r8, .int x8]) (rest := []) ⟨hx, hb, hml, hown, hts⟩ (c_X7_fraction l D G r7 r8 x8 _ hw) (va_cwS 3 hts gX7_slips_X7_fraction rfl rfl rfl (by decide +kernel) ⟨(Nat.le_of_ble_eq_true rfl), (Nat.le_of_ble_eq_true rfl)⟩) (xR_ps (hP.sub [] rfl) hK) rfl rfl hl.1 rfl (lv_room (Nat.le_of_ble_eq_true rfl)) dX7_slips_163 ⟨Nat.zero_le _, Nat.zero_le _⟩) (fun r9 hw => ?_)
                    exact W.lret hx hb hr (x_ml (u := (w_pairs_5, w_mixes_5, w_answers_5, w_agreed_6)) hP hK hD hS hw) hS.2.2 dX7_slips_166
                  · replace hw := hw.2 c9
                    refine lv_iload hx hb dX7_slips_84 (lv_at hl 0 rfl) ?_
                    refine lv_i2l hx hb dX7_slips_86 rfl ?_
                    exact W.lret hx hb hr (x_ml (u := (w_pairs_5, w_mixes_5, w_answers_5, w_agreed)) hP hK hD hS hw) hS.2.2 dX7_slips_87
                · replace hw := hw.2 c9
                  refine lv_ldc2 (v := -1) hx hb hown (hts (.constantLong RX7 235 (-1)) (by decide +kernel)) dX7_slips_61 ?_
                  exact W.lret hx hb hr (x_ml (u := (w_pairs, w_mixes, w_answers, w_agreed)) hP hK hD hS hw) hS.2.2 dX7_slips_64
        · replace hw := hw.2 c9
          refine lv_ldc2 (v := -1) hx hb hown (hts (.constantLong RX7 235 (-1)) (by decide +kernel)) dX7_slips_26 ?_
          exact W.lret hx hb hr (x_ml (u := (w_pairs, w_mixes, w_answers, w_agreed)) hP hK hD hS hw) hS.2.2 dX7_slips_29
set_option maxHeartbeats 4000000 in
set_option maxRecDepth 100000 in
theorem c_X7_film (l : Launch) (D : va_G) (G : Nat → ClassId) (sz : Nat) (x_xo : Nat) (da : Nat) (k_da : Nat) (t_ta : Nat) (p_pl : Nat) (r_tr : Nat) (w_ro : Nat) (x_ash : Nat) (ami : Nat) (aki : Nat) (afi : Nat) (anw : Nat) (apa : Nat) (x_sq : Nat → Nat) (s_ait : Nat) (x_isKept : Int32) (cows : Int32) (tasters : Int32) (newest : Int32) (known : Int32) (milks : Nat → Int32) (kinds : Nat → Int32) (fines : Nat → Int32) (mayBe : Int32) (bearer : Int32) (day : Int32) (draw : Int32) (s_lane : Int32) (s_size : Int32) (s_items : Nat → Int64) (x1 : Int32) (x2 : Int32) (x3 : Int32) (x4 : Int32) (x5 : Int32) (post : Int32 → (Nat → Int64) → Prop) (hw : wp_X7_film cows tasters milks kinds fines mayBe day s_lane s_size s_items x1 x2 x3 x4 x5 post) : Met l yX7_film wsX7_film ({ frames := 4, cells := 0, slots := 0, locals := 93 } : Room) (va_Pc [.ref x_xo, .int x1, .int x2, .int x3, .int x4, .int x5] (xM D G sz [(x_xo, .inr (7, [.ref da, .ref k_da, .int x_isKept, .ref t_ta, .ref p_pl, .ref r_tr, .ref w_ro, .ref x_ash])), (da, .inr (0, [.ref ami, .int cows, .ref aki, .ref afi, .int tasters, .ref anw, .ref apa, .int newest, .int known])), (ami, .inl (G 0, 8, .inl milks)), (aki, .inl (G 0, 4, .inl kinds)), (afi, .inl (G 0, 4, .inl fines)), (anw, .inr (1, [.int mayBe, .int bearer, .int day, .int draw])), (x_ash, .inl (G 5, 4, .inr (.inr (.inr (.inr (fun k => some (x_sq k))))))), ((x_sq x3.toNatClampNeg), .inr (4, [.ref s_ait, .int s_lane, .int s_size])), (s_ait, .inl (G 1, 24, .inr (.inl s_items)))])) (va_Qi (fun r (u : (Nat → Int64)) => post r u) (fun u t => xE D G (va_A [(x_xo, .inr (7, [.ref da, .ref k_da, .int x_isKept, .ref t_ta, .ref p_pl, .ref r_tr, .ref w_ro, .ref x_ash])), (da, .inr (0, [.ref ami, .int cows, .ref aki, .ref afi, .int tasters, .ref anw, .ref apa, .int newest, .int known])), (ami, .inl (G 0, 8, .inl milks)), (aki, .inl (G 0, 4, .inl kinds)), (afi, .inl (G 0, 4, .inl fines)), (anw, .inr (1, [.int mayBe, .int bearer, .int day, .int draw])), (x_ash, .inl (G 5, 4, .inr (.inr (.inr (.inr (fun k => some (x_sq k))))))), ((x_sq x3.toNatClampNeg), .inr (4, [.ref s_ait, .int s_lane, .int s_size])), (s_ait, .inl (G 1, 24, .inr (.inl s_items)))] sz) [(x_xo, .inr (7, [.ref da, .ref k_da, .int x_isKept, .ref t_ta, .ref p_pl, .ref r_tr, .ref w_ro, .ref x_ash])), (da, .inr (0, [.ref ami, .int cows, .ref aki, .ref afi, .int tasters, .ref anw, .ref apa, .int newest, .int known])), (ami, .inl (G 0, 8, .inl milks)), (aki, .inl (G 0, 4, .inl kinds)), (afi, .inl (G 0, 4, .inl fines)), (anw, .inr (1, [.int mayBe, .int bearer, .int day, .int draw])), (x_ash, .inl (G 5, 4, .inr (.inr (.inr (.inr (fun k => some (x_sq k))))))), ((x_sq x3.toNatClampNeg), .inr (4, [.ref s_ait, .int s_lane, .int s_size])), (s_ait, .inl (G 1, 24, .inr (.inl u)))] t) (va_A [(x_xo, .inr (7, [.ref da, .ref k_da, .int x_isKept, .ref t_ta, .ref p_pl, .ref r_tr, .ref w_ro, .ref x_ash])), (da, .inr (0, [.ref ami, .int cows, .ref aki, .ref afi, .int tasters, .ref anw, .ref apa, .int newest, .int known])), (ami, .inl (G 0, 8, .inl milks)), (aki, .inl (G 0, 4, .inl kinds)), (afi, .inl (G 0, 4, .inl fines)), (anw, .inr (1, [.int mayBe, .int bearer, .int day, .int draw])), (x_ash, .inl (G 5, 4, .inr (.inr (.inr (.inr (fun k => some (x_sq k))))))), ((x_sq x3.toNatClampNeg), .inr (4, [.ref s_ait, .int s_lane, .int s_size])), (s_ait, .inl (G 1, 24, .inr (.inl s_items)))] sz)) 0 0 (va_A [(x_xo, .inr (7, [.ref da, .ref k_da, .int x_isKept, .ref t_ta, .ref p_pl, .ref r_tr, .ref w_ro, .ref x_ash])), (da, .inr (0, [.ref ami, .int cows, .ref aki, .ref afi, .int tasters, .ref anw, .ref apa, .int newest, .int known])), (ami, .inl (G 0, 8, .inl milks)), (aki, .inl (G 0, 4, .inl kinds)), (afi, .inl (G 0, 4, .inl fines)), (anw, .inr (1, [.int mayBe, .int bearer, .int day, .int draw])), (x_ash, .inl (G 5, 4, .inr (.inr (.inr (.inr (fun k => some (x_sq k))))))), ((x_sq x3.toNatClampNeg), .inr (4, [.ref s_ait, .int s_lane, .int s_size])), (s_ait, .inl (G 1, 24, .inr (.inl s_items)))] sz) := by
  refine Met.ofW (cc := cX7_film) (maxL := 8) (ret := (some .int)) (by decide) rfl ?_
  intro p e s m args below meth c s₁ B hml hv
  obtain ⟨rfl, hsz, hP, hK, hD0⟩ := hv
  have hx := B.exec
  have hb := B.bytes
  have hr := B.returns
  have hts := atoms_spec (ws := wsX7_film) B.pre
  have hown : s.vm.findClass RX7 = some m.cls := findClass_of_methodNamed B.named
  have hlocks := B.notSynchronized
  subst hsz
  have hD := hD0.self (sz := s.heap.size)
  generalize hAe : va_A [(x_xo, .inr (7, [.ref da, .ref k_da, .int x_isKept, .ref t_ta, .ref p_pl, .ref r_tr, .ref w_ro, .ref x_ash])), (da, .inr (0, [.ref ami, .int cows, .ref aki, .ref afi, .int tasters, .ref anw, .ref apa, .int newest, .int known])), (ami, .inl (G 0, 8, .inl milks)), (aki, .inl (G 0, 4, .inl kinds)), (afi, .inl (G 0, 4, .inl fines)), (anw, .inr (1, [.int mayBe, .int bearer, .int day, .int draw])), (x_ash, .inl (G 5, 4, .inr (.inr (.inr (.inr (fun k => some (x_sq k))))))), ((x_sq x3.toNatClampNeg), .inr (4, [.ref s_ait, .int s_lane, .int s_size])), (s_ait, .inl (G 1, 24, .inr (.inl s_items)))] s.heap.size = A at hD ⊢
  have hA : ∀ q : Nat, s.heap.size ≤ q → A q := fun q h => by rw [← hAe]; exact Or.inr h
  have hS : va_S A s.heap s.heap [] := va_S.rf
  have inX0 : ∀ w ∈ wsX00, w ∈ wsX7_film := by decide +kernel
  have inX1 : ∀ w ∈ wsX10, w ∈ wsX7_film := by decide +kernel
  have inX7 : ∀ w ∈ wsX70, w ∈ wsX7_film := by decide +kernel
  have fl53 := hts (.fieldLink RX7 53 "NewsCow" "sheets" "[LNewsCow$Sheet;") (by decide +kernel)
  have fl12 := hts (.fieldLink RX7 12 "NewsCow" "dairy" "LNewsCow$Dairy;") (by decide +kernel)
  have fl66 := hts (.fieldLink RX7 66 "NewsCow$Dairy" "now" "LNewsCow$Moment;") (by decide +kernel)
  have fl74 := hts (.fieldLink RX7 74 "NewsCow$Moment" "mayBe" "I") (by decide +kernel)
  have hl := lv_entry ([.ref x_xo, .int x1, .int x2, .int x3, .int x4, .int x5] : List Value) (n := 8) (Nat.le_of_ble_eq_true rfl)
  rw [lg_entry_eq]
  generalize (lg_sl ([.ref x_xo, .int x1, .int x2, .int x3, .int x4, .int x5] : List Value) ++ List.replicate (8 - (lg_sl ([.ref x_xo, .int x1, .int x2, .int x3, .int x4, .int x5] : List Value)).length) Slot.unset).toArray = ls at hl ⊢
  have hl : lv_has ls 8 [(0, .ref x_xo), (1, .int x1), (2, .int x2), (3, .int x3), (4, .int x4), (5, .int x5)] := hl
  unfold wp_X7_film at hw
  have L65 : ∀ (f65 : Nat) (x7 : Int32) (s_items : Nat → Int64) (H : Heap) (locs : List Loc) (ls : Array Slot), wp_X7_film_L65 cows milks kinds fines mayBe day s_lane x1 x2 x3 x5 post f65 s_items x7 → va_P D vwCl [(x_xo, .inr (7, [.ref da, .ref k_da, .int x_isKept, .ref t_ta, .ref p_pl, .ref r_tr, .ref w_ro, .ref x_ash])), (da, .inr (0, [.ref ami, .int cows, .ref aki, .ref afi, .int tasters, .ref anw, .ref apa, .int newest, .int known])), (ami, .inl (G 0, 8, .inl milks)), (aki, .inl (G 0, 4, .inl kinds)), (afi, .inl (G 0, 4, .inl fines)), (anw, .inr (1, [.int mayBe, .int bearer, .int day, .int draw])), (x_ash, .inl (G 5, 4, .inr (.inr (.inr (.inr (fun k => some (x_sq k))))))), ((x_sq x3.toNatClampNeg), .inr (4, [.ref s_ait, .int s_lane, .int s_size])), (s_ait, .inl (G 1, 24, .inr (.inl s_items)))] H → va_D A [(x_xo, .inr (7, [.ref da, .ref k_da, .int x_isKept, .ref t_ta, .ref p_pl, .ref r_tr, .ref w_ro, .ref x_ash])), (da, .inr (0, [.ref ami, .int cows, .ref aki, .ref afi, .int tasters, .ref anw, .ref apa, .int newest, .int known])), (ami, .inl (G 0, 8, .inl milks)), (aki, .inl (G 0, 4, .inl kinds)), (afi, .inl (G 0, 4, .inl fines)), (anw, .inr (1, [.int mayBe, .int bearer, .int day, .int draw])), (x_ash, .inl (G 5, 4, .inr (.inr (.inr (.inr (fun k => some (x_sq k))))))), ((x_sq x3.toNatClampNeg), .inr (4, [.ref s_ait, .int s_lane, .int s_size])), (s_ait, .inl (G 1, 24, .inr (.inl s_items)))] → va_S A s.heap H locs → lv_has ls 8 [(0, .ref x_xo), (1, .int x1), (2, .int x2), (3, .int x3), (5, .int x5), (7, .int x7)] → W p l e (headSpec wsX7_film ({ frames := 4, cells := 0, slots := 0, locals := 93 } : Room)).room s m ([.ref x_xo, .int x1, .int x2, .int x3, .int x4, .int x5] : List Value).toArray below meth c H locs 0 0 (MQ below (va_Qi (fun r (u : (Nat → Int64)) => post r u) (fun u t => xE D G A [(x_xo, .inr (7, [.ref da, .ref k_da, .int x_isKept, .ref t_ta, .ref p_pl, .ref r_tr, .ref w_ro, .ref x_ash])), (da, .inr (0, [.ref ami, .int cows, .ref aki, .ref afi, .int tasters, .ref anw, .ref apa, .int newest, .int known])), (ami, .inl (G 0, 8, .inl milks)), (aki, .inl (G 0, 4, .inl kinds)), (afi, .inl (G 0, 4, .inl fines)), (anw, .inr (1, [.int mayBe, .int bearer, .int day, .int draw])), (x_ash, .inl (G 5, 4, .inr (.inr (.inr (.inr (fun k => some (x_sq k))))))), ((x_sq x3.toNatClampNeg), .inr (4, [.ref s_ait, .int s_lane, .int s_size])), (s_ait, .inl (G 1, 24, .inr (.inl u)))] t) A) ([.ref x_xo, .int x1, .int x2, .int x3, .int x4, .int x5] : List Value).toArray s 0 0 A) (F0 m 65 ls []) := by
    intro f65
    induction f65 with
    | zero => intro x7 s_items H locs ls hw hP hD hS hl; exact (hw : False).elim
    | succ f65 ih65 =>
      intro x7 s_items H locs ls hw hP hD hS hl
      unfold wp_X7_film_L65 at hw
      refine lv_iload hx hb dX7_film_65 (lv_at hl 5 rfl) ?_
      refine lv_iload_n hx hb dX7_film_67 rfl (lv_at hl 2 rfl) ?_
      refine lv_icmp_gt (tgt := 115) hx hb dX7_film_68 (by decide) (fun c9 => ?_) (fun c9 => ?_)
      · replace hw := hw.1 c9
        refine lv_iload_n hx hb dX7_film_115 rfl (lv_at hl 2 rfl) ?_
        exact W.iret hx hb hr (x_mi (u := s_items) hP hK hD hS hw) hS.2.2 dX7_film_116
      · replace hw := hw.2 c9
        refine lv_aload_n hx hb dX7_film_71 rfl (lv_at hl 0 rfl) ?_
        refine va_get (D := D) (ci := 7) (v := .ref x_ash) (C := RX7) (T := TX7) (N := 8) hx hb hts inX7 hown hK hP 0 rfl rfl 7 (by decide) fl53 (fun _ h9 => h9) rfl dX7_film_72 ?_
        refine lv_iload_n hx hb dX7_film_75 rfl (lv_at hl 3 rfl) ?_
        refine x_aldq (j := x3.toNatClampNeg) (b := (x_sq x3.toNatClampNeg)) hx hb hK hP 6 5 rfl rfl rfl rfl hw.1 dX7_film_76 ?_
        replace hw := hw.2
        refine lv_iload hx hb dX7_film_77 (lv_at hl 4 rfl) ?_
        refine lv_iload hx hb dX7_film_79 (lv_at hl 5 rfl) ?_
        refine lv_iadd hx hb dX7_film_81 ?_
        refine lv_iconst (v := 1) hx hb dX7_film_82 (by decide) ?_
        refine lv_isub hx hb dX7_film_83 ?_
        refine lv_aload_n hx hb dX7_film_84 rfl (lv_at hl 0 rfl) ?_
        refine va_get (D := D) (ci := 7) (v := .ref da) (C := RX7) (T := TX7) (N := 8) hx hb hts inX7 hown hK hP 0 rfl rfl 0 (by decide) fl12 (fun _ h9 => h9) rfl dX7_film_85 ?_
        refine lv_iload_n hx hb dX7_film_88 rfl (lv_at hl 1 rfl) ?_
        refine lv_iload hx hb dX7_film_89 (lv_at hl 5 rfl) ?_
        refine vp_callSi (W.runV (As := [.int x1, .int x7]) (rest := [.int ((x5 + x7) - (1 : Int32)), .ref (x_sq x3.toNatClampNeg)]) ⟨hx, hb, hml, hown, hts⟩ (c_X0_noticedBy l D G da ami aki afi anw apa cows tasters newest known milks kinds fines mayBe bearer day draw x1 x7 _ hw) (cwV 2 hts gX7_film_X0_noticedBy rfl rfl rfl (by decide +kernel) ⟨(Nat.le_of_ble_eq_true rfl), (Nat.le_of_ble_eq_true rfl)⟩) (xR_pv (hP.sub [1, 2, 3, 4, 5] rfl) hK (va_recv hK hP (ci := 0) (q0 := 1) rfl rfl)) rfl rfl hl.1 rfl (lv_room (Nat.le_of_ble_eq_true rfl)) dX7_film_91 ⟨Nat.zero_le _, Nat.zero_le _⟩) (fun r5 hw => ?_)
        refine lv_aload_n hx hb dX7_film_94 rfl (lv_at hl 0 rfl) ?_
        refine va_get (D := D) (ci := 7) (v := .ref da) (C := RX7) (T := TX7) (N := 8) hx hb hts inX7 hown hK hP 0 rfl rfl 0 (by decide) fl12 (fun _ h9 => h9) rfl dX7_film_95 ?_
        refine va_get (D := D) (ci := 0) (v := .ref anw) (C := RX0) (T := TX0) (N := 9) hx hb hts inX0 hown hK hP 1 rfl rfl 5 (by decide) fl66 (fun _ h9 => h9) rfl dX7_film_98 ?_
        refine va_get (D := D) (ci := 1) (v := .int mayBe) (C := RX1) (T := TX1) (N := 4) hx hb hts inX1 hown hK hP 5 rfl rfl 0 (by decide) fl74 (fun _ h9 => h9) rfl dX7_film_101 ?_
        refine lv_iand hx hb dX7_film_104 ?_
        refine lv_i2l hx hb dX7_film_105 rfl ?_
        refine x_cMv (wr := [(x_xo, .inr (7, [.ref da, .ref k_da, .int x_isKept, .ref t_ta, .ref p_pl, .ref r_tr, .ref w_ro, .ref x_ash])), (da, .inr (0, [.ref ami, .int cows, .ref aki, .ref afi, .int tasters, .ref anw, .ref apa, .int newest, .int known])), (ami, .inl (G 0, 8, .inl milks)), (aki, .inl (G 0, 4, .inl kinds)), (afi, .inl (G 0, 4, .inl fines)), (anw, .inr (1, [.int mayBe, .int bearer, .int day, .int draw])), (x_ash, .inl (G 5, 4, .inr (.inr (.inr (.inr (fun k => some (x_sq k)))))))]) (va_runV (As := [.int ((x5 + x7) - (1 : Int32)), .long ((r5 &&& mayBe).toInt64)]) (rest := []) ⟨hx, hb, hml, hown, hts⟩ (c_X4_put l D G _ (x_sq x3.toNatClampNeg) s_ait s_lane s_size s_items ((x5 + x7) - (1 : Int32)) ((r5 &&& mayBe).toInt64) _ hw) (cwV 2 hts gX7_film_X4_put rfl rfl rfl (by decide +kernel) ⟨(Nat.le_of_ble_eq_true rfl), (Nat.le_of_ble_eq_true rfl)⟩) (xM_pv (hP.sub [7, 8] rfl) hK (hD.sub [7, 8] (by decide) rfl) (va_recv hK hP (ci := 4) (q0 := 7) rfl rfl)) rfl rfl hl.1 rfl (lv_room (Nat.le_of_ble_eq_true rfl)) dX7_film_106 ⟨Nat.zero_le _, Nat.zero_le _⟩) hP hD hS hA [7, 8] [0, 1, 2, 3, 4, 5, 6] rfl rfl (by decide) (by decide) [0, 1, 2, 3, 4, 5, 6, 7, 8] (fun u => [(x_xo, .inr (7, [.ref da, .ref k_da, .int x_isKept, .ref t_ta, .ref p_pl, .ref r_tr, .ref w_ro, .ref x_ash])), (da, .inr (0, [.ref ami, .int cows, .ref aki, .ref afi, .int tasters, .ref anw, .ref apa, .int newest, .int known])), (ami, .inl (G 0, 8, .inl milks)), (aki, .inl (G 0, 4, .inl kinds)), (afi, .inl (G 0, 4, .inl fines)), (anw, .inr (1, [.int mayBe, .int bearer, .int day, .int draw])), (x_ash, .inl (G 5, 4, .inr (.inr (.inr (.inr (fun k => some (x_sq k))))))), ((x_sq x3.toNatClampNeg), .inr (4, [.ref s_ait, .int s_lane, .int s_size])), (s_ait, .inl (G 1, 24, .inr (.inl u)))]) (by decide) (fun u => rfl) (fun u H locs hw hP hD hS => ?_)
        obtain ⟨s_items_6, rfl⟩ : ∃ z, z = u := ⟨_, rfl⟩
        try dsimp only at hw
        replace hP : va_P D vwCl [(x_xo, .inr (7, [.ref da, .ref k_da, .int x_isKept, .ref t_ta, .ref p_pl, .ref r_tr, .ref w_ro, .ref x_ash])), (da, .inr (0, [.ref ami, .int cows, .ref aki, .ref afi, .int tasters, .ref anw, .ref apa, .int newest, .int known])), (ami, .inl (G 0, 8, .inl milks)), (aki, .inl (G 0, 4, .inl kinds)), (afi, .inl (G 0, 4, .inl fines)), (anw, .inr (1, [.int mayBe, .int bearer, .int day, .int draw])), (x_ash, .inl (G 5, 4, .inr (.inr (.inr (.inr (fun k => some (x_sq k))))))), ((x_sq x3.toNatClampNeg), .inr (4, [.ref s_ait, .int s_lane, .int s_size])), (s_ait, .inl (G 1, 24, .inr (.inl s_items_6)))] H := hP
        replace hD : va_D A [(x_xo, .inr (7, [.ref da, .ref k_da, .int x_isKept, .ref t_ta, .ref p_pl, .ref r_tr, .ref w_ro, .ref x_ash])), (da, .inr (0, [.ref ami, .int cows, .ref aki, .ref afi, .int tasters, .ref anw, .ref apa, .int newest, .int known])), (ami, .inl (G 0, 8, .inl milks)), (aki, .inl (G 0, 4, .inl kinds)), (afi, .inl (G 0, 4, .inl fines)), (anw, .inr (1, [.int mayBe, .int bearer, .int day, .int draw])), (x_ash, .inl (G 5, 4, .inr (.inr (.inr (.inr (fun k => some (x_sq k))))))), ((x_sq x3.toNatClampNeg), .inr (4, [.ref s_ait, .int s_lane, .int s_size])), (s_ait, .inl (G 1, 24, .inr (.inl s_items_6)))] := hD
        refine lv_iinc (v := (x7 + 1)) (lv' := [(7, .int (x7 + 1)), (0, .ref x_xo), (1, .int x1), (2, .int x2), (3, .int x3), (5, .int x5)]) hx hb dX7_film_109 hl (k := 5) rfl (by first | rfl | decide) (by decide) rfl (fun ls hl => ?_)
        refine lv_goto (tgt := 65) hx hb dX7_film_112 (by decide) ?_
        exact ih65 (x7 + 1) s_items_6 _ _ _ hw hP hD hS (lv_sub hl [1, 2, 3, 4, 5, 0] rfl)
  refine lv_aload_n hx hb dX7_film_0 rfl (lv_at hl 0 rfl) ?_
  refine lv_iload_n hx hb dX7_film_1 rfl (lv_at hl 1 rfl) ?_
  refine vp_callSi (W.runV (As := [.int x1]) (rest := []) ⟨hx, hb, hml, hown, hts⟩ (c_X7_isTaster l D G x_xo da k_da t_ta p_pl r_tr w_ro x_ash ami aki afi anw apa x_isKept cows tasters newest known x1 _ hw) (cwV 1 hts gX7_film_X7_isTaster rfl rfl rfl (by decide +kernel) ⟨(Nat.le_of_ble_eq_true rfl), (Nat.le_of_ble_eq_true rfl)⟩) (xR_pv (hP.sub [0, 1] rfl) hK (va_recv hK hP (ci := 7) (q0 := 0) rfl rfl)) rfl rfl hl.1 rfl (lv_room (Nat.le_of_ble_eq_true rfl)) dX7_film_2 ⟨Nat.zero_le _, Nat.zero_le _⟩) (fun r1 hw => ?_)
  refine lv_if_eq (tgt := 36) hx hb dX7_film_5 (by decide) (fun c9 => ?_) (fun c9 => ?_)
  · replace hw := hw.1 c9
    refine lv_iconst (v := -1) hx hb dX7_film_36 (by decide) ?_
    exact W.iret hx hb hr (x_mi (u := s_items) hP hK hD hS hw) hS.2.2 dX7_film_37
  · replace hw := hw.2 c9
    refine lv_iload_n hx hb dX7_film_8 rfl (lv_at hl 2 rfl) ?_
    refine lv_iconst (v := 1) hx hb dX7_film_9 (by decide) ?_
    refine lv_icmp_lt (tgt := 36) hx hb dX7_film_10 (by decide) (fun c9 => ?_) (fun c9 => ?_)
    · replace hw := hw.1 c9
      refine lv_iconst (v := -1) hx hb dX7_film_36 (by decide) ?_
      exact W.iret hx hb hr (x_mi (u := s_items) hP hK hD hS hw) hS.2.2 dX7_film_37
    · replace hw := hw.2 c9
      refine lv_iload_n hx hb dX7_film_13 rfl (lv_at hl 2 rfl) ?_
      refine lv_bipush (v := 24) hx hb dX7_film_14 (by decide) ?_
      refine lv_icmp_gt (tgt := 36) hx hb dX7_film_16 (by decide) (fun c9 => ?_) (fun c9 => ?_)
      · replace hw := hw.1 c9
        refine lv_iconst (v := -1) hx hb dX7_film_36 (by decide) ?_
        exact W.iret hx hb hr (x_mi (u := s_items) hP hK hD hS hw) hS.2.2 dX7_film_37
      · replace hw := hw.2 c9
        refine lv_aload_n hx hb dX7_film_19 rfl (lv_at hl 0 rfl) ?_
        refine lv_iload_n hx hb dX7_film_20 rfl (lv_at hl 2 rfl) ?_
        refine vp_callSi (W.runV (As := [.int x2]) (rest := []) ⟨hx, hb, hml, hown, hts⟩ (c_X7_isMix l D G x_xo da k_da t_ta p_pl r_tr w_ro x_ash ami aki afi anw apa x_isKept cows tasters newest known x2 _ hw) (cwV 1 hts gX7_film_X7_isMix rfl rfl rfl (by decide +kernel) ⟨(Nat.le_of_ble_eq_true rfl), (Nat.le_of_ble_eq_true rfl)⟩) (xR_pv (hP.sub [0, 1] rfl) hK (va_recv hK hP (ci := 7) (q0 := 0) rfl rfl)) rfl rfl hl.1 rfl (lv_room (Nat.le_of_ble_eq_true rfl)) dX7_film_21 ⟨Nat.zero_le _, Nat.zero_le _⟩) (fun r2 hw => ?_)
        refine lv_if_eq (tgt := 36) hx hb dX7_film_24 (by decide) (fun c9 => ?_) (fun c9 => ?_)
        · replace hw := hw.1 c9
          refine lv_iconst (v := -1) hx hb dX7_film_36 (by decide) ?_
          exact W.iret hx hb hr (x_mi (u := s_items) hP hK hD hS hw) hS.2.2 dX7_film_37
        · replace hw := hw.2 c9
          refine lv_iload_n hx hb dX7_film_27 rfl (lv_at hl 3 rfl) ?_
          refine lv_iload hx hb dX7_film_28 (lv_at hl 4 rfl) ?_
          refine vp_callSi (W.runS (As := [.int x3, .int x4]) (rest := []) ⟨hx, hb, hml, hown, hts⟩ (c_X7_isLaneOfSheet l D G x3 x4 _ hw) (va_cwS 2 hts gX7_film_X7_isLaneOfSheet rfl rfl rfl (by decide +kernel) ⟨(Nat.le_of_ble_eq_true rfl), (Nat.le_of_ble_eq_true rfl)⟩) (xR_ps (hP.sub [] rfl) hK) rfl rfl hl.1 rfl (lv_room (Nat.le_of_ble_eq_true rfl)) dX7_film_30 ⟨Nat.zero_le _, Nat.zero_le _⟩) (fun r3 hw => ?_)
          refine lv_if_ne (tgt := 38) hx hb dX7_film_33 (by decide) (fun c9 => ?_) (fun c9 => ?_)
          · replace hw := hw.1 c9
            refine lv_aload_n hx hb dX7_film_38 rfl (lv_at hl 0 rfl) ?_
            refine va_get (D := D) (ci := 7) (v := .ref x_ash) (C := RX7) (T := TX7) (N := 8) hx hb hts inX7 hown hK hP 0 rfl rfl 7 (by decide) fl53 (fun _ h9 => h9) rfl dX7_film_39 ?_
            refine lv_iload_n hx hb dX7_film_42 rfl (lv_at hl 3 rfl) ?_
            refine x_aldq (j := x3.toNatClampNeg) (b := (x_sq x3.toNatClampNeg)) hx hb hK hP 6 5 rfl rfl rfl rfl hw.1 dX7_film_43 ?_
            replace hw := hw.2
            refine lv_iload hx hb dX7_film_44 (lv_at hl 4 rfl) ?_
            refine lv_iload hx hb dX7_film_46 (lv_at hl 5 rfl) ?_
            refine lv_iload_n hx hb dX7_film_48 rfl (lv_at hl 2 rfl) ?_
            refine vp_callSi (W.runV (As := [.int x4, .int x5, .int x2]) (rest := []) ⟨hx, hb, hml, hown, hts⟩ (c_X4_refusal l D G (x_sq x3.toNatClampNeg) s_ait s_lane s_size x4 x5 x2 _ hw) (cwV 3 hts gX7_film_X4_refusal rfl rfl rfl (by decide +kernel) ⟨(Nat.le_of_ble_eq_true rfl), (Nat.le_of_ble_eq_true rfl)⟩) (xR_pv (hP.sub [7] rfl) hK (va_recv hK hP (ci := 4) (q0 := 7) rfl rfl)) rfl rfl hl.1 rfl (lv_room (Nat.le_of_ble_eq_true rfl)) dX7_film_49 ⟨Nat.zero_le _, Nat.zero_le _⟩) (fun r4 hw => ?_)
            refine lv_istore (lv' := [(6, .int r4), (0, .ref x_xo), (1, .int x1), (2, .int x2), (3, .int x3), (4, .int x4), (5, .int x5)]) hx hb dX7_film_52 hl (by decide) rfl (fun ls hl => ?_)
            refine lv_iload hx hb dX7_film_54 (lv_at hl 0 rfl) ?_
            refine lv_if_eq (tgt := 62) hx hb dX7_film_56 (by decide) (fun c9 => ?_) (fun c9 => ?_)
            · replace hw := hw.1 c9
              refine lv_iconst (v := 1) hx hb dX7_film_62 (by decide) ?_
              refine lv_istore (lv' := [(7, .int (1 : Int32)), (6, .int r4), (0, .ref x_xo), (1, .int x1), (2, .int x2), (3, .int x3), (4, .int x4), (5, .int x5)]) hx hb dX7_film_63 hl (by decide) rfl (fun ls hl => ?_)
              obtain ⟨n, hw⟩ := hw
              exact L65 n (1 : Int32) s_items _ _ _ hw hP hD hS (lv_sub hl [2, 3, 4, 5, 7, 0] rfl)
            · replace hw := hw.2 c9
              refine lv_iload hx hb dX7_film_59 (lv_at hl 0 rfl) ?_
              exact W.iret hx hb hr (x_mi (u := s_items) hP hK hD hS hw) hS.2.2 dX7_film_61
          · replace hw := hw.2 c9
            refine lv_iconst (v := -1) hx hb dX7_film_36 (by decide) ?_
            exact W.iret hx hb hr (x_mi (u := s_items) hP hK hD hS hw) hS.2.2 dX7_film_37
set_option maxHeartbeats 4000000 in
set_option maxRecDepth 100000 in
theorem c_X7_sheet (l : Launch) (D : va_G) (G : Nat → ClassId) (sz : Nat) (x_xo : Nat) (da : Nat) (k_da : Nat) (t_ta : Nat) (p_pl : Nat) (r_tr : Nat) (w_ro : Nat) (x_ash : Nat) (x_sq : Nat → Nat) (s_ait : Nat) (x_isKept : Int32) (s_lane : Int32) (s_size : Int32) (s_items : Nat → Int64) (x1 : Int32) (x2 : Int32) (x3 : Int32) (post : Int32 → Int32 → Int32 → (Nat → Int64) → Prop) (hw : wp_X7_sheet s_lane s_size s_items x1 x2 x3 post) : Met l yX7_sheet wsX7_sheet ({ frames := 2, cells := 0, slots := 0, locals := 41 } : Room) (va_Pc [.ref x_xo, .int x1, .int x2, .int x3] (xM D G sz [(x_xo, .inr (7, [.ref da, .ref k_da, .int x_isKept, .ref t_ta, .ref p_pl, .ref r_tr, .ref w_ro, .ref x_ash])), (x_ash, .inl (G 5, 4, .inr (.inr (.inr (.inr (fun k => some (x_sq k))))))), ((x_sq x1.toNatClampNeg), .inr (4, [.ref s_ait, .int s_lane, .int s_size])), (s_ait, .inl (G 1, 24, .inr (.inl s_items)))])) (va_Qi (fun r (u : Int32 × Int32 × (Nat → Int64)) => post r u.1 u.2.1 u.2.2) (fun u t => xE D G (va_A [(x_xo, .inr (7, [.ref da, .ref k_da, .int x_isKept, .ref t_ta, .ref p_pl, .ref r_tr, .ref w_ro, .ref x_ash])), (x_ash, .inl (G 5, 4, .inr (.inr (.inr (.inr (fun k => some (x_sq k))))))), ((x_sq x1.toNatClampNeg), .inr (4, [.ref s_ait, .int s_lane, .int s_size])), (s_ait, .inl (G 1, 24, .inr (.inl s_items)))] sz) [(x_xo, .inr (7, [.ref da, .ref k_da, .int x_isKept, .ref t_ta, .ref p_pl, .ref r_tr, .ref w_ro, .ref x_ash])), (x_ash, .inl (G 5, 4, .inr (.inr (.inr (.inr (fun k => some (x_sq k))))))), ((x_sq x1.toNatClampNeg), .inr (4, [.ref s_ait, .int u.1, .int u.2.1])), (s_ait, .inl (G 1, 24, .inr (.inl (u.2.2))))] t) (va_A [(x_xo, .inr (7, [.ref da, .ref k_da, .int x_isKept, .ref t_ta, .ref p_pl, .ref r_tr, .ref w_ro, .ref x_ash])), (x_ash, .inl (G 5, 4, .inr (.inr (.inr (.inr (fun k => some (x_sq k))))))), ((x_sq x1.toNatClampNeg), .inr (4, [.ref s_ait, .int s_lane, .int s_size])), (s_ait, .inl (G 1, 24, .inr (.inl s_items)))] sz)) 0 0 (va_A [(x_xo, .inr (7, [.ref da, .ref k_da, .int x_isKept, .ref t_ta, .ref p_pl, .ref r_tr, .ref w_ro, .ref x_ash])), (x_ash, .inl (G 5, 4, .inr (.inr (.inr (.inr (fun k => some (x_sq k))))))), ((x_sq x1.toNatClampNeg), .inr (4, [.ref s_ait, .int s_lane, .int s_size])), (s_ait, .inl (G 1, 24, .inr (.inl s_items)))] sz) := by
  refine Met.ofW (cc := cX7_sheet) (maxL := 4) (ret := (some .int)) (by decide) rfl ?_
  intro p e s m args below meth c s₁ B hml hv
  obtain ⟨rfl, hsz, hP, hK, hD0⟩ := hv
  have hx := B.exec
  have hb := B.bytes
  have hr := B.returns
  have hts := atoms_spec (ws := wsX7_sheet) B.pre
  have hown : s.vm.findClass RX7 = some m.cls := findClass_of_methodNamed B.named
  have hlocks := B.notSynchronized
  subst hsz
  have hD := hD0.self (sz := s.heap.size)
  generalize hAe : va_A [(x_xo, .inr (7, [.ref da, .ref k_da, .int x_isKept, .ref t_ta, .ref p_pl, .ref r_tr, .ref w_ro, .ref x_ash])), (x_ash, .inl (G 5, 4, .inr (.inr (.inr (.inr (fun k => some (x_sq k))))))), ((x_sq x1.toNatClampNeg), .inr (4, [.ref s_ait, .int s_lane, .int s_size])), (s_ait, .inl (G 1, 24, .inr (.inl s_items)))] s.heap.size = A at hD ⊢
  have hA : ∀ q : Nat, s.heap.size ≤ q → A q := fun q h => by rw [← hAe]; exact Or.inr h
  have hS : va_S A s.heap s.heap [] := va_S.rf
  have inX7 : ∀ w ∈ wsX70, w ∈ wsX7_sheet := by decide +kernel
  have fl53 := hts (.fieldLink RX7 53 "NewsCow" "sheets" "[LNewsCow$Sheet;") (by decide +kernel)
  have hl := lv_entry ([.ref x_xo, .int x1, .int x2, .int x3] : List Value) (n := 4) (Nat.le_of_ble_eq_true rfl)
  rw [lg_entry_eq]
  generalize (lg_sl ([.ref x_xo, .int x1, .int x2, .int x3] : List Value) ++ List.replicate (4 - (lg_sl ([.ref x_xo, .int x1, .int x2, .int x3] : List Value)).length) Slot.unset).toArray = ls at hl ⊢
  have hl : lv_has ls 4 [(0, .ref x_xo), (1, .int x1), (2, .int x2), (3, .int x3)] := hl
  unfold wp_X7_sheet at hw
  refine lv_iload_n hx hb dX7_sheet_0 rfl (lv_at hl 1 rfl) ?_
  refine lv_iload_n hx hb dX7_sheet_1 rfl (lv_at hl 2 rfl) ?_
  refine vp_callSi (W.runS (As := [.int x1, .int x2]) (rest := []) ⟨hx, hb, hml, hown, hts⟩ (c_X7_isLaneOfSheet l D G x1 x2 _ hw) (va_cwS 2 hts gX7_sheet_X7_isLaneOfSheet rfl rfl rfl (by decide +kernel) ⟨(Nat.le_of_ble_eq_true rfl), (Nat.le_of_ble_eq_true rfl)⟩) (xR_ps (hP.sub [] rfl) hK) rfl rfl hl.1 rfl (lv_room (Nat.le_of_ble_eq_true rfl)) dX7_sheet_2 ⟨Nat.zero_le _, Nat.zero_le _⟩) (fun r1 hw => ?_)
  refine lv_if_eq (tgt := 14) hx hb dX7_sheet_5 (by decide) (fun c9 => ?_) (fun c9 => ?_)
  · replace hw := hw.1 c9
    refine lv_iconst (v := -1) hx hb dX7_sheet_14 (by decide) ?_
    exact W.iret hx hb hr (x_mi (u := (s_lane, s_size, s_items)) hP hK hD hS hw) hS.2.2 dX7_sheet_15
  · replace hw := hw.2 c9
    refine lv_iload_n hx hb dX7_sheet_8 rfl (lv_at hl 3 rfl) ?_
    refine lv_bipush (v := 24) hx hb dX7_sheet_9 (by decide) ?_
    refine lv_icmp_le (tgt := 16) hx hb dX7_sheet_11 (by decide) (fun c9 => ?_) (fun c9 => ?_)
    · replace hw := hw.1 c9
      refine lv_iload_n hx hb dX7_sheet_16 rfl (lv_at hl 3 rfl) ?_
      refine lv_if_ge (tgt := 23) hx hb dX7_sheet_17 (by decide) (fun c9 => ?_) (fun c9 => ?_)
      · replace hw := hw.1 c9
        refine lv_aload_n hx hb dX7_sheet_23 rfl (lv_at hl 0 rfl) ?_
        refine va_get (D := D) (ci := 7) (v := .ref x_ash) (C := RX7) (T := TX7) (N := 8) hx hb hts inX7 hown hK hP 0 rfl rfl 7 (by decide) fl53 (fun _ h9 => h9) rfl dX7_sheet_24 ?_
        refine lv_iload_n hx hb dX7_sheet_27 rfl (lv_at hl 1 rfl) ?_
        refine x_aldq (j := x1.toNatClampNeg) (b := (x_sq x1.toNatClampNeg)) hx hb hK hP 1 5 rfl rfl rfl rfl hw.1 dX7_sheet_28 ?_
        replace hw := hw.2
        refine lv_iload_n hx hb dX7_sheet_29 rfl (lv_at hl 2 rfl) ?_
        refine lv_iload_n hx hb dX7_sheet_30 rfl (lv_at hl 3 rfl) ?_
        refine x_cMv (wr := [(x_xo, .inr (7, [.ref da, .ref k_da, .int x_isKept, .ref t_ta, .ref p_pl, .ref r_tr, .ref w_ro, .ref x_ash])), (x_ash, .inl (G 5, 4, .inr (.inr (.inr (.inr (fun k => some (x_sq k)))))))]) (va_runV (As := [.int x2, .int x3]) (rest := []) ⟨hx, hb, hml, hown, hts⟩ (c_X4_renew l D G _ (x_sq x1.toNatClampNeg) s_ait s_lane s_size s_items x2 x3 _ hw) (cwV 2 hts gX7_sheet_X4_renew rfl rfl rfl (by decide +kernel) ⟨(Nat.le_of_ble_eq_true rfl), (Nat.le_of_ble_eq_true rfl)⟩) (xM_pv (hP.sub [2, 3] rfl) hK (hD.sub [2, 3] (by decide) rfl) (va_recv hK hP (ci := 4) (q0 := 2) rfl rfl)) rfl rfl hl.1 rfl (lv_room (Nat.le_of_ble_eq_true rfl)) dX7_sheet_31 ⟨Nat.zero_le _, Nat.zero_le _⟩) hP hD hS hA [2, 3] [0, 1] rfl rfl (by decide) (by decide) [0, 1, 2, 3] (fun u => [(x_xo, .inr (7, [.ref da, .ref k_da, .int x_isKept, .ref t_ta, .ref p_pl, .ref r_tr, .ref w_ro, .ref x_ash])), (x_ash, .inl (G 5, 4, .inr (.inr (.inr (.inr (fun k => some (x_sq k))))))), ((x_sq x1.toNatClampNeg), .inr (4, [.ref s_ait, .int u.1, .int u.2.1])), (s_ait, .inl (G 1, 24, .inr (.inl (u.2.2))))]) (by decide) (fun u => rfl) (fun u H locs hw hP hD hS => ?_)
        obtain ⟨s_lane_2, s_size_2, s_items_2⟩ := u
        try dsimp only at hw
        replace hP : va_P D vwCl [(x_xo, .inr (7, [.ref da, .ref k_da, .int x_isKept, .ref t_ta, .ref p_pl, .ref r_tr, .ref w_ro, .ref x_ash])), (x_ash, .inl (G 5, 4, .inr (.inr (.inr (.inr (fun k => some (x_sq k))))))), ((x_sq x1.toNatClampNeg), .inr (4, [.ref s_ait, .int s_lane_2, .int s_size_2])), (s_ait, .inl (G 1, 24, .inr (.inl s_items_2)))] H := hP
        replace hD : va_D A [(x_xo, .inr (7, [.ref da, .ref k_da, .int x_isKept, .ref t_ta, .ref p_pl, .ref r_tr, .ref w_ro, .ref x_ash])), (x_ash, .inl (G 5, 4, .inr (.inr (.inr (.inr (fun k => some (x_sq k))))))), ((x_sq x1.toNatClampNeg), .inr (4, [.ref s_ait, .int s_lane_2, .int s_size_2])), (s_ait, .inl (G 1, 24, .inr (.inl s_items_2)))] := hD
        refine lv_iload_n hx hb dX7_sheet_34 rfl (lv_at hl 3 rfl) ?_
        exact W.iret hx hb hr (x_mi (u := (s_lane_2, s_size_2, s_items_2)) hP hK hD hS hw) hS.2.2 dX7_sheet_35
      · replace hw := hw.2 c9
        refine lv_bipush (v := -14) hx hb dX7_sheet_20 (by decide) ?_
        exact W.iret hx hb hr (x_mi (u := (s_lane, s_size, s_items)) hP hK hD hS hw) hS.2.2 dX7_sheet_22
    · replace hw := hw.2 c9
      refine lv_iconst (v := -1) hx hb dX7_sheet_14 (by decide) ?_
      exact W.iret hx hb hr (x_mi (u := (s_lane, s_size, s_items)) hP hK hD hS hw) hS.2.2 dX7_sheet_15
set_option maxHeartbeats 4000000 in
set_option maxRecDepth 100000 in
theorem c_X7_drop (l : Launch) (D : va_G) (G : Nat → ClassId) (sz : Nat) (x_xo : Nat) (da : Nat) (k_da : Nat) (t_ta : Nat) (p_pl : Nat) (r_tr : Nat) (w_ro : Nat) (x_ash : Nat) (x_sq : Nat → Nat) (s_ait : Nat) (x_isKept : Int32) (s_lane : Int32) (s_size : Int32) (x1 : Int32) (post : Int32 → Int32 → Prop) (hw : wp_X7_drop s_size x1 post) : Met l yX7_drop wsX7_drop ({ frames := 1, cells := 0, slots := 0, locals := 20 } : Room) (va_Pc [.ref x_xo, .int x1] (xM D G sz [(x_xo, .inr (7, [.ref da, .ref k_da, .int x_isKept, .ref t_ta, .ref p_pl, .ref r_tr, .ref w_ro, .ref x_ash])), (x_ash, .inl (G 5, 4, .inr (.inr (.inr (.inr (fun k => some (x_sq k))))))), ((x_sq x1.toNatClampNeg), .inr (4, [.ref s_ait, .int s_lane, .int s_size]))])) (va_Qi (fun r (u : Int32) => post r u) (fun u t => xE D G (va_A [(x_xo, .inr (7, [.ref da, .ref k_da, .int x_isKept, .ref t_ta, .ref p_pl, .ref r_tr, .ref w_ro, .ref x_ash])), (x_ash, .inl (G 5, 4, .inr (.inr (.inr (.inr (fun k => some (x_sq k))))))), ((x_sq x1.toNatClampNeg), .inr (4, [.ref s_ait, .int s_lane, .int s_size]))] sz) [(x_xo, .inr (7, [.ref da, .ref k_da, .int x_isKept, .ref t_ta, .ref p_pl, .ref r_tr, .ref w_ro, .ref x_ash])), (x_ash, .inl (G 5, 4, .inr (.inr (.inr (.inr (fun k => some (x_sq k))))))), ((x_sq x1.toNatClampNeg), .inr (4, [.ref s_ait, .int s_lane, .int u]))] t) (va_A [(x_xo, .inr (7, [.ref da, .ref k_da, .int x_isKept, .ref t_ta, .ref p_pl, .ref r_tr, .ref w_ro, .ref x_ash])), (x_ash, .inl (G 5, 4, .inr (.inr (.inr (.inr (fun k => some (x_sq k))))))), ((x_sq x1.toNatClampNeg), .inr (4, [.ref s_ait, .int s_lane, .int s_size]))] sz)) 0 0 (va_A [(x_xo, .inr (7, [.ref da, .ref k_da, .int x_isKept, .ref t_ta, .ref p_pl, .ref r_tr, .ref w_ro, .ref x_ash])), (x_ash, .inl (G 5, 4, .inr (.inr (.inr (.inr (fun k => some (x_sq k))))))), ((x_sq x1.toNatClampNeg), .inr (4, [.ref s_ait, .int s_lane, .int s_size]))] sz) := by
  refine Met.ofW (cc := cX7_drop) (maxL := 3) (ret := (some .int)) (by decide) rfl ?_
  intro p e s m args below meth c s₁ B hml hv
  obtain ⟨rfl, hsz, hP, hK, hD0⟩ := hv
  have hx := B.exec
  have hb := B.bytes
  have hr := B.returns
  have hts := atoms_spec (ws := wsX7_drop) B.pre
  have hown : s.vm.findClass RX7 = some m.cls := findClass_of_methodNamed B.named
  have hlocks := B.notSynchronized
  subst hsz
  have hD := hD0.self (sz := s.heap.size)
  generalize hAe : va_A [(x_xo, .inr (7, [.ref da, .ref k_da, .int x_isKept, .ref t_ta, .ref p_pl, .ref r_tr, .ref w_ro, .ref x_ash])), (x_ash, .inl (G 5, 4, .inr (.inr (.inr (.inr (fun k => some (x_sq k))))))), ((x_sq x1.toNatClampNeg), .inr (4, [.ref s_ait, .int s_lane, .int s_size]))] s.heap.size = A at hD ⊢
  have hA : ∀ q : Nat, s.heap.size ≤ q → A q := fun q h => by rw [← hAe]; exact Or.inr h
  have hS : va_S A s.heap s.heap [] := va_S.rf
  have inX4 : ∀ w ∈ wsX40, w ∈ wsX7_drop := by decide +kernel
  have inX7 : ∀ w ∈ wsX70, w ∈ wsX7_drop := by decide +kernel
  have fl53 := hts (.fieldLink RX7 53 "NewsCow" "sheets" "[LNewsCow$Sheet;") (by decide +kernel)
  have fl257 := hts (.fieldLink RX7 257 "NewsCow$Sheet" "size" "I") (by decide +kernel)
  have hl := lv_entry ([.ref x_xo, .int x1] : List Value) (n := 3) (Nat.le_of_ble_eq_true rfl)
  rw [lg_entry_eq]
  generalize (lg_sl ([.ref x_xo, .int x1] : List Value) ++ List.replicate (3 - (lg_sl ([.ref x_xo, .int x1] : List Value)).length) Slot.unset).toArray = ls at hl ⊢
  have hl : lv_has ls 3 [(0, .ref x_xo), (1, .int x1)] := hl
  unfold wp_X7_drop at hw
  refine lv_iload_n hx hb dX7_drop_0 rfl (lv_at hl 1 rfl) ?_
  refine vp_callSi (W.runS (As := [.int x1]) (rest := []) ⟨hx, hb, hml, hown, hts⟩ (c_X7_isSheet l D G x1 _ hw) (va_cwS 1 hts gX7_drop_X7_isSheet rfl rfl rfl (by decide +kernel) ⟨(Nat.le_of_ble_eq_true rfl), (Nat.le_of_ble_eq_true rfl)⟩) (xR_ps (hP.sub [] rfl) hK) rfl rfl hl.1 rfl (lv_room (Nat.le_of_ble_eq_true rfl)) dX7_drop_1 ⟨Nat.zero_le _, Nat.zero_le _⟩) (fun r1 hw => ?_)
  refine lv_if_ne (tgt := 9) hx hb dX7_drop_4 (by decide) (fun c9 => ?_) (fun c9 => ?_)
  · replace hw := hw.1 c9
    refine lv_aload_n hx hb dX7_drop_9 rfl (lv_at hl 0 rfl) ?_
    refine va_get (D := D) (ci := 7) (v := .ref x_ash) (C := RX7) (T := TX7) (N := 8) hx hb hts inX7 hown hK hP 0 rfl rfl 7 (by decide) fl53 (fun _ h9 => h9) rfl dX7_drop_10 ?_
    refine lv_iload_n hx hb dX7_drop_13 rfl (lv_at hl 1 rfl) ?_
    refine x_aldq (j := x1.toNatClampNeg) (b := (x_sq x1.toNatClampNeg)) hx hb hK hP 1 5 rfl rfl rfl rfl hw.1 dX7_drop_14 ?_
    replace hw := hw.2
    refine va_get (D := D) (ci := 4) (v := .int s_size) (C := RX4) (T := TX4) (N := 3) hx hb hts inX4 hown hK hP 2 rfl rfl 2 (by decide) fl257 (fun _ h9 => h9) rfl dX7_drop_15 ?_
    refine lv_istore_n (lv' := [(2, .int s_size), (0, .ref x_xo), (1, .int x1)]) hx hb dX7_drop_18 rfl hl (by decide) rfl (fun ls hl => ?_)
    refine lv_iload_n hx hb dX7_drop_19 rfl (lv_at hl 0 rfl) ?_
    refine lv_iconst (v := -1) hx hb dX7_drop_20 (by decide) ?_
    refine lv_icmp_ne (tgt := 27) hx hb dX7_drop_21 (by decide) (fun c9 => ?_) (fun c9 => ?_)
    · replace hw := hw.1 c9
      refine lv_aload_n hx hb dX7_drop_27 rfl (lv_at hl 1 rfl) ?_
      refine va_get (D := D) (ci := 7) (v := .ref x_ash) (C := RX7) (T := TX7) (N := 8) hx hb hts inX7 hown hK hP 0 rfl rfl 7 (by decide) fl53 (fun _ h9 => h9) rfl dX7_drop_28 ?_
      refine lv_iload_n hx hb dX7_drop_31 rfl (lv_at hl 2 rfl) ?_
      refine x_aldq (j := x1.toNatClampNeg) (b := (x_sq x1.toNatClampNeg)) hx hb hK hP 1 5 rfl rfl rfl rfl hw.1 dX7_drop_32 ?_
      replace hw := hw.2
      refine lv_iconst (v := -1) hx hb dX7_drop_33 (by decide) ?_
      refine va_put (D := D) (ci := 4) (v := .int (-1 : Int32)) (ty := .int) (C := RX4) (T := TX4) (N := 3) hx hb hts inX4 tyX4 tyX4_ok nmX4 hown hK hP hD hS 2 rfl rfl 2 (by decide) fl257 (fun _ h9 => h9) rfl (by decide +kernel) rfl rfl (Nat.le_of_ble_eq_true rfl) dX7_drop_34 (fun H locs hP hD hS => ?_)
      replace hP : va_P D vwCl [(x_xo, .inr (7, [.ref da, .ref k_da, .int x_isKept, .ref t_ta, .ref p_pl, .ref r_tr, .ref w_ro, .ref x_ash])), (x_ash, .inl (G 5, 4, .inr (.inr (.inr (.inr (fun k => some (x_sq k))))))), ((x_sq x1.toNatClampNeg), .inr (4, [.ref s_ait, .int s_lane, .int (-1 : Int32)]))] H := hP
      replace hD : va_D A [(x_xo, .inr (7, [.ref da, .ref k_da, .int x_isKept, .ref t_ta, .ref p_pl, .ref r_tr, .ref w_ro, .ref x_ash])), (x_ash, .inl (G 5, 4, .inr (.inr (.inr (.inr (fun k => some (x_sq k))))))), ((x_sq x1.toNatClampNeg), .inr (4, [.ref s_ait, .int s_lane, .int (-1 : Int32)]))] := hD
      refine lv_iload_n hx hb dX7_drop_37 rfl (lv_at hl 0 rfl) ?_
      exact W.iret hx hb hr (x_mi (u := (-1 : Int32)) hP hK hD hS hw) hS.2.2 dX7_drop_38
    · replace hw := hw.2 c9
      refine lv_bipush (v := -11) hx hb dX7_drop_24 (by decide) ?_
      exact W.iret hx hb hr (x_mi (u := s_size) hP hK hD hS hw) hS.2.2 dX7_drop_26
  · replace hw := hw.2 c9
    refine lv_iconst (v := -1) hx hb dX7_drop_7 (by decide) ?_
    exact W.iret hx hb hr (x_mi (u := s_size) hP hK hD hS hw) hS.2.2 dX7_drop_8
set_option maxHeartbeats 4000000 in
set_option maxRecDepth 100000 in
theorem c_X7_item (l : Launch) (D : va_G) (G : Nat → ClassId) (sz : Nat) (x_xo : Nat) (da : Nat) (k_da : Nat) (t_ta : Nat) (p_pl : Nat) (r_tr : Nat) (w_ro : Nat) (x_ash : Nat) (x_sq : Nat → Nat) (s_ait : Nat) (x_isKept : Int32) (s_lane : Int32) (s_size : Int32) (s_items : Nat → Int64) (x1 : Int32) (x2 : Int32) (x3 : Int32) (x4 : Int64) (post : Int32 → (Nat → Int64) → Prop) (hw : wp_X7_item s_lane s_size s_items x1 x2 x3 x4 post) : Met l yX7_item wsX7_item ({ frames := 2, cells := 0, slots := 0, locals := 45 } : Room) (va_Pc [.ref x_xo, .int x1, .int x2, .int x3, .long x4] (xM D G sz [(x_xo, .inr (7, [.ref da, .ref k_da, .int x_isKept, .ref t_ta, .ref p_pl, .ref r_tr, .ref w_ro, .ref x_ash])), (x_ash, .inl (G 5, 4, .inr (.inr (.inr (.inr (fun k => some (x_sq k))))))), ((x_sq x1.toNatClampNeg), .inr (4, [.ref s_ait, .int s_lane, .int s_size])), (s_ait, .inl (G 1, 24, .inr (.inl s_items)))])) (va_Qi (fun r (u : (Nat → Int64)) => post r u) (fun u t => xE D G (va_A [(x_xo, .inr (7, [.ref da, .ref k_da, .int x_isKept, .ref t_ta, .ref p_pl, .ref r_tr, .ref w_ro, .ref x_ash])), (x_ash, .inl (G 5, 4, .inr (.inr (.inr (.inr (fun k => some (x_sq k))))))), ((x_sq x1.toNatClampNeg), .inr (4, [.ref s_ait, .int s_lane, .int s_size])), (s_ait, .inl (G 1, 24, .inr (.inl s_items)))] sz) [(x_xo, .inr (7, [.ref da, .ref k_da, .int x_isKept, .ref t_ta, .ref p_pl, .ref r_tr, .ref w_ro, .ref x_ash])), (x_ash, .inl (G 5, 4, .inr (.inr (.inr (.inr (fun k => some (x_sq k))))))), ((x_sq x1.toNatClampNeg), .inr (4, [.ref s_ait, .int s_lane, .int s_size])), (s_ait, .inl (G 1, 24, .inr (.inl u)))] t) (va_A [(x_xo, .inr (7, [.ref da, .ref k_da, .int x_isKept, .ref t_ta, .ref p_pl, .ref r_tr, .ref w_ro, .ref x_ash])), (x_ash, .inl (G 5, 4, .inr (.inr (.inr (.inr (fun k => some (x_sq k))))))), ((x_sq x1.toNatClampNeg), .inr (4, [.ref s_ait, .int s_lane, .int s_size])), (s_ait, .inl (G 1, 24, .inr (.inl s_items)))] sz)) 0 0 (va_A [(x_xo, .inr (7, [.ref da, .ref k_da, .int x_isKept, .ref t_ta, .ref p_pl, .ref r_tr, .ref w_ro, .ref x_ash])), (x_ash, .inl (G 5, 4, .inr (.inr (.inr (.inr (fun k => some (x_sq k))))))), ((x_sq x1.toNatClampNeg), .inr (4, [.ref s_ait, .int s_lane, .int s_size])), (s_ait, .inl (G 1, 24, .inr (.inl s_items)))] sz) := by
  refine Met.ofW (cc := cX7_item) (maxL := 7) (ret := (some .int)) (by decide) rfl ?_
  intro p e s m args below meth c s₁ B hml hv
  obtain ⟨rfl, hsz, hP, hK, hD0⟩ := hv
  have hx := B.exec
  have hb := B.bytes
  have hr := B.returns
  have hts := atoms_spec (ws := wsX7_item) B.pre
  have hown : s.vm.findClass RX7 = some m.cls := findClass_of_methodNamed B.named
  have hlocks := B.notSynchronized
  subst hsz
  have hD := hD0.self (sz := s.heap.size)
  generalize hAe : va_A [(x_xo, .inr (7, [.ref da, .ref k_da, .int x_isKept, .ref t_ta, .ref p_pl, .ref r_tr, .ref w_ro, .ref x_ash])), (x_ash, .inl (G 5, 4, .inr (.inr (.inr (.inr (fun k => some (x_sq k))))))), ((x_sq x1.toNatClampNeg), .inr (4, [.ref s_ait, .int s_lane, .int s_size])), (s_ait, .inl (G 1, 24, .inr (.inl s_items)))] s.heap.size = A at hD ⊢
  have hA : ∀ q : Nat, s.heap.size ≤ q → A q := fun q h => by rw [← hAe]; exact Or.inr h
  have hS : va_S A s.heap s.heap [] := va_S.rf
  have inX7 : ∀ w ∈ wsX70, w ∈ wsX7_item := by decide +kernel
  have fl53 := hts (.fieldLink RX7 53 "NewsCow" "sheets" "[LNewsCow$Sheet;") (by decide +kernel)
  have hl := lv_entry ([.ref x_xo, .int x1, .int x2, .int x3, .long x4] : List Value) (n := 7) (Nat.le_of_ble_eq_true rfl)
  rw [lg_entry_eq]
  generalize (lg_sl ([.ref x_xo, .int x1, .int x2, .int x3, .long x4] : List Value) ++ List.replicate (7 - (lg_sl ([.ref x_xo, .int x1, .int x2, .int x3, .long x4] : List Value)).length) Slot.unset).toArray = ls at hl ⊢
  have hl : lv_has ls 7 [(0, .ref x_xo), (1, .int x1), (2, .int x2), (3, .int x3), (4, .long x4)] := hl
  unfold wp_X7_item at hw
  refine lv_iload_n hx hb dX7_item_0 rfl (lv_at hl 1 rfl) ?_
  refine lv_iload_n hx hb dX7_item_1 rfl (lv_at hl 2 rfl) ?_
  refine vp_callSi (W.runS (As := [.int x1, .int x2]) (rest := []) ⟨hx, hb, hml, hown, hts⟩ (c_X7_isLaneOfSheet l D G x1 x2 _ hw) (va_cwS 2 hts gX7_item_X7_isLaneOfSheet rfl rfl rfl (by decide +kernel) ⟨(Nat.le_of_ble_eq_true rfl), (Nat.le_of_ble_eq_true rfl)⟩) (xR_ps (hP.sub [] rfl) hK) rfl rfl hl.1 rfl (lv_room (Nat.le_of_ble_eq_true rfl)) dX7_item_2 ⟨Nat.zero_le _, Nat.zero_le _⟩) (fun r1 hw => ?_)
  refine lv_if_ne (tgt := 10) hx hb dX7_item_5 (by decide) (fun c9 => ?_) (fun c9 => ?_)
  · replace hw := hw.1 c9
    refine lv_aload_n hx hb dX7_item_10 rfl (lv_at hl 0 rfl) ?_
    refine va_get (D := D) (ci := 7) (v := .ref x_ash) (C := RX7) (T := TX7) (N := 8) hx hb hts inX7 hown hK hP 0 rfl rfl 7 (by decide) fl53 (fun _ h9 => h9) rfl dX7_item_11 ?_
    refine lv_iload_n hx hb dX7_item_14 rfl (lv_at hl 1 rfl) ?_
    refine x_aldq (j := x1.toNatClampNeg) (b := (x_sq x1.toNatClampNeg)) hx hb hK hP 1 5 rfl rfl rfl rfl hw.1 dX7_item_15 ?_
    replace hw := hw.2
    refine lv_iload_n hx hb dX7_item_16 rfl (lv_at hl 2 rfl) ?_
    refine lv_iload_n hx hb dX7_item_17 rfl (lv_at hl 3 rfl) ?_
    refine lv_iconst (v := 1) hx hb dX7_item_18 (by decide) ?_
    refine vp_callSi (W.runV (As := [.int x2, .int x3, .int (1 : Int32)]) (rest := []) ⟨hx, hb, hml, hown, hts⟩ (c_X4_refusal l D G (x_sq x1.toNatClampNeg) s_ait s_lane s_size x2 x3 (1 : Int32) _ hw) (cwV 3 hts gX7_item_X4_refusal rfl rfl rfl (by decide +kernel) ⟨(Nat.le_of_ble_eq_true rfl), (Nat.le_of_ble_eq_true rfl)⟩) (xR_pv (hP.sub [2] rfl) hK (va_recv hK hP (ci := 4) (q0 := 2) rfl rfl)) rfl rfl hl.1 rfl (lv_room (Nat.le_of_ble_eq_true rfl)) dX7_item_19 ⟨Nat.zero_le _, Nat.zero_le _⟩) (fun r2 hw => ?_)
    refine lv_istore (lv' := [(6, .int r2), (0, .ref x_xo), (1, .int x1), (2, .int x2), (3, .int x3), (4, .long x4)]) hx hb dX7_item_22 hl (by decide) rfl (fun ls hl => ?_)
    refine lv_iload hx hb dX7_item_24 (lv_at hl 0 rfl) ?_
    refine lv_if_eq (tgt := 32) hx hb dX7_item_26 (by decide) (fun c9 => ?_) (fun c9 => ?_)
    · replace hw := hw.1 c9
      refine lv_aload_n hx hb dX7_item_32 rfl (lv_at hl 1 rfl) ?_
      refine va_get (D := D) (ci := 7) (v := .ref x_ash) (C := RX7) (T := TX7) (N := 8) hx hb hts inX7 hown hK hP 0 rfl rfl 7 (by decide) fl53 (fun _ h9 => h9) rfl dX7_item_33 ?_
      refine lv_iload_n hx hb dX7_item_36 rfl (lv_at hl 2 rfl) ?_
      refine x_aldq (j := x1.toNatClampNeg) (b := (x_sq x1.toNatClampNeg)) hx hb hK hP 1 5 rfl rfl rfl rfl hw.1 dX7_item_37 ?_
      replace hw := hw.2
      refine lv_iload_n hx hb dX7_item_38 rfl (lv_at hl 4 rfl) ?_
      refine lv_lload hx hb dX7_item_39 (lv_at hl 5 rfl) ?_
      refine x_cMv (wr := [(x_xo, .inr (7, [.ref da, .ref k_da, .int x_isKept, .ref t_ta, .ref p_pl, .ref r_tr, .ref w_ro, .ref x_ash])), (x_ash, .inl (G 5, 4, .inr (.inr (.inr (.inr (fun k => some (x_sq k)))))))]) (va_runV (As := [.int x3, .long x4]) (rest := []) ⟨hx, hb, hml, hown, hts⟩ (c_X4_put l D G _ (x_sq x1.toNatClampNeg) s_ait s_lane s_size s_items x3 x4 _ hw) (cwV 2 hts gX7_item_X4_put rfl rfl rfl (by decide +kernel) ⟨(Nat.le_of_ble_eq_true rfl), (Nat.le_of_ble_eq_true rfl)⟩) (xM_pv (hP.sub [2, 3] rfl) hK (hD.sub [2, 3] (by decide) rfl) (va_recv hK hP (ci := 4) (q0 := 2) rfl rfl)) rfl rfl hl.1 rfl (lv_room (Nat.le_of_ble_eq_true rfl)) dX7_item_41 ⟨Nat.zero_le _, Nat.zero_le _⟩) hP hD hS hA [2, 3] [0, 1] rfl rfl (by decide) (by decide) [0, 1, 2, 3] (fun u => [(x_xo, .inr (7, [.ref da, .ref k_da, .int x_isKept, .ref t_ta, .ref p_pl, .ref r_tr, .ref w_ro, .ref x_ash])), (x_ash, .inl (G 5, 4, .inr (.inr (.inr (.inr (fun k => some (x_sq k))))))), ((x_sq x1.toNatClampNeg), .inr (4, [.ref s_ait, .int s_lane, .int s_size])), (s_ait, .inl (G 1, 24, .inr (.inl u)))]) (by decide) (fun u => rfl) (fun u H locs hw hP hD hS => ?_)
      obtain ⟨s_items_3, rfl⟩ : ∃ z, z = u := ⟨_, rfl⟩
      try dsimp only at hw
      replace hP : va_P D vwCl [(x_xo, .inr (7, [.ref da, .ref k_da, .int x_isKept, .ref t_ta, .ref p_pl, .ref r_tr, .ref w_ro, .ref x_ash])), (x_ash, .inl (G 5, 4, .inr (.inr (.inr (.inr (fun k => some (x_sq k))))))), ((x_sq x1.toNatClampNeg), .inr (4, [.ref s_ait, .int s_lane, .int s_size])), (s_ait, .inl (G 1, 24, .inr (.inl s_items_3)))] H := hP
      replace hD : va_D A [(x_xo, .inr (7, [.ref da, .ref k_da, .int x_isKept, .ref t_ta, .ref p_pl, .ref r_tr, .ref w_ro, .ref x_ash])), (x_ash, .inl (G 5, 4, .inr (.inr (.inr (.inr (fun k => some (x_sq k))))))), ((x_sq x1.toNatClampNeg), .inr (4, [.ref s_ait, .int s_lane, .int s_size])), (s_ait, .inl (G 1, 24, .inr (.inl s_items_3)))] := hD
      refine lv_iconst (v := 1) hx hb dX7_item_44 (by decide) ?_
      exact W.iret hx hb hr (x_mi (u := s_items_3) hP hK hD hS hw) hS.2.2 dX7_item_45
    · replace hw := hw.2 c9
      refine lv_iload hx hb dX7_item_29 (lv_at hl 0 rfl) ?_
      exact W.iret hx hb hr (x_mi (u := s_items) hP hK hD hS hw) hS.2.2 dX7_item_31
  · replace hw := hw.2 c9
    refine lv_iconst (v := -1) hx hb dX7_item_8 (by decide) ?_
    exact W.iret hx hb hr (x_mi (u := s_items) hP hK hD hS hw) hS.2.2 dX7_item_9
set_option maxHeartbeats 4000000 in
set_option maxRecDepth 100000 in
theorem c_X7_copy (l : Launch) (D : va_G) (G : Nat → ClassId) (sz : Nat) (x_xo : Nat) (da : Nat) (k_da : Nat) (t_ta : Nat) (p_pl : Nat) (r_tr : Nat) (w_ro : Nat) (x_ash : Nat) (x_sq : Nat → Nat) (s_ait : Nat) (z_ait : Nat) (x_isKept : Int32) (s_lane : Int32) (s_size : Int32) (s_items : Nat → Int64) (z_lane : Int32) (z_size : Int32) (z_items : Nat → Int64) (x1 : Int32) (x2 : Int32) (x3 : Int32) (x4 : Int32) (x5 : Int32) (post : Int32 → (Nat → Int64) → Prop) (hw : wp_X7_copy s_lane s_size s_items z_lane z_size z_items x1 x2 x3 x4 x5 post) : Met l yX7_copy wsX7_copy ({ frames := 1, cells := 0, slots := 0, locals := 26 } : Room) (va_Pc [.ref x_xo, .int x1, .int x2, .int x3, .int x4, .int x5] (xM D G sz [(x_xo, .inr (7, [.ref da, .ref k_da, .int x_isKept, .ref t_ta, .ref p_pl, .ref r_tr, .ref w_ro, .ref x_ash])), (x_ash, .inl (G 5, 4, .inr (.inr (.inr (.inr (fun k => some (x_sq k))))))), ((x_sq x1.toNatClampNeg), .inr (4, [.ref s_ait, .int s_lane, .int s_size])), (s_ait, .inl (G 1, 24, .inr (.inl s_items))), ((x_sq x3.toNatClampNeg), .inr (4, [.ref z_ait, .int z_lane, .int z_size])), (z_ait, .inl (G 1, 24, .inr (.inl z_items)))])) (va_Qi (fun r (u : (Nat → Int64)) => post r u) (fun u t => xE D G (va_A [(x_xo, .inr (7, [.ref da, .ref k_da, .int x_isKept, .ref t_ta, .ref p_pl, .ref r_tr, .ref w_ro, .ref x_ash])), (x_ash, .inl (G 5, 4, .inr (.inr (.inr (.inr (fun k => some (x_sq k))))))), ((x_sq x1.toNatClampNeg), .inr (4, [.ref s_ait, .int s_lane, .int s_size])), (s_ait, .inl (G 1, 24, .inr (.inl s_items))), ((x_sq x3.toNatClampNeg), .inr (4, [.ref z_ait, .int z_lane, .int z_size])), (z_ait, .inl (G 1, 24, .inr (.inl z_items)))] sz) [(x_xo, .inr (7, [.ref da, .ref k_da, .int x_isKept, .ref t_ta, .ref p_pl, .ref r_tr, .ref w_ro, .ref x_ash])), (x_ash, .inl (G 5, 4, .inr (.inr (.inr (.inr (fun k => some (x_sq k))))))), ((x_sq x1.toNatClampNeg), .inr (4, [.ref s_ait, .int s_lane, .int s_size])), (s_ait, .inl (G 1, 24, .inr (.inl s_items))), ((x_sq x3.toNatClampNeg), .inr (4, [.ref z_ait, .int z_lane, .int z_size])), (z_ait, .inl (G 1, 24, .inr (.inl u)))] t) (va_A [(x_xo, .inr (7, [.ref da, .ref k_da, .int x_isKept, .ref t_ta, .ref p_pl, .ref r_tr, .ref w_ro, .ref x_ash])), (x_ash, .inl (G 5, 4, .inr (.inr (.inr (.inr (fun k => some (x_sq k))))))), ((x_sq x1.toNatClampNeg), .inr (4, [.ref s_ait, .int s_lane, .int s_size])), (s_ait, .inl (G 1, 24, .inr (.inl s_items))), ((x_sq x3.toNatClampNeg), .inr (4, [.ref z_ait, .int z_lane, .int z_size])), (z_ait, .inl (G 1, 24, .inr (.inl z_items)))] sz)) 0 0 (va_A [(x_xo, .inr (7, [.ref da, .ref k_da, .int x_isKept, .ref t_ta, .ref p_pl, .ref r_tr, .ref w_ro, .ref x_ash])), (x_ash, .inl (G 5, 4, .inr (.inr (.inr (.inr (fun k => some (x_sq k))))))), ((x_sq x1.toNatClampNeg), .inr (4, [.ref s_ait, .int s_lane, .int s_size])), (s_ait, .inl (G 1, 24, .inr (.inl s_items))), ((x_sq x3.toNatClampNeg), .inr (4, [.ref z_ait, .int z_lane, .int z_size])), (z_ait, .inl (G 1, 24, .inr (.inl z_items)))] sz) := by
  refine Met.ofW (cc := cX7_copy) (maxL := 8) (ret := (some .int)) (by decide) rfl ?_
  intro p e s m args below meth c s₁ B hml hv
  obtain ⟨rfl, hsz, hP, hK, hD0⟩ := hv
  have hx := B.exec
  have hb := B.bytes
  have hr := B.returns
  have hts := atoms_spec (ws := wsX7_copy) B.pre
  have hown : s.vm.findClass RX7 = some m.cls := findClass_of_methodNamed B.named
  have hlocks := B.notSynchronized
  subst hsz
  have hD := hD0.self (sz := s.heap.size)
  generalize hAe : va_A [(x_xo, .inr (7, [.ref da, .ref k_da, .int x_isKept, .ref t_ta, .ref p_pl, .ref r_tr, .ref w_ro, .ref x_ash])), (x_ash, .inl (G 5, 4, .inr (.inr (.inr (.inr (fun k => some (x_sq k))))))), ((x_sq x1.toNatClampNeg), .inr (4, [.ref s_ait, .int s_lane, .int s_size])), (s_ait, .inl (G 1, 24, .inr (.inl s_items))), ((x_sq x3.toNatClampNeg), .inr (4, [.ref z_ait, .int z_lane, .int z_size])), (z_ait, .inl (G 1, 24, .inr (.inl z_items)))] s.heap.size = A at hD ⊢
  have hA : ∀ q : Nat, s.heap.size ≤ q → A q := fun q h => by rw [← hAe]; exact Or.inr h
  have hS : va_S A s.heap s.heap [] := va_S.rf
  have inX4 : ∀ w ∈ wsX40, w ∈ wsX7_copy := by decide +kernel
  have inX7 : ∀ w ∈ wsX70, w ∈ wsX7_copy := by decide +kernel
  have fl53 := hts (.fieldLink RX7 53 "NewsCow" "sheets" "[LNewsCow$Sheet;") (by decide +kernel)
  have fl257 := hts (.fieldLink RX7 257 "NewsCow$Sheet" "size" "I") (by decide +kernel)
  have fl258 := hts (.fieldLink RX7 258 "NewsCow$Sheet" "lane" "I") (by decide +kernel)
  have fl264 := hts (.fieldLink RX7 264 "NewsCow$Sheet" "items" "[J") (by decide +kernel)
  have hl := lv_entry ([.ref x_xo, .int x1, .int x2, .int x3, .int x4, .int x5] : List Value) (n := 8) (Nat.le_of_ble_eq_true rfl)
  rw [lg_entry_eq]
  generalize (lg_sl ([.ref x_xo, .int x1, .int x2, .int x3, .int x4, .int x5] : List Value) ++ List.replicate (8 - (lg_sl ([.ref x_xo, .int x1, .int x2, .int x3, .int x4, .int x5] : List Value)).length) Slot.unset).toArray = ls at hl ⊢
  have hl : lv_has ls 8 [(0, .ref x_xo), (1, .int x1), (2, .int x2), (3, .int x3), (4, .int x4), (5, .int x5)] := hl
  unfold wp_X7_copy at hw
  refine lv_iload_n hx hb dX7_copy_0 rfl (lv_at hl 1 rfl) ?_
  refine vp_callSi (W.runS (As := [.int x1]) (rest := []) ⟨hx, hb, hml, hown, hts⟩ (c_X7_isSheet l D G x1 _ hw) (va_cwS 1 hts gX7_copy_X7_isSheet rfl rfl rfl (by decide +kernel) ⟨(Nat.le_of_ble_eq_true rfl), (Nat.le_of_ble_eq_true rfl)⟩) (xR_ps (hP.sub [] rfl) hK) rfl rfl hl.1 rfl (lv_room (Nat.le_of_ble_eq_true rfl)) dX7_copy_1 ⟨Nat.zero_le _, Nat.zero_le _⟩) (fun r1 hw => ?_)
  refine lv_if_eq (tgt := 14) hx hb dX7_copy_4 (by decide) (fun c9 => ?_) (fun c9 => ?_)
  · replace hw := hw.1 c9
    refine lv_iconst (v := -1) hx hb dX7_copy_14 (by decide) ?_
    exact W.iret hx hb hr (x_mi (u := z_items) hP hK hD hS hw) hS.2.2 dX7_copy_15
  · replace hw := hw.2 c9
    refine lv_iload_n hx hb dX7_copy_7 rfl (lv_at hl 3 rfl) ?_
    refine vp_callSi (W.runS (As := [.int x3]) (rest := []) ⟨hx, hb, hml, hown, hts⟩ (c_X7_isSheet l D G x3 _ hw) (va_cwS 1 hts gX7_copy_X7_isSheet rfl rfl rfl (by decide +kernel) ⟨(Nat.le_of_ble_eq_true rfl), (Nat.le_of_ble_eq_true rfl)⟩) (xR_ps (hP.sub [] rfl) hK) rfl rfl hl.1 rfl (lv_room (Nat.le_of_ble_eq_true rfl)) dX7_copy_8 ⟨Nat.zero_le _, Nat.zero_le _⟩) (fun r2 hw => ?_)
    refine lv_if_ne (tgt := 16) hx hb dX7_copy_11 (by decide) (fun c9 => ?_) (fun c9 => ?_)
    · replace hw := hw.1 c9
      refine lv_aload_n hx hb dX7_copy_16 rfl (lv_at hl 0 rfl) ?_
      refine va_get (D := D) (ci := 7) (v := .ref x_ash) (C := RX7) (T := TX7) (N := 8) hx hb hts inX7 hown hK hP 0 rfl rfl 7 (by decide) fl53 (fun _ h9 => h9) rfl dX7_copy_17 ?_
      refine lv_iload_n hx hb dX7_copy_20 rfl (lv_at hl 1 rfl) ?_
      refine x_aldq (j := x1.toNatClampNeg) (b := (x_sq x1.toNatClampNeg)) hx hb hK hP 1 5 rfl rfl rfl rfl hw.1 dX7_copy_21 ?_
      replace hw := hw.2
      refine lv_astore (lv' := [(6, .ref (x_sq x1.toNatClampNeg)), (0, .ref x_xo), (1, .int x1), (2, .int x2), (3, .int x3), (4, .int x4), (5, .int x5)]) hx hb dX7_copy_22 hl (by decide) rfl (fun ls hl => ?_)
      refine lv_aload_n hx hb dX7_copy_24 rfl (lv_at hl 1 rfl) ?_
      refine va_get (D := D) (ci := 7) (v := .ref x_ash) (C := RX7) (T := TX7) (N := 8) hx hb hts inX7 hown hK hP 0 rfl rfl 7 (by decide) fl53 (fun _ h9 => h9) rfl dX7_copy_25 ?_
      refine lv_iload_n hx hb dX7_copy_28 rfl (lv_at hl 4 rfl) ?_
      refine x_aldq (j := x3.toNatClampNeg) (b := (x_sq x3.toNatClampNeg)) hx hb hK hP 1 5 rfl rfl rfl rfl hw.1 dX7_copy_29 ?_
      replace hw := hw.2
      refine lv_astore (lv' := [(7, .ref (x_sq x3.toNatClampNeg)), (6, .ref (x_sq x1.toNatClampNeg)), (0, .ref x_xo), (1, .int x1), (2, .int x2), (3, .int x3), (4, .int x4), (5, .int x5)]) hx hb dX7_copy_30 hl (by decide) rfl (fun ls hl => ?_)
      refine lv_aload hx hb dX7_copy_32 (lv_at hl 1 rfl) ?_
      refine va_get (D := D) (ci := 4) (v := .int s_size) (C := RX4) (T := TX4) (N := 3) hx hb hts inX4 hown hK hP 2 rfl rfl 2 (by decide) fl257 (fun _ h9 => h9) rfl dX7_copy_34 ?_
      refine lv_iconst (v := -1) hx hb dX7_copy_37 (by decide) ?_
      refine lv_icmp_eq (tgt := 50) hx hb dX7_copy_38 (by decide) (fun c9 => ?_) (fun c9 => ?_)
      · replace hw := hw.1 c9
        refine lv_bipush (v := -11) hx hb dX7_copy_50 (by decide) ?_
        exact W.iret hx hb hr (x_mi (u := z_items) hP hK hD hS hw) hS.2.2 dX7_copy_52
      · replace hw := hw.2 c9
        refine lv_aload hx hb dX7_copy_41 (lv_at hl 0 rfl) ?_
        refine va_get (D := D) (ci := 4) (v := .int z_size) (C := RX4) (T := TX4) (N := 3) hx hb hts inX4 hown hK hP 4 rfl rfl 2 (by decide) fl257 (fun _ h9 => h9) rfl dX7_copy_43 ?_
        refine lv_iconst (v := -1) hx hb dX7_copy_46 (by decide) ?_
        refine lv_icmp_ne (tgt := 53) hx hb dX7_copy_47 (by decide) (fun c9 => ?_) (fun c9 => ?_)
        · replace hw := hw.1 c9
          refine lv_aload hx hb dX7_copy_53 (lv_at hl 1 rfl) ?_
          refine va_get (D := D) (ci := 4) (v := .int s_lane) (C := RX4) (T := TX4) (N := 3) hx hb hts inX4 hown hK hP 2 rfl rfl 1 (by decide) fl258 (fun _ h9 => h9) rfl dX7_copy_55 ?_
          refine lv_aload hx hb dX7_copy_58 (lv_at hl 0 rfl) ?_
          refine va_get (D := D) (ci := 4) (v := .int z_lane) (C := RX4) (T := TX4) (N := 3) hx hb hts inX4 hown hK hP 4 rfl rfl 1 (by decide) fl258 (fun _ h9 => h9) rfl dX7_copy_60 ?_
          refine lv_icmp_eq (tgt := 69) hx hb dX7_copy_63 (by decide) (fun c9 => ?_) (fun c9 => ?_)
          · replace hw := hw.1 c9
            refine lv_aload hx hb dX7_copy_69 (lv_at hl 1 rfl) ?_
            refine lv_iload_n hx hb dX7_copy_71 rfl (lv_at hl 4 rfl) ?_
            refine lv_iload hx hb dX7_copy_72 (lv_at hl 7 rfl) ?_
            refine vp_callSi (W.runV (As := [.int x2, .int x5]) (rest := []) ⟨hx, hb, hml, hown, hts⟩ (c_X4_holds l D G (x_sq x1.toNatClampNeg) s_ait s_lane s_size x2 x5 _ hw) (cwV 2 hts gX7_copy_X4_holds rfl rfl rfl (by decide +kernel) ⟨(Nat.le_of_ble_eq_true rfl), (Nat.le_of_ble_eq_true rfl)⟩) (xR_pv (hP.sub [2] rfl) hK (va_recv hK hP (ci := 4) (q0 := 2) rfl rfl)) rfl rfl hl.1 rfl (lv_room (Nat.le_of_ble_eq_true rfl)) dX7_copy_74 ⟨Nat.zero_le _, Nat.zero_le _⟩) (fun r3 hw => ?_)
            refine lv_if_eq (tgt := 92) hx hb dX7_copy_77 (by decide) (fun c9 => ?_) (fun c9 => ?_)
            · replace hw := hw.1 c9
              refine lv_bipush (v := -13) hx hb dX7_copy_92 (by decide) ?_
              exact W.iret hx hb hr (x_mi (u := z_items) hP hK hD hS hw) hS.2.2 dX7_copy_94
            · replace hw := hw.2 c9
              refine lv_aload hx hb dX7_copy_80 (lv_at hl 0 rfl) ?_
              refine lv_iload hx hb dX7_copy_82 (lv_at hl 6 rfl) ?_
              refine lv_iload hx hb dX7_copy_84 (lv_at hl 7 rfl) ?_
              refine vp_callSi (W.runV (As := [.int x4, .int x5]) (rest := []) ⟨hx, hb, hml, hown, hts⟩ (c_X4_holds l D G (x_sq x3.toNatClampNeg) z_ait z_lane z_size x4 x5 _ hw) (cwV 2 hts gX7_copy_X4_holds rfl rfl rfl (by decide +kernel) ⟨(Nat.le_of_ble_eq_true rfl), (Nat.le_of_ble_eq_true rfl)⟩) (xR_pv (hP.sub [4] rfl) hK (va_recv hK hP (ci := 4) (q0 := 4) rfl rfl)) rfl rfl hl.1 rfl (lv_room (Nat.le_of_ble_eq_true rfl)) dX7_copy_86 ⟨Nat.zero_le _, Nat.zero_le _⟩) (fun r4 hw => ?_)
              refine lv_if_ne (tgt := 95) hx hb dX7_copy_89 (by decide) (fun c9 => ?_) (fun c9 => ?_)
              · replace hw := hw.1 c9
                refine lv_aload hx hb dX7_copy_95 (lv_at hl 1 rfl) ?_
                refine va_get (D := D) (ci := 4) (v := .ref s_ait) (C := RX4) (T := TX4) (N := 3) hx hb hts inX4 hown hK hP 2 rfl rfl 0 (by decide) fl264 (fun _ h9 => h9) rfl dX7_copy_97 ?_
                refine lv_iload_n hx hb dX7_copy_100 rfl (lv_at hl 4 rfl) ?_
                refine lv_aload hx hb dX7_copy_101 (lv_at hl 0 rfl) ?_
                refine va_get (D := D) (ci := 4) (v := .ref z_ait) (C := RX4) (T := TX4) (N := 3) hx hb hts inX4 hown hK hP 4 rfl rfl 0 (by decide) fl264 (fun _ h9 => h9) rfl dX7_copy_103 ?_
                refine lv_iload hx hb dX7_copy_106 (lv_at hl 6 rfl) ?_
                refine lv_iload hx hb dX7_copy_108 (lv_at hl 7 rfl) ?_
                have hcp := hw.1
                replace hw := hw.2
                refine va_copyl (sp := x2) (dp := x4) (n := x5) hx hb (hml.trans hl.1.symm) hown (hts (.methodLink RX7 268 arraycopyName) (by decide +kernel)) (hts (.native arraycopyName) (by decide +kernel)) (hts (.static arraycopyName) (by decide +kernel)) (hts (.initialized "java/lang/System") (by decide +kernel)) hK hP hD hS 3 5 1 1 rfl rfl rfl rfl rfl hcp.1 hcp.2.1 hcp.2.2.1 hcp.2.2.2.1 hcp.2.2.2.2 (fun _ _ => rfl) (Nat.le_of_ble_eq_true rfl) (Nat.le_of_ble_eq_true rfl) dX7_copy_110 (fun H locs hP hD hS => ?_)
                replace hP : va_P D vwCl [(x_xo, .inr (7, [.ref da, .ref k_da, .int x_isKept, .ref t_ta, .ref p_pl, .ref r_tr, .ref w_ro, .ref x_ash])), (x_ash, .inl (G 5, 4, .inr (.inr (.inr (.inr (fun k => some (x_sq k))))))), ((x_sq x1.toNatClampNeg), .inr (4, [.ref s_ait, .int s_lane, .int s_size])), (s_ait, .inl (G 1, 24, .inr (.inl s_items))), ((x_sq x3.toNatClampNeg), .inr (4, [.ref z_ait, .int z_lane, .int z_size])), (z_ait, .inl (G 1, 24, .inr (.inl (va_cpy s_items z_items x2.toNatClampNeg x4.toNatClampNeg x5.toNatClampNeg))))] H := hP
                replace hD : va_D A [(x_xo, .inr (7, [.ref da, .ref k_da, .int x_isKept, .ref t_ta, .ref p_pl, .ref r_tr, .ref w_ro, .ref x_ash])), (x_ash, .inl (G 5, 4, .inr (.inr (.inr (.inr (fun k => some (x_sq k))))))), ((x_sq x1.toNatClampNeg), .inr (4, [.ref s_ait, .int s_lane, .int s_size])), (s_ait, .inl (G 1, 24, .inr (.inl s_items))), ((x_sq x3.toNatClampNeg), .inr (4, [.ref z_ait, .int z_lane, .int z_size])), (z_ait, .inl (G 1, 24, .inr (.inl (va_cpy s_items z_items x2.toNatClampNeg x4.toNatClampNeg x5.toNatClampNeg))))] := hD
                refine lv_iload hx hb dX7_copy_113 (lv_at hl 7 rfl) ?_
                exact W.iret hx hb hr (x_mi (u := (va_cpy s_items z_items x2.toNatClampNeg x4.toNatClampNeg x5.toNatClampNeg)) hP hK hD hS hw) hS.2.2 dX7_copy_115
              · replace hw := hw.2 c9
                refine lv_bipush (v := -13) hx hb dX7_copy_92 (by decide) ?_
                exact W.iret hx hb hr (x_mi (u := z_items) hP hK hD hS hw) hS.2.2 dX7_copy_94
          · replace hw := hw.2 c9
            refine lv_bipush (v := -12) hx hb dX7_copy_66 (by decide) ?_
            exact W.iret hx hb hr (x_mi (u := z_items) hP hK hD hS hw) hS.2.2 dX7_copy_68
        · replace hw := hw.2 c9
          refine lv_bipush (v := -11) hx hb dX7_copy_50 (by decide) ?_
          exact W.iret hx hb hr (x_mi (u := z_items) hP hK hD hS hw) hS.2.2 dX7_copy_52
    · replace hw := hw.2 c9
      refine lv_iconst (v := -1) hx hb dX7_copy_14 (by decide) ?_
      exact W.iret hx hb hr (x_mi (u := z_items) hP hK hD hS hw) hS.2.2 dX7_copy_15
set_option maxHeartbeats 4000000 in
set_option maxRecDepth 100000 in
theorem c_X7_copyS (l : Launch) (D : va_G) (G : Nat → ClassId) (sz : Nat) (x_xo : Nat) (da : Nat) (k_da : Nat) (t_ta : Nat) (p_pl : Nat) (r_tr : Nat) (w_ro : Nat) (x_ash : Nat) (x_sq : Nat → Nat) (s_ait : Nat) (x_isKept : Int32) (s_lane : Int32) (s_size : Int32) (s_items : Nat → Int64) (x1 : Int32) (x2 : Int32) (x4 : Int32) (x5 : Int32) (post : Int32 → (Nat → Int64) → Prop) (hw : wp_X7_copyS s_lane s_size s_items x1 x2 x4 x5 post) : Met l yX7_copy wsX7_copy ({ frames := 1, cells := 0, slots := 0, locals := 26 } : Room) (va_Pc [.ref x_xo, .int x1, .int x2, .int x1, .int x4, .int x5] (xM D G sz [(x_xo, .inr (7, [.ref da, .ref k_da, .int x_isKept, .ref t_ta, .ref p_pl, .ref r_tr, .ref w_ro, .ref x_ash])), (x_ash, .inl (G 5, 4, .inr (.inr (.inr (.inr (fun k => some (x_sq k))))))), ((x_sq x1.toNatClampNeg), .inr (4, [.ref s_ait, .int s_lane, .int s_size])), (s_ait, .inl (G 1, 24, .inr (.inl s_items)))])) (va_Qi (fun r (u : (Nat → Int64)) => post r u) (fun u t => xE D G (va_A [(x_xo, .inr (7, [.ref da, .ref k_da, .int x_isKept, .ref t_ta, .ref p_pl, .ref r_tr, .ref w_ro, .ref x_ash])), (x_ash, .inl (G 5, 4, .inr (.inr (.inr (.inr (fun k => some (x_sq k))))))), ((x_sq x1.toNatClampNeg), .inr (4, [.ref s_ait, .int s_lane, .int s_size])), (s_ait, .inl (G 1, 24, .inr (.inl s_items)))] sz) [(x_xo, .inr (7, [.ref da, .ref k_da, .int x_isKept, .ref t_ta, .ref p_pl, .ref r_tr, .ref w_ro, .ref x_ash])), (x_ash, .inl (G 5, 4, .inr (.inr (.inr (.inr (fun k => some (x_sq k))))))), ((x_sq x1.toNatClampNeg), .inr (4, [.ref s_ait, .int s_lane, .int s_size])), (s_ait, .inl (G 1, 24, .inr (.inl u)))] t) (va_A [(x_xo, .inr (7, [.ref da, .ref k_da, .int x_isKept, .ref t_ta, .ref p_pl, .ref r_tr, .ref w_ro, .ref x_ash])), (x_ash, .inl (G 5, 4, .inr (.inr (.inr (.inr (fun k => some (x_sq k))))))), ((x_sq x1.toNatClampNeg), .inr (4, [.ref s_ait, .int s_lane, .int s_size])), (s_ait, .inl (G 1, 24, .inr (.inl s_items)))] sz)) 0 0 (va_A [(x_xo, .inr (7, [.ref da, .ref k_da, .int x_isKept, .ref t_ta, .ref p_pl, .ref r_tr, .ref w_ro, .ref x_ash])), (x_ash, .inl (G 5, 4, .inr (.inr (.inr (.inr (fun k => some (x_sq k))))))), ((x_sq x1.toNatClampNeg), .inr (4, [.ref s_ait, .int s_lane, .int s_size])), (s_ait, .inl (G 1, 24, .inr (.inl s_items)))] sz) := by
  refine Met.ofW (cc := cX7_copy) (maxL := 8) (ret := (some .int)) (by decide) rfl ?_
  intro p e s m args below meth c s₁ B hml hv
  obtain ⟨rfl, hsz, hP, hK, hD0⟩ := hv
  have hx := B.exec
  have hb := B.bytes
  have hr := B.returns
  have hts := atoms_spec (ws := wsX7_copy) B.pre
  have hown : s.vm.findClass RX7 = some m.cls := findClass_of_methodNamed B.named
  have hlocks := B.notSynchronized
  subst hsz
  have hD := hD0.self (sz := s.heap.size)
  generalize hAe : va_A [(x_xo, .inr (7, [.ref da, .ref k_da, .int x_isKept, .ref t_ta, .ref p_pl, .ref r_tr, .ref w_ro, .ref x_ash])), (x_ash, .inl (G 5, 4, .inr (.inr (.inr (.inr (fun k => some (x_sq k))))))), ((x_sq x1.toNatClampNeg), .inr (4, [.ref s_ait, .int s_lane, .int s_size])), (s_ait, .inl (G 1, 24, .inr (.inl s_items)))] s.heap.size = A at hD ⊢
  have hA : ∀ q : Nat, s.heap.size ≤ q → A q := fun q h => by rw [← hAe]; exact Or.inr h
  have hS : va_S A s.heap s.heap [] := va_S.rf
  have inX4 : ∀ w ∈ wsX40, w ∈ wsX7_copy := by decide +kernel
  have inX7 : ∀ w ∈ wsX70, w ∈ wsX7_copy := by decide +kernel
  have fl53 := hts (.fieldLink RX7 53 "NewsCow" "sheets" "[LNewsCow$Sheet;") (by decide +kernel)
  have fl257 := hts (.fieldLink RX7 257 "NewsCow$Sheet" "size" "I") (by decide +kernel)
  have fl258 := hts (.fieldLink RX7 258 "NewsCow$Sheet" "lane" "I") (by decide +kernel)
  have fl264 := hts (.fieldLink RX7 264 "NewsCow$Sheet" "items" "[J") (by decide +kernel)
  have hl := lv_entry ([.ref x_xo, .int x1, .int x2, .int x1, .int x4, .int x5] : List Value) (n := 8) (Nat.le_of_ble_eq_true rfl)
  rw [lg_entry_eq]
  generalize (lg_sl ([.ref x_xo, .int x1, .int x2, .int x1, .int x4, .int x5] : List Value) ++ List.replicate (8 - (lg_sl ([.ref x_xo, .int x1, .int x2, .int x1, .int x4, .int x5] : List Value)).length) Slot.unset).toArray = ls at hl ⊢
  have hl : lv_has ls 8 [(0, .ref x_xo), (1, .int x1), (2, .int x2), (3, .int x1), (4, .int x4), (5, .int x5)] := hl
  unfold wp_X7_copyS at hw
  refine lv_iload_n hx hb dX7_copy_0 rfl (lv_at hl 1 rfl) ?_
  refine vp_callSi (W.runS (As := [.int x1]) (rest := []) ⟨hx, hb, hml, hown, hts⟩ (c_X7_isSheet l D G x1 _ hw) (va_cwS 1 hts gX7_copy_X7_isSheet rfl rfl rfl (by decide +kernel) ⟨(Nat.le_of_ble_eq_true rfl), (Nat.le_of_ble_eq_true rfl)⟩) (xR_ps (hP.sub [] rfl) hK) rfl rfl hl.1 rfl (lv_room (Nat.le_of_ble_eq_true rfl)) dX7_copy_1 ⟨Nat.zero_le _, Nat.zero_le _⟩) (fun r1 hw => ?_)
  refine lv_if_eq (tgt := 14) hx hb dX7_copy_4 (by decide) (fun c9 => ?_) (fun c9 => ?_)
  · replace hw := hw.1 c9
    refine lv_iconst (v := -1) hx hb dX7_copy_14 (by decide) ?_
    exact W.iret hx hb hr (x_mi (u := s_items) hP hK hD hS hw) hS.2.2 dX7_copy_15
  · replace hw := hw.2 c9
    refine lv_iload_n hx hb dX7_copy_7 rfl (lv_at hl 3 rfl) ?_
    refine vp_callSi (W.runS (As := [.int x1]) (rest := []) ⟨hx, hb, hml, hown, hts⟩ (c_X7_isSheet l D G x1 _ hw) (va_cwS 1 hts gX7_copy_X7_isSheet rfl rfl rfl (by decide +kernel) ⟨(Nat.le_of_ble_eq_true rfl), (Nat.le_of_ble_eq_true rfl)⟩) (xR_ps (hP.sub [] rfl) hK) rfl rfl hl.1 rfl (lv_room (Nat.le_of_ble_eq_true rfl)) dX7_copy_8 ⟨Nat.zero_le _, Nat.zero_le _⟩) (fun r2 hw => ?_)
    refine lv_if_ne (tgt := 16) hx hb dX7_copy_11 (by decide) (fun c9 => ?_) (fun c9 => ?_)
    · replace hw := hw.1 c9
      refine lv_aload_n hx hb dX7_copy_16 rfl (lv_at hl 0 rfl) ?_
      refine va_get (D := D) (ci := 7) (v := .ref x_ash) (C := RX7) (T := TX7) (N := 8) hx hb hts inX7 hown hK hP 0 rfl rfl 7 (by decide) fl53 (fun _ h9 => h9) rfl dX7_copy_17 ?_
      refine lv_iload_n hx hb dX7_copy_20 rfl (lv_at hl 1 rfl) ?_
      refine x_aldq (j := x1.toNatClampNeg) (b := (x_sq x1.toNatClampNeg)) hx hb hK hP 1 5 rfl rfl rfl rfl hw.1 dX7_copy_21 ?_
      replace hw := hw.2
      refine lv_astore (lv' := [(6, .ref (x_sq x1.toNatClampNeg)), (0, .ref x_xo), (1, .int x1), (2, .int x2), (3, .int x1), (4, .int x4), (5, .int x5)]) hx hb dX7_copy_22 hl (by decide) rfl (fun ls hl => ?_)
      refine lv_aload_n hx hb dX7_copy_24 rfl (lv_at hl 1 rfl) ?_
      refine va_get (D := D) (ci := 7) (v := .ref x_ash) (C := RX7) (T := TX7) (N := 8) hx hb hts inX7 hown hK hP 0 rfl rfl 7 (by decide) fl53 (fun _ h9 => h9) rfl dX7_copy_25 ?_
      refine lv_iload_n hx hb dX7_copy_28 rfl (lv_at hl 4 rfl) ?_
      refine x_aldq (j := x1.toNatClampNeg) (b := (x_sq x1.toNatClampNeg)) hx hb hK hP 1 5 rfl rfl rfl rfl hw.1 dX7_copy_29 ?_
      replace hw := hw.2
      refine lv_astore (lv' := [(7, .ref (x_sq x1.toNatClampNeg)), (6, .ref (x_sq x1.toNatClampNeg)), (0, .ref x_xo), (1, .int x1), (2, .int x2), (3, .int x1), (4, .int x4), (5, .int x5)]) hx hb dX7_copy_30 hl (by decide) rfl (fun ls hl => ?_)
      refine lv_aload hx hb dX7_copy_32 (lv_at hl 1 rfl) ?_
      refine va_get (D := D) (ci := 4) (v := .int s_size) (C := RX4) (T := TX4) (N := 3) hx hb hts inX4 hown hK hP 2 rfl rfl 2 (by decide) fl257 (fun _ h9 => h9) rfl dX7_copy_34 ?_
      refine lv_iconst (v := -1) hx hb dX7_copy_37 (by decide) ?_
      refine lv_icmp_eq (tgt := 50) hx hb dX7_copy_38 (by decide) (fun c9 => ?_) (fun c9 => ?_)
      · replace hw := hw.1 c9
        refine lv_bipush (v := -11) hx hb dX7_copy_50 (by decide) ?_
        exact W.iret hx hb hr (x_mi (u := s_items) hP hK hD hS hw) hS.2.2 dX7_copy_52
      · replace hw := hw.2 c9
        refine lv_aload hx hb dX7_copy_41 (lv_at hl 0 rfl) ?_
        refine va_get (D := D) (ci := 4) (v := .int s_size) (C := RX4) (T := TX4) (N := 3) hx hb hts inX4 hown hK hP 2 rfl rfl 2 (by decide) fl257 (fun _ h9 => h9) rfl dX7_copy_43 ?_
        refine lv_iconst (v := -1) hx hb dX7_copy_46 (by decide) ?_
        refine lv_icmp_ne (tgt := 53) hx hb dX7_copy_47 (by decide) (fun c9 => ?_) (fun c9 => ?_)
        · replace hw := hw.1 c9
          refine lv_aload hx hb dX7_copy_53 (lv_at hl 1 rfl) ?_
          refine va_get (D := D) (ci := 4) (v := .int s_lane) (C := RX4) (T := TX4) (N := 3) hx hb hts inX4 hown hK hP 2 rfl rfl 1 (by decide) fl258 (fun _ h9 => h9) rfl dX7_copy_55 ?_
          refine lv_aload hx hb dX7_copy_58 (lv_at hl 0 rfl) ?_
          refine va_get (D := D) (ci := 4) (v := .int s_lane) (C := RX4) (T := TX4) (N := 3) hx hb hts inX4 hown hK hP 2 rfl rfl 1 (by decide) fl258 (fun _ h9 => h9) rfl dX7_copy_60 ?_
          refine lv_icmp_eq (tgt := 69) hx hb dX7_copy_63 (by decide) (fun c9 => ?_) (fun c9 => ?_)
          · replace hw := hw.1 c9
            refine lv_aload hx hb dX7_copy_69 (lv_at hl 1 rfl) ?_
            refine lv_iload_n hx hb dX7_copy_71 rfl (lv_at hl 4 rfl) ?_
            refine lv_iload hx hb dX7_copy_72 (lv_at hl 7 rfl) ?_
            refine vp_callSi (W.runV (As := [.int x2, .int x5]) (rest := []) ⟨hx, hb, hml, hown, hts⟩ (c_X4_holds l D G (x_sq x1.toNatClampNeg) s_ait s_lane s_size x2 x5 _ hw) (cwV 2 hts gX7_copy_X4_holds rfl rfl rfl (by decide +kernel) ⟨(Nat.le_of_ble_eq_true rfl), (Nat.le_of_ble_eq_true rfl)⟩) (xR_pv (hP.sub [2] rfl) hK (va_recv hK hP (ci := 4) (q0 := 2) rfl rfl)) rfl rfl hl.1 rfl (lv_room (Nat.le_of_ble_eq_true rfl)) dX7_copy_74 ⟨Nat.zero_le _, Nat.zero_le _⟩) (fun r3 hw => ?_)
            refine lv_if_eq (tgt := 92) hx hb dX7_copy_77 (by decide) (fun c9 => ?_) (fun c9 => ?_)
            · replace hw := hw.1 c9
              refine lv_bipush (v := -13) hx hb dX7_copy_92 (by decide) ?_
              exact W.iret hx hb hr (x_mi (u := s_items) hP hK hD hS hw) hS.2.2 dX7_copy_94
            · replace hw := hw.2 c9
              refine lv_aload hx hb dX7_copy_80 (lv_at hl 0 rfl) ?_
              refine lv_iload hx hb dX7_copy_82 (lv_at hl 6 rfl) ?_
              refine lv_iload hx hb dX7_copy_84 (lv_at hl 7 rfl) ?_
              refine vp_callSi (W.runV (As := [.int x4, .int x5]) (rest := []) ⟨hx, hb, hml, hown, hts⟩ (c_X4_holds l D G (x_sq x1.toNatClampNeg) s_ait s_lane s_size x4 x5 _ hw) (cwV 2 hts gX7_copy_X4_holds rfl rfl rfl (by decide +kernel) ⟨(Nat.le_of_ble_eq_true rfl), (Nat.le_of_ble_eq_true rfl)⟩) (xR_pv (hP.sub [2] rfl) hK (va_recv hK hP (ci := 4) (q0 := 2) rfl rfl)) rfl rfl hl.1 rfl (lv_room (Nat.le_of_ble_eq_true rfl)) dX7_copy_86 ⟨Nat.zero_le _, Nat.zero_le _⟩) (fun r4 hw => ?_)
              refine lv_if_ne (tgt := 95) hx hb dX7_copy_89 (by decide) (fun c9 => ?_) (fun c9 => ?_)
              · replace hw := hw.1 c9
                refine lv_aload hx hb dX7_copy_95 (lv_at hl 1 rfl) ?_
                refine va_get (D := D) (ci := 4) (v := .ref s_ait) (C := RX4) (T := TX4) (N := 3) hx hb hts inX4 hown hK hP 2 rfl rfl 0 (by decide) fl264 (fun _ h9 => h9) rfl dX7_copy_97 ?_
                refine lv_iload_n hx hb dX7_copy_100 rfl (lv_at hl 4 rfl) ?_
                refine lv_aload hx hb dX7_copy_101 (lv_at hl 0 rfl) ?_
                refine va_get (D := D) (ci := 4) (v := .ref s_ait) (C := RX4) (T := TX4) (N := 3) hx hb hts inX4 hown hK hP 2 rfl rfl 0 (by decide) fl264 (fun _ h9 => h9) rfl dX7_copy_103 ?_
                refine lv_iload hx hb dX7_copy_106 (lv_at hl 6 rfl) ?_
                refine lv_iload hx hb dX7_copy_108 (lv_at hl 7 rfl) ?_
                have hcp := hw.1
                replace hw := hw.2
                refine va_copyl (sp := x2) (dp := x4) (n := x5) hx hb (hml.trans hl.1.symm) hown (hts (.methodLink RX7 268 arraycopyName) (by decide +kernel)) (hts (.native arraycopyName) (by decide +kernel)) (hts (.static arraycopyName) (by decide +kernel)) (hts (.initialized "java/lang/System") (by decide +kernel)) hK hP hD hS 3 3 1 1 rfl rfl rfl rfl rfl hcp.1 hcp.2.1 hcp.2.2.1 hcp.2.2.2.1 hcp.2.2.2.2 (fun _ _ => rfl) (Nat.le_of_ble_eq_true rfl) (Nat.le_of_ble_eq_true rfl) dX7_copy_110 (fun H locs hP hD hS => ?_)
                replace hP : va_P D vwCl [(x_xo, .inr (7, [.ref da, .ref k_da, .int x_isKept, .ref t_ta, .ref p_pl, .ref r_tr, .ref w_ro, .ref x_ash])), (x_ash, .inl (G 5, 4, .inr (.inr (.inr (.inr (fun k => some (x_sq k))))))), ((x_sq x1.toNatClampNeg), .inr (4, [.ref s_ait, .int s_lane, .int s_size])), (s_ait, .inl (G 1, 24, .inr (.inl (va_cpy s_items s_items x2.toNatClampNeg x4.toNatClampNeg x5.toNatClampNeg))))] H := hP
                replace hD : va_D A [(x_xo, .inr (7, [.ref da, .ref k_da, .int x_isKept, .ref t_ta, .ref p_pl, .ref r_tr, .ref w_ro, .ref x_ash])), (x_ash, .inl (G 5, 4, .inr (.inr (.inr (.inr (fun k => some (x_sq k))))))), ((x_sq x1.toNatClampNeg), .inr (4, [.ref s_ait, .int s_lane, .int s_size])), (s_ait, .inl (G 1, 24, .inr (.inl (va_cpy s_items s_items x2.toNatClampNeg x4.toNatClampNeg x5.toNatClampNeg))))] := hD
                refine lv_iload hx hb dX7_copy_113 (lv_at hl 7 rfl) ?_
                exact W.iret hx hb hr (x_mi (u := (va_cpy s_items s_items x2.toNatClampNeg x4.toNatClampNeg x5.toNatClampNeg)) hP hK hD hS hw) hS.2.2 dX7_copy_115
              · replace hw := hw.2 c9
                refine lv_bipush (v := -13) hx hb dX7_copy_92 (by decide) ?_
                exact W.iret hx hb hr (x_mi (u := s_items) hP hK hD hS hw) hS.2.2 dX7_copy_94
          · replace hw := hw.2 c9
            refine lv_bipush (v := -12) hx hb dX7_copy_66 (by decide) ?_
            exact W.iret hx hb hr (x_mi (u := s_items) hP hK hD hS hw) hS.2.2 dX7_copy_68
        · replace hw := hw.2 c9
          refine lv_bipush (v := -11) hx hb dX7_copy_50 (by decide) ?_
          exact W.iret hx hb hr (x_mi (u := s_items) hP hK hD hS hw) hS.2.2 dX7_copy_52
    · replace hw := hw.2 c9
      refine lv_iconst (v := -1) hx hb dX7_copy_14 (by decide) ?_
      exact W.iret hx hb hr (x_mi (u := s_items) hP hK hD hS hw) hS.2.2 dX7_copy_15
set_option maxHeartbeats 4000000 in
set_option maxRecDepth 100000 in
theorem c_X7_copyB (l : Launch) (D : va_G) (G : Nat → ClassId) (x_xo : Nat) (x1 : Int32) (x2 : Int32) (x3 : Int32) (x4 : Int32) (x5 : Int32) (post : Int32 → Prop) (hw : wp_X7_copyB x1 x3 post) : Met l yX7_copy wsX7_copy ({ frames := 1, cells := 0, slots := 0, locals := 20 } : Room) (va_Pc [.ref x_xo, .int x1, .int x2, .int x3, .int x4, .int x5] (xR D G [])) (vp_Si post) 0 0 (fun _ => False) := by
  refine Met.ofW (cc := cX7_copy) (maxL := 8) (ret := (some .int)) (by decide) rfl ?_
  intro p e s m args below meth c s₁ B hml hv
  obtain ⟨rfl, hP, hK⟩ := hv
  have hx := B.exec
  have hb := B.bytes
  have hr := B.returns
  have hts := atoms_spec (ws := wsX7_copy) B.pre
  have hown : s.vm.findClass RX7 = some m.cls := findClass_of_methodNamed B.named
  have hlocks := B.notSynchronized
  have hl := lv_entry ([.ref x_xo, .int x1, .int x2, .int x3, .int x4, .int x5] : List Value) (n := 8) (Nat.le_of_ble_eq_true rfl)
  rw [lg_entry_eq]
  generalize (lg_sl ([.ref x_xo, .int x1, .int x2, .int x3, .int x4, .int x5] : List Value) ++ List.replicate (8 - (lg_sl ([.ref x_xo, .int x1, .int x2, .int x3, .int x4, .int x5] : List Value)).length) Slot.unset).toArray = ls at hl ⊢
  have hl : lv_has ls 8 [(0, .ref x_xo), (1, .int x1), (2, .int x2), (3, .int x3), (4, .int x4), (5, .int x5)] := hl
  unfold wp_X7_copyB at hw
  refine lv_iload_n hx hb dX7_copy_0 rfl (lv_at hl 1 rfl) ?_
  refine vp_callSi (W.runS (As := [.int x1]) (rest := []) ⟨hx, hb, hml, hown, hts⟩ (c_X7_isSheet l D G x1 _ hw) (va_cwS 1 hts gX7_copy_X7_isSheet rfl rfl rfl (by decide +kernel) ⟨(Nat.le_of_ble_eq_true rfl), (Nat.le_of_ble_eq_true rfl)⟩) (xR_ps (hP.sub [] rfl) hK) rfl rfl hl.1 rfl (lv_room (Nat.le_of_ble_eq_true rfl)) dX7_copy_1 ⟨Nat.zero_le _, Nat.zero_le _⟩) (fun r1 hw => ?_)
  refine lv_if_eq (tgt := 14) hx hb dX7_copy_4 (by decide) (fun c9 => ?_) (fun c9 => ?_)
  · replace hw := hw.1 c9
    refine lv_iconst (v := -1) hx hb dX7_copy_14 (by decide) ?_
    exact W.iret hx hb hr (fun t ht _ => ⟨_, rfl, hw, ht⟩) (fun _ h => absurd h List.not_mem_nil) dX7_copy_15
  · replace hw := hw.2 c9
    refine lv_iload_n hx hb dX7_copy_7 rfl (lv_at hl 3 rfl) ?_
    refine vp_callSi (W.runS (As := [.int x3]) (rest := []) ⟨hx, hb, hml, hown, hts⟩ (c_X7_isSheet l D G x3 _ hw) (va_cwS 1 hts gX7_copy_X7_isSheet rfl rfl rfl (by decide +kernel) ⟨(Nat.le_of_ble_eq_true rfl), (Nat.le_of_ble_eq_true rfl)⟩) (xR_ps (hP.sub [] rfl) hK) rfl rfl hl.1 rfl (lv_room (Nat.le_of_ble_eq_true rfl)) dX7_copy_8 ⟨Nat.zero_le _, Nat.zero_le _⟩) (fun r2 hw => ?_)
    refine lv_if_ne (tgt := 16) hx hb dX7_copy_11 (by decide) (fun c9 => ?_) (fun c9 => ?_)
    · replace hw := hw.1 c9
      exact (hw : False).elim
    · replace hw := hw.2 c9
      refine lv_iconst (v := -1) hx hb dX7_copy_14 (by decide) ?_
      exact W.iret hx hb hr (fun t ht _ => ⟨_, rfl, hw, ht⟩) (fun _ h => absurd h List.not_mem_nil) dX7_copy_15
set_option maxHeartbeats 4000000 in
set_option maxRecDepth 100000 in
theorem c_X8_in (l : Launch) (D : va_G) (G : Nat → ClassId) (x0 : Int32) (x1 : Int32) (x2 : Int32) (post : Int32 → Prop) (hw : wp_X8_in x0 x1 x2 post) : Met l yX8_in wsX8_in ({ frames := 0, cells := 0, slots := 0, locals := 0 } : Room) (va_Pc [.int x0, .int x1, .int x2] (xR D G [])) (vp_Si post) 0 0 (fun _ => False) := by
  refine Met.ofW (cc := cX8_in) (maxL := 3) (ret := (some .boolean)) (by decide) rfl ?_
  intro p e s m args below meth c s₁ B hml hv
  obtain ⟨rfl, hP, hK⟩ := hv
  have hx := B.exec
  have hb := B.bytes
  have hr := B.returns
  have hts := atoms_spec (ws := wsX8_in) B.pre
  have hown : s.vm.findClass RX8 = some m.cls := findClass_of_methodNamed B.named
  have hlocks := B.notSynchronized
  have hl := lv_entry ([.int x0, .int x1, .int x2] : List Value) (n := 3) (Nat.le_of_ble_eq_true rfl)
  rw [lg_entry_eq]
  generalize (lg_sl ([.int x0, .int x1, .int x2] : List Value) ++ List.replicate (3 - (lg_sl ([.int x0, .int x1, .int x2] : List Value)).length) Slot.unset).toArray = ls at hl ⊢
  have hl : lv_has ls 3 [(0, .int x0), (1, .int x1), (2, .int x2)] := hl
  unfold wp_X8_in at hw
  refine lv_iload_n hx hb dX8_in_0 rfl (lv_at hl 0 rfl) ?_
  refine lv_iload_n hx hb dX8_in_1 rfl (lv_at hl 1 rfl) ?_
  refine lv_icmp_lt (tgt := 14) hx hb dX8_in_2 (by decide) (fun c9 => ?_) (fun c9 => ?_)
  · replace hw := hw.1 c9
    refine lv_iconst (v := 0) hx hb dX8_in_14 (by decide) ?_
    exact W.zret hx hb hr rfl (fun t ht _ => ⟨_, rfl, hw, ht⟩) (fun _ h => absurd h List.not_mem_nil) dX8_in_15
  · replace hw := hw.2 c9
    refine lv_iload_n hx hb dX8_in_5 rfl (lv_at hl 0 rfl) ?_
    refine lv_iload_n hx hb dX8_in_6 rfl (lv_at hl 2 rfl) ?_
    refine lv_icmp_gt (tgt := 14) hx hb dX8_in_7 (by decide) (fun c9 => ?_) (fun c9 => ?_)
    · replace hw := hw.1 c9
      refine lv_iconst (v := 0) hx hb dX8_in_14 (by decide) ?_
      exact W.zret hx hb hr rfl (fun t ht _ => ⟨_, rfl, hw, ht⟩) (fun _ h => absurd h List.not_mem_nil) dX8_in_15
    · replace hw := hw.2 c9
      refine lv_iconst (v := 1) hx hb dX8_in_10 (by decide) ?_
      refine lv_goto (tgt := 15) hx hb dX8_in_11 (by decide) ?_
      exact W.zret hx hb hr rfl (fun t ht _ => ⟨_, rfl, hw, ht⟩) (fun _ h => absurd h List.not_mem_nil) dX8_in_15
set_option maxHeartbeats 4000000 in
set_option maxRecDepth 100000 in
theorem c_X8_has (l : Launch) (D : va_G) (G : Nat → ClassId) (x0 : Int32) (x1 : Int32) (post : Int32 → Prop) (hw : wp_X8_has x0 x1 post) : Met l yX8_has wsX8_has ({ frames := 0, cells := 0, slots := 0, locals := 0 } : Room) (va_Pc [.int x0, .int x1] (xR D G [])) (vp_Si post) 0 0 (fun _ => False) := by
  refine Met.ofW (cc := cX8_has) (maxL := 2) (ret := (some .boolean)) (by decide) rfl ?_
  intro p e s m args below meth c s₁ B hml hv
  obtain ⟨rfl, hP, hK⟩ := hv
  have hx := B.exec
  have hb := B.bytes
  have hr := B.returns
  have hts := atoms_spec (ws := wsX8_has) B.pre
  have hown : s.vm.findClass RX8 = some m.cls := findClass_of_methodNamed B.named
  have hlocks := B.notSynchronized
  have hl := lv_entry ([.int x0, .int x1] : List Value) (n := 2) (Nat.le_of_ble_eq_true rfl)
  rw [lg_entry_eq]
  generalize (lg_sl ([.int x0, .int x1] : List Value) ++ List.replicate (2 - (lg_sl ([.int x0, .int x1] : List Value)).length) Slot.unset).toArray = ls at hl ⊢
  have hl : lv_has ls 2 [(0, .int x0), (1, .int x1)] := hl
  unfold wp_X8_has at hw
  refine lv_iload_n hx hb dX8_has_0 rfl (lv_at hl 0 rfl) ?_
  refine lv_iload_n hx hb dX8_has_1 rfl (lv_at hl 1 rfl) ?_
  refine lv_ishr hx hb dX8_has_2 ?_
  refine lv_iconst (v := 1) hx hb dX8_has_3 (by decide) ?_
  refine lv_iand hx hb dX8_has_4 ?_
  refine lv_iconst (v := 1) hx hb dX8_has_5 (by decide) ?_
  refine lv_icmp_ne (tgt := 13) hx hb dX8_has_6 (by decide) (fun c9 => ?_) (fun c9 => ?_)
  · replace hw := hw.1 c9
    refine lv_iconst (v := 0) hx hb dX8_has_13 (by decide) ?_
    exact W.zret hx hb hr rfl (fun t ht _ => ⟨_, rfl, hw, ht⟩) (fun _ h => absurd h List.not_mem_nil) dX8_has_14
  · replace hw := hw.2 c9
    refine lv_iconst (v := 1) hx hb dX8_has_9 (by decide) ?_
    refine lv_goto (tgt := 14) hx hb dX8_has_10 (by decide) ?_
    exact W.zret hx hb hr rfl (fun t ht _ => ⟨_, rfl, hw, ht⟩) (fun _ h => absurd h List.not_mem_nil) dX8_has_14
set_option maxHeartbeats 4000000 in
set_option maxRecDepth 100000 in
theorem c_X8_bits (l : Launch) (D : va_G) (G : Nat → ClassId) (x0 : Int32) (post : Int32 → Prop) (hw : wp_X8_bits x0 post) : Met l yX8_bits wsX8_bits ({ frames := 0, cells := 0, slots := 0, locals := 0 } : Room) (va_Pc [.int x0] (xR D G [])) (vp_Si post) 0 0 (fun _ => False) := by
  refine Met.ofW (cc := cX8_bits) (maxL := 3) (ret := (some .int)) (by decide) rfl ?_
  intro p e s m args below meth c s₁ B hml hv
  obtain ⟨rfl, hP, hK⟩ := hv
  have hx := B.exec
  have hb := B.bytes
  have hr := B.returns
  have hts := atoms_spec (ws := wsX8_bits) B.pre
  have hown : s.vm.findClass RX8 = some m.cls := findClass_of_methodNamed B.named
  have hlocks := B.notSynchronized
  have hl := lv_entry ([.int x0] : List Value) (n := 3) (Nat.le_of_ble_eq_true rfl)
  rw [lg_entry_eq]
  generalize (lg_sl ([.int x0] : List Value) ++ List.replicate (3 - (lg_sl ([.int x0] : List Value)).length) Slot.unset).toArray = ls at hl ⊢
  have hl : lv_has ls 3 [(0, .int x0)] := hl
  unfold wp_X8_bits at hw
  have L4 : ∀ (f4 : Nat) (x1 : Int32) (x2 : Int32) (ls : Array Slot), wp_X8_bits_L4 x0 post f4 x1 x2 → lv_has ls 3 [(0, .int x0), (1, .int x1), (2, .int x2)] → W p l e (headSpec wsX8_bits ({ frames := 0, cells := 0, slots := 0, locals := 0 } : Room)).room s m ([.int x0] : List Value).toArray below meth c s.heap [] 0 0 (MQ below (vp_Si post) ([.int x0] : List Value).toArray s 0 0 (fun _ => False)) (F0 m 4 ls []) := by
    intro f4
    induction f4 with
    | zero => intro x1 x2 ls hw hl; exact (hw : False).elim
    | succ f4 ih4 =>
      intro x1 x2 ls hw hl
      unfold wp_X8_bits_L4 at hw
      refine lv_iload_n hx hb dX8_bits_4 rfl (lv_at hl 2 rfl) ?_
      refine lv_bipush (v := 8) hx hb dX8_bits_5 (by decide) ?_
      refine lv_icmp_ge (tgt := 24) hx hb dX8_bits_7 (by decide) (fun c9 => ?_) (fun c9 => ?_)
      · replace hw := hw.1 c9
        refine lv_iload_n hx hb dX8_bits_24 rfl (lv_at hl 1 rfl) ?_
        exact W.iret hx hb hr (fun t ht _ => ⟨_, rfl, hw, ht⟩) (fun _ h => absurd h List.not_mem_nil) dX8_bits_25
      · replace hw := hw.2 c9
        refine lv_iload_n hx hb dX8_bits_10 rfl (lv_at hl 1 rfl) ?_
        refine lv_iload_n hx hb dX8_bits_11 rfl (lv_at hl 0 rfl) ?_
        refine lv_iload_n hx hb dX8_bits_12 rfl (lv_at hl 2 rfl) ?_
        refine lv_ishr hx hb dX8_bits_13 ?_
        refine lv_iconst (v := 1) hx hb dX8_bits_14 (by decide) ?_
        refine lv_iand hx hb dX8_bits_15 ?_
        refine lv_iadd hx hb dX8_bits_16 ?_
        refine lv_istore_n (lv' := [(1, .int (x1 + ((x0 >>> (x2 &&& 31)) &&& (1 : Int32)))), (0, .int x0), (2, .int x2)]) hx hb dX8_bits_17 rfl hl (by decide) rfl (fun ls hl => ?_)
        refine lv_iinc (v := (x2 + 1)) (lv' := [(2, .int (x2 + 1)), (1, .int (x1 + ((x0 >>> (x2 &&& 31)) &&& (1 : Int32)))), (0, .int x0)]) hx hb dX8_bits_18 hl (k := 2) rfl (by first | rfl | decide) (by decide) rfl (fun ls hl => ?_)
        refine lv_goto (tgt := 4) hx hb dX8_bits_21 (by decide) ?_
        exact ih4 (x1 + ((x0 >>> (x2 &&& 31)) &&& (1 : Int32))) (x2 + 1) _ hw (lv_sub hl [2, 1, 0] rfl)
  refine lv_iconst (v := 0) hx hb dX8_bits_0 (by decide) ?_
  refine lv_istore_n (lv' := [(1, .int (0 : Int32)), (0, .int x0)]) hx hb dX8_bits_1 rfl hl (by decide) rfl (fun ls hl => ?_)
  refine lv_iconst (v := 0) hx hb dX8_bits_2 (by decide) ?_
  refine lv_istore_n (lv' := [(2, .int (0 : Int32)), (1, .int (0 : Int32)), (0, .int x0)]) hx hb dX8_bits_3 rfl hl (by decide) rfl (fun ls hl => ?_)
  obtain ⟨n, hw⟩ := hw
  exact L4 n (0 : Int32) (0 : Int32) _ hw (lv_sub hl [2, 1, 0] rfl)
set_option maxHeartbeats 4000000 in
set_option maxRecDepth 100000 in
theorem c_X8_bring (l : Launch) (D : va_G) (G : Nat → ClassId) (sz : Nat) (av0 : Nat) (av2 : Nat) (v0 : Nat → Int32) (v2 : Nat → Int32) (x1 : Int32) (x3 : Int32) (x4 : Int32) (post : (Nat → Int32) → Prop) (hw : wp_X8_bring v0 v2 x1 x3 x4 post) : Met l yX8_bring wsX8_bring ({ frames := 0, cells := 0, slots := 0, locals := 0 } : Room) (va_Pc [.ref av0, .int x1, .ref av2, .int x3, .int x4] (xM D G sz [(av0, .inl (G 0, 55, .inl v0)), (av2, .inl (G 0, 55, .inl v2))])) (va_Qv (fun (u : (Nat → Int32)) => post u) (fun u t => xE D G (va_A [(av0, .inl (G 0, 55, .inl v0)), (av2, .inl (G 0, 55, .inl v2))] sz) [(av0, .inl (G 0, 55, .inl v0)), (av2, .inl (G 0, 55, .inl u))] t) (va_A [(av0, .inl (G 0, 55, .inl v0)), (av2, .inl (G 0, 55, .inl v2))] sz)) 0 0 (va_A [(av0, .inl (G 0, 55, .inl v0)), (av2, .inl (G 0, 55, .inl v2))] sz) := by
  refine Met.ofW (cc := cX8_bring) (maxL := 6) (ret := none) (by decide) rfl ?_
  intro p e s m args below meth c s₁ B hml hv
  obtain ⟨rfl, hsz, hP, hK, hD0⟩ := hv
  have hx := B.exec
  have hb := B.bytes
  have hr := B.returns
  have hts := atoms_spec (ws := wsX8_bring) B.pre
  have hown : s.vm.findClass RX8 = some m.cls := findClass_of_methodNamed B.named
  have hlocks := B.notSynchronized
  subst hsz
  have hD := hD0.self (sz := s.heap.size)
  generalize hAe : va_A [(av0, .inl (G 0, 55, .inl v0)), (av2, .inl (G 0, 55, .inl v2))] s.heap.size = A at hD ⊢
  have hA : ∀ q : Nat, s.heap.size ≤ q → A q := fun q h => by rw [← hAe]; exact Or.inr h
  have hS : va_S A s.heap s.heap [] := va_S.rf
  have hl := lv_entry ([.ref av0, .int x1, .ref av2, .int x3, .int x4] : List Value) (n := 6) (Nat.le_of_ble_eq_true rfl)
  rw [lg_entry_eq]
  generalize (lg_sl ([.ref av0, .int x1, .ref av2, .int x3, .int x4] : List Value) ++ List.replicate (6 - (lg_sl ([.ref av0, .int x1, .ref av2, .int x3, .int x4] : List Value)).length) Slot.unset).toArray = ls at hl ⊢
  have hl : lv_has ls 6 [(0, .ref av0), (1, .int x1), (2, .ref av2), (3, .int x3), (4, .int x4)] := hl
  unfold wp_X8_bring at hw
  have L3 : ∀ (f3 : Nat) (x5 : Int32) (v2 : Nat → Int32) (H : Heap) (locs : List Loc) (ls : Array Slot), wp_X8_bring_L3 v0 x1 x3 x4 post f3 v2 x5 → va_P D vwCl [(av0, .inl (G 0, 55, .inl v0)), (av2, .inl (G 0, 55, .inl v2))] H → va_D A [(av0, .inl (G 0, 55, .inl v0)), (av2, .inl (G 0, 55, .inl v2))] → va_S A s.heap H locs → lv_has ls 6 [(0, .ref av0), (1, .int x1), (2, .ref av2), (3, .int x3), (4, .int x4), (5, .int x5)] → W p l e (headSpec wsX8_bring ({ frames := 0, cells := 0, slots := 0, locals := 0 } : Room)).room s m ([.ref av0, .int x1, .ref av2, .int x3, .int x4] : List Value).toArray below meth c H locs 0 0 (MQ below (va_Qv (fun (u : (Nat → Int32)) => post u) (fun u t => xE D G A [(av0, .inl (G 0, 55, .inl v0)), (av2, .inl (G 0, 55, .inl u))] t) A) ([.ref av0, .int x1, .ref av2, .int x3, .int x4] : List Value).toArray s 0 0 A) (F0 m 3 ls []) := by
    intro f3
    induction f3 with
    | zero => intro x5 v2 H locs ls hw hP hD hS hl; exact (hw : False).elim
    | succ f3 ih3 =>
      intro x5 v2 H locs ls hw hP hD hS hl
      unfold wp_X8_bring_L3 at hw
      refine lv_iload hx hb dX8_bring_3 (lv_at hl 5 rfl) ?_
      refine lv_iload hx hb dX8_bring_5 (lv_at hl 4 rfl) ?_
      refine lv_icmp_ge (tgt := 28) hx hb dX8_bring_7 (by decide) (fun c9 => ?_) (fun c9 => ?_)
      · replace hw := hw.1 c9
        exact W.vret hx hb hr (x_mv (u := v2) hP hK hD hS hw) hS.2.2 dX8_bring_28
      · replace hw := hw.2 c9
        refine lv_aload_n hx hb dX8_bring_10 rfl (lv_at hl 2 rfl) ?_
        refine lv_iload_n hx hb dX8_bring_11 rfl (lv_at hl 3 rfl) ?_
        refine lv_iload hx hb dX8_bring_12 (lv_at hl 5 rfl) ?_
        refine lv_iadd hx hb dX8_bring_14 ?_
        refine lv_aload_n hx hb dX8_bring_15 rfl (lv_at hl 0 rfl) ?_
        refine lv_iload_n hx hb dX8_bring_16 rfl (lv_at hl 1 rfl) ?_
        refine lv_iload hx hb dX8_bring_17 (lv_at hl 5 rfl) ?_
        refine lv_iadd hx hb dX8_bring_19 ?_
        refine x_iald (j := (x1 + x5).toNatClampNeg) hx hb hK hP 0 0 rfl rfl rfl hw.1 dX8_bring_20 ?_
        replace hw := hw.2
        refine x_iast (j := (x3 + x5).toNatClampNeg) hx hb hK hP hD hS 1 0 rfl rfl rfl hw.1 dX8_bring_21 (fun H locs hP hD hS => ?_)
        replace hw := hw.2
        replace hP : va_P D vwCl [(av0, .inl (G 0, 55, .inl v0)), (av2, .inl (G 0, 55, .inl (upd v2 (x3 + x5).toNatClampNeg (v0 (x1 + x5).toNatClampNeg))))] H := hP
        replace hD : va_D A [(av0, .inl (G 0, 55, .inl v0)), (av2, .inl (G 0, 55, .inl (upd v2 (x3 + x5).toNatClampNeg (v0 (x1 + x5).toNatClampNeg))))] := hD
        refine lv_iinc (v := (x5 + 1)) (lv' := [(5, .int (x5 + 1)), (0, .ref av0), (1, .int x1), (2, .ref av2), (3, .int x3), (4, .int x4)]) hx hb dX8_bring_22 hl (k := 5) rfl (by first | rfl | decide) (by decide) rfl (fun ls hl => ?_)
        refine lv_goto (tgt := 3) hx hb dX8_bring_25 (by decide) ?_
        exact ih3 (x5 + 1) (upd v2 (x3 + x5).toNatClampNeg (v0 (x1 + x5).toNatClampNeg)) _ _ _ hw hP hD hS (lv_sub hl [1, 2, 3, 4, 5, 0] rfl)
  refine lv_iconst (v := 0) hx hb dX8_bring_0 (by decide) ?_
  refine lv_istore (lv' := [(5, .int (0 : Int32)), (0, .ref av0), (1, .int x1), (2, .ref av2), (3, .int x3), (4, .int x4)]) hx hb dX8_bring_1 hl (by decide) rfl (fun ls hl => ?_)
  obtain ⟨n, hw⟩ := hw
  exact L3 n (0 : Int32) v2 _ _ _ hw hP hD hS (lv_sub hl [1, 2, 3, 4, 5, 0] rfl)
set_option maxHeartbeats 4000000 in
set_option maxRecDepth 100000 in
theorem c_X8_bringS (l : Launch) (D : va_G) (G : Nat → ClassId) (sz : Nat) (av0 : Nat) (v0 : Nat → Int32) (x1 : Int32) (x3 : Int32) (x4 : Int32) (post : (Nat → Int32) → Prop) (hw : wp_X8_bringS v0 x1 x3 x4 post) : Met l yX8_bring wsX8_bring ({ frames := 0, cells := 0, slots := 0, locals := 0 } : Room) (va_Pc [.ref av0, .int x1, .ref av0, .int x3, .int x4] (xM D G sz [(av0, .inl (G 0, 55, .inl v0))])) (va_Qv (fun (u : (Nat → Int32)) => post u) (fun u t => xE D G (va_A [(av0, .inl (G 0, 55, .inl v0))] sz) [(av0, .inl (G 0, 55, .inl u))] t) (va_A [(av0, .inl (G 0, 55, .inl v0))] sz)) 0 0 (va_A [(av0, .inl (G 0, 55, .inl v0))] sz) := by
  refine Met.ofW (cc := cX8_bring) (maxL := 6) (ret := none) (by decide) rfl ?_
  intro p e s m args below meth c s₁ B hml hv
  obtain ⟨rfl, hsz, hP, hK, hD0⟩ := hv
  have hx := B.exec
  have hb := B.bytes
  have hr := B.returns
  have hts := atoms_spec (ws := wsX8_bring) B.pre
  have hown : s.vm.findClass RX8 = some m.cls := findClass_of_methodNamed B.named
  have hlocks := B.notSynchronized
  subst hsz
  have hD := hD0.self (sz := s.heap.size)
  generalize hAe : va_A [(av0, .inl (G 0, 55, .inl v0))] s.heap.size = A at hD ⊢
  have hA : ∀ q : Nat, s.heap.size ≤ q → A q := fun q h => by rw [← hAe]; exact Or.inr h
  have hS : va_S A s.heap s.heap [] := va_S.rf
  have hl := lv_entry ([.ref av0, .int x1, .ref av0, .int x3, .int x4] : List Value) (n := 6) (Nat.le_of_ble_eq_true rfl)
  rw [lg_entry_eq]
  generalize (lg_sl ([.ref av0, .int x1, .ref av0, .int x3, .int x4] : List Value) ++ List.replicate (6 - (lg_sl ([.ref av0, .int x1, .ref av0, .int x3, .int x4] : List Value)).length) Slot.unset).toArray = ls at hl ⊢
  have hl : lv_has ls 6 [(0, .ref av0), (1, .int x1), (2, .ref av0), (3, .int x3), (4, .int x4)] := hl
  unfold wp_X8_bringS at hw
  have L3 : ∀ (f3 : Nat) (x5 : Int32) (v0 : Nat → Int32) (H : Heap) (locs : List Loc) (ls : Array Slot), wp_X8_bringS_L3 x1 x3 x4 post f3 v0 x5 → va_P D vwCl [(av0, .inl (G 0, 55, .inl v0))] H → va_D A [(av0, .inl (G 0, 55, .inl v0))] → va_S A s.heap H locs → lv_has ls 6 [(0, .ref av0), (1, .int x1), (2, .ref av0), (3, .int x3), (4, .int x4), (5, .int x5)] → W p l e (headSpec wsX8_bring ({ frames := 0, cells := 0, slots := 0, locals := 0 } : Room)).room s m ([.ref av0, .int x1, .ref av0, .int x3, .int x4] : List Value).toArray below meth c H locs 0 0 (MQ below (va_Qv (fun (u : (Nat → Int32)) => post u) (fun u t => xE D G A [(av0, .inl (G 0, 55, .inl u))] t) A) ([.ref av0, .int x1, .ref av0, .int x3, .int x4] : List Value).toArray s 0 0 A) (F0 m 3 ls []) := by
    intro f3
    induction f3 with
    | zero => intro x5 v0 H locs ls hw hP hD hS hl; exact (hw : False).elim
    | succ f3 ih3 =>
      intro x5 v0 H locs ls hw hP hD hS hl
      unfold wp_X8_bringS_L3 at hw
      refine lv_iload hx hb dX8_bring_3 (lv_at hl 5 rfl) ?_
      refine lv_iload hx hb dX8_bring_5 (lv_at hl 4 rfl) ?_
      refine lv_icmp_ge (tgt := 28) hx hb dX8_bring_7 (by decide) (fun c9 => ?_) (fun c9 => ?_)
      · replace hw := hw.1 c9
        exact W.vret hx hb hr (x_mv (u := v0) hP hK hD hS hw) hS.2.2 dX8_bring_28
      · replace hw := hw.2 c9
        refine lv_aload_n hx hb dX8_bring_10 rfl (lv_at hl 2 rfl) ?_
        refine lv_iload_n hx hb dX8_bring_11 rfl (lv_at hl 3 rfl) ?_
        refine lv_iload hx hb dX8_bring_12 (lv_at hl 5 rfl) ?_
        refine lv_iadd hx hb dX8_bring_14 ?_
        refine lv_aload_n hx hb dX8_bring_15 rfl (lv_at hl 0 rfl) ?_
        refine lv_iload_n hx hb dX8_bring_16 rfl (lv_at hl 1 rfl) ?_
        refine lv_iload hx hb dX8_bring_17 (lv_at hl 5 rfl) ?_
        refine lv_iadd hx hb dX8_bring_19 ?_
        refine x_iald (j := (x1 + x5).toNatClampNeg) hx hb hK hP 0 0 rfl rfl rfl hw.1 dX8_bring_20 ?_
        replace hw := hw.2
        refine x_iast (j := (x3 + x5).toNatClampNeg) hx hb hK hP hD hS 0 0 rfl rfl rfl hw.1 dX8_bring_21 (fun H locs hP hD hS => ?_)
        replace hw := hw.2
        replace hP : va_P D vwCl [(av0, .inl (G 0, 55, .inl (upd v0 (x3 + x5).toNatClampNeg (v0 (x1 + x5).toNatClampNeg))))] H := hP
        replace hD : va_D A [(av0, .inl (G 0, 55, .inl (upd v0 (x3 + x5).toNatClampNeg (v0 (x1 + x5).toNatClampNeg))))] := hD
        refine lv_iinc (v := (x5 + 1)) (lv' := [(5, .int (x5 + 1)), (0, .ref av0), (1, .int x1), (2, .ref av0), (3, .int x3), (4, .int x4)]) hx hb dX8_bring_22 hl (k := 5) rfl (by first | rfl | decide) (by decide) rfl (fun ls hl => ?_)
        refine lv_goto (tgt := 3) hx hb dX8_bring_25 (by decide) ?_
        exact ih3 (x5 + 1) (upd v0 (x3 + x5).toNatClampNeg (v0 (x1 + x5).toNatClampNeg)) _ _ _ hw hP hD hS (lv_sub hl [1, 2, 3, 4, 5, 0] rfl)
  refine lv_iconst (v := 0) hx hb dX8_bring_0 (by decide) ?_
  refine lv_istore (lv' := [(5, .int (0 : Int32)), (0, .ref av0), (1, .int x1), (2, .ref av0), (3, .int x3), (4, .int x4)]) hx hb dX8_bring_1 hl (by decide) rfl (fun ls hl => ?_)
  obtain ⟨n, hw⟩ := hw
  exact L3 n (0 : Int32) v0 _ _ _ hw hP hD hS (lv_sub hl [1, 2, 3, 4, 5, 0] rfl)
set_option maxHeartbeats 4000000 in
set_option maxRecDepth 100000 in
theorem c_X8_isCow (l : Launch) (D : va_G) (G : Nat → ClassId) (m_mo : Nat) (m_alane : Nat) (m_asize : Nat) (m_aitem : Nat) (m_atape : Nat) (m_anow : Nat) (m_atried : Nat) (m_aread : Nat) (m_akept : Nat) (m_anoticed : Nat) (m_aneeds : Nat) (m_aorder : Nat) (m_letters : Int32) (m_position : Int32) (m_number : Int32) (m_isKept : Int32) (m_many : Int32) (m_one : Int32) (m_two : Int32) (m_now : Nat → Int32) (x1 : Int32) (post : Int32 → Prop) (hw : wp_X8_isCow m_now x1 post) : Met l yX8_isCow wsX8_isCow ({ frames := 1, cells := 0, slots := 0, locals := 22 } : Room) (va_Pc [.ref m_mo, .int x1] (xR D G [(m_mo, .inr (8, [.ref m_alane, .ref m_asize, .ref m_aitem, .int m_letters, .ref m_atape, .int m_position, .int m_number, .ref m_anow, .ref m_atried, .ref m_aread, .ref m_akept, .int m_isKept, .ref m_anoticed, .ref m_aneeds, .ref m_aorder, .int m_many, .int m_one, .int m_two])), (m_anow, .inl (G 0, 55, .inl m_now))])) (vp_Si post) 0 0 (fun _ => False) := by
  refine Met.ofW (cc := cX8_isCow) (maxL := 2) (ret := (some .boolean)) (by decide) rfl ?_
  intro p e s m args below meth c s₁ B hml hv
  obtain ⟨rfl, hP, hK⟩ := hv
  have hx := B.exec
  have hb := B.bytes
  have hr := B.returns
  have hts := atoms_spec (ws := wsX8_isCow) B.pre
  have hown : s.vm.findClass RX8 = some m.cls := findClass_of_methodNamed B.named
  have hlocks := B.notSynchronized
  have inX8 : ∀ w ∈ wsX80, w ∈ wsX8_isCow := by decide +kernel
  have fl23 := hts (.fieldLink RX8 23 "NewsCowModel" "now" "[I") (by decide +kernel)
  have hl := lv_entry ([.ref m_mo, .int x1] : List Value) (n := 2) (Nat.le_of_ble_eq_true rfl)
  rw [lg_entry_eq]
  generalize (lg_sl ([.ref m_mo, .int x1] : List Value) ++ List.replicate (2 - (lg_sl ([.ref m_mo, .int x1] : List Value)).length) Slot.unset).toArray = ls at hl ⊢
  have hl : lv_has ls 2 [(0, .ref m_mo), (1, .int x1)] := hl
  unfold wp_X8_isCow at hw
  refine lv_iload_n hx hb dX8_isCow_0 rfl (lv_at hl 1 rfl) ?_
  refine lv_iconst (v := 0) hx hb dX8_isCow_1 (by decide) ?_
  refine lv_aload_n hx hb dX8_isCow_2 rfl (lv_at hl 0 rfl) ?_
  refine va_get (D := D) (ci := 8) (v := .ref m_anow) (C := RX8) (T := TX8) (N := 18) hx hb hts inX8 hown hK hP 0 rfl rfl 7 (by decide) fl23 (fun _ h9 => h9) rfl dX8_isCow_3 ?_
  refine lv_iconst (v := 4) hx hb dX8_isCow_6 (by decide) ?_
  refine x_iald (j := 4) hx hb hK hP 1 0 rfl rfl (by decide) (x_in (by decide)) dX8_isCow_7 ?_
  refine lv_iconst (v := 1) hx hb dX8_isCow_8 (by decide) ?_
  refine lv_isub hx hb dX8_isCow_9 ?_
  refine vp_callSi (W.runS (As := [.int x1, .int (0 : Int32), .int ((m_now 4) - (1 : Int32))]) (rest := []) ⟨hx, hb, hml, hown, hts⟩ (c_X8_in l D G x1 (0 : Int32) ((m_now 4) - (1 : Int32)) _ hw) (va_cwS 3 hts gX8_isCow_X8_in rfl rfl rfl (by decide +kernel) ⟨(Nat.le_of_ble_eq_true rfl), (Nat.le_of_ble_eq_true rfl)⟩) (xR_ps (hP.sub [] rfl) hK) rfl rfl hl.1 rfl (lv_room (Nat.le_of_ble_eq_true rfl)) dX8_isCow_10 ⟨Nat.zero_le _, Nat.zero_le _⟩) (fun r1 hw => ?_)
  exact W.zret hx hb hr hw.1 (fun t ht _ => ⟨_, rfl, hw.2, ht⟩) (fun _ h => absurd h List.not_mem_nil) dX8_isCow_13
set_option maxHeartbeats 4000000 in
set_option maxRecDepth 100000 in
theorem c_X8_isTaster (l : Launch) (D : va_G) (G : Nat → ClassId) (m_mo : Nat) (m_alane : Nat) (m_asize : Nat) (m_aitem : Nat) (m_atape : Nat) (m_anow : Nat) (m_atried : Nat) (m_aread : Nat) (m_akept : Nat) (m_anoticed : Nat) (m_aneeds : Nat) (m_aorder : Nat) (m_letters : Int32) (m_position : Int32) (m_number : Int32) (m_isKept : Int32) (m_many : Int32) (m_one : Int32) (m_two : Int32) (m_now : Nat → Int32) (x1 : Int32) (post : Int32 → Prop) (hw : wp_X8_isTaster m_now x1 post) : Met l yX8_isTaster wsX8_isTaster ({ frames := 1, cells := 0, slots := 0, locals := 22 } : Room) (va_Pc [.ref m_mo, .int x1] (xR D G [(m_mo, .inr (8, [.ref m_alane, .ref m_asize, .ref m_aitem, .int m_letters, .ref m_atape, .int m_position, .int m_number, .ref m_anow, .ref m_atried, .ref m_aread, .ref m_akept, .int m_isKept, .ref m_anoticed, .ref m_aneeds, .ref m_aorder, .int m_many, .int m_one, .int m_two])), (m_anow, .inl (G 0, 55, .inl m_now))])) (vp_Si post) 0 0 (fun _ => False) := by
  refine Met.ofW (cc := cX8_isTaster) (maxL := 2) (ret := (some .boolean)) (by decide) rfl ?_
  intro p e s m args below meth c s₁ B hml hv
  obtain ⟨rfl, hP, hK⟩ := hv
  have hx := B.exec
  have hb := B.bytes
  have hr := B.returns
  have hts := atoms_spec (ws := wsX8_isTaster) B.pre
  have hown : s.vm.findClass RX8 = some m.cls := findClass_of_methodNamed B.named
  have hlocks := B.notSynchronized
  have inX8 : ∀ w ∈ wsX80, w ∈ wsX8_isTaster := by decide +kernel
  have fl23 := hts (.fieldLink RX8 23 "NewsCowModel" "now" "[I") (by decide +kernel)
  have hl := lv_entry ([.ref m_mo, .int x1] : List Value) (n := 2) (Nat.le_of_ble_eq_true rfl)
  rw [lg_entry_eq]
  generalize (lg_sl ([.ref m_mo, .int x1] : List Value) ++ List.replicate (2 - (lg_sl ([.ref m_mo, .int x1] : List Value)).length) Slot.unset).toArray = ls at hl ⊢
  have hl : lv_has ls 2 [(0, .ref m_mo), (1, .int x1)] := hl
  unfold wp_X8_isTaster at hw
  refine lv_iload_n hx hb dX8_isTaster_0 rfl (lv_at hl 1 rfl) ?_
  refine lv_iconst (v := 0) hx hb dX8_isTaster_1 (by decide) ?_
  refine lv_aload_n hx hb dX8_isTaster_2 rfl (lv_at hl 0 rfl) ?_
  refine va_get (D := D) (ci := 8) (v := .ref m_anow) (C := RX8) (T := TX8) (N := 18) hx hb hts inX8 hown hK hP 0 rfl rfl 7 (by decide) fl23 (fun _ h9 => h9) rfl dX8_isTaster_3 ?_
  refine lv_bipush (v := 13) hx hb dX8_isTaster_6 (by decide) ?_
  refine x_iald (j := 13) hx hb hK hP 1 0 rfl rfl (by decide) (x_in (by decide)) dX8_isTaster_8 ?_
  refine lv_iconst (v := 1) hx hb dX8_isTaster_9 (by decide) ?_
  refine lv_isub hx hb dX8_isTaster_10 ?_
  refine vp_callSi (W.runS (As := [.int x1, .int (0 : Int32), .int ((m_now 13) - (1 : Int32))]) (rest := []) ⟨hx, hb, hml, hown, hts⟩ (c_X8_in l D G x1 (0 : Int32) ((m_now 13) - (1 : Int32)) _ hw) (va_cwS 3 hts gX8_isTaster_X8_in rfl rfl rfl (by decide +kernel) ⟨(Nat.le_of_ble_eq_true rfl), (Nat.le_of_ble_eq_true rfl)⟩) (xR_ps (hP.sub [] rfl) hK) rfl rfl hl.1 rfl (lv_room (Nat.le_of_ble_eq_true rfl)) dX8_isTaster_11 ⟨Nat.zero_le _, Nat.zero_le _⟩) (fun r1 hw => ?_)
  exact W.zret hx hb hr hw.1 (fun t ht _ => ⟨_, rfl, hw.2, ht⟩) (fun _ h => absurd h List.not_mem_nil) dX8_isTaster_14
set_option maxHeartbeats 4000000 in
set_option maxRecDepth 100000 in
theorem c_X8_allOf (l : Launch) (D : va_G) (G : Nat → ClassId) (av0 : Nat) (v0 : Nat → Int32) (post : Int32 → Prop) (hw : wp_X8_allOf v0 post) : Met l yX8_allOf wsX8_allOf ({ frames := 0, cells := 0, slots := 0, locals := 0 } : Room) (va_Pc [.ref av0] (xR D G [(av0, .inl (G 0, 55, .inl v0))])) (vp_Si post) 0 0 (fun _ => False) := by
  refine Met.ofW (cc := cX8_allOf) (maxL := 1) (ret := (some .int)) (by decide) rfl ?_
  intro p e s m args below meth c s₁ B hml hv
  obtain ⟨rfl, hP, hK⟩ := hv
  have hx := B.exec
  have hb := B.bytes
  have hr := B.returns
  have hts := atoms_spec (ws := wsX8_allOf) B.pre
  have hown : s.vm.findClass RX8 = some m.cls := findClass_of_methodNamed B.named
  have hlocks := B.notSynchronized
  have hl := lv_entry ([.ref av0] : List Value) (n := 1) (Nat.le_of_ble_eq_true rfl)
  rw [lg_entry_eq]
  generalize (lg_sl ([.ref av0] : List Value) ++ List.replicate (1 - (lg_sl ([.ref av0] : List Value)).length) Slot.unset).toArray = ls at hl ⊢
  have hl : lv_has ls 1 [(0, .ref av0)] := hl
  unfold wp_X8_allOf at hw
  refine lv_iconst (v := 1) hx hb dX8_allOf_0 (by decide) ?_
  refine lv_aload_n hx hb dX8_allOf_1 rfl (lv_at hl 0 rfl) ?_
  refine lv_iconst (v := 4) hx hb dX8_allOf_2 (by decide) ?_
  refine x_iald (j := 4) hx hb hK hP 0 0 rfl rfl (by decide) (x_in (by decide)) dX8_allOf_3 ?_
  refine lv_ishl hx hb dX8_allOf_4 ?_
  refine lv_iconst (v := 1) hx hb dX8_allOf_5 (by decide) ?_
  refine lv_isub hx hb dX8_allOf_6 ?_
  exact W.iret hx hb hr (fun t ht _ => ⟨_, rfl, hw, ht⟩) (fun _ h => absurd h List.not_mem_nil) dX8_allOf_7
set_option maxHeartbeats 4000000 in
set_option maxRecDepth 100000 in
theorem c_X8_isMix (l : Launch) (D : va_G) (G : Nat → ClassId) (m_mo : Nat) (m_alane : Nat) (m_asize : Nat) (m_aitem : Nat) (m_atape : Nat) (m_anow : Nat) (m_atried : Nat) (m_aread : Nat) (m_akept : Nat) (m_anoticed : Nat) (m_aneeds : Nat) (m_aorder : Nat) (m_letters : Int32) (m_position : Int32) (m_number : Int32) (m_isKept : Int32) (m_many : Int32) (m_one : Int32) (m_two : Int32) (m_now : Nat → Int32) (x1 : Int32) (post : Int32 → Prop) (hw : wp_X8_isMix m_now x1 post) : Met l yX8_isMix wsX8_isMix ({ frames := 1, cells := 0, slots := 0, locals := 22 } : Room) (va_Pc [.ref m_mo, .int x1] (xR D G [(m_mo, .inr (8, [.ref m_alane, .ref m_asize, .ref m_aitem, .int m_letters, .ref m_atape, .int m_position, .int m_number, .ref m_anow, .ref m_atried, .ref m_aread, .ref m_akept, .int m_isKept, .ref m_anoticed, .ref m_aneeds, .ref m_aorder, .int m_many, .int m_one, .int m_two])), (m_anow, .inl (G 0, 55, .inl m_now))])) (vp_Si post) 0 0 (fun _ => False) := by
  refine Met.ofW (cc := cX8_isMix) (maxL := 2) (ret := (some .boolean)) (by decide) rfl ?_
  intro p e s m args below meth c s₁ B hml hv
  obtain ⟨rfl, hP, hK⟩ := hv
  have hx := B.exec
  have hb := B.bytes
  have hr := B.returns
  have hts := atoms_spec (ws := wsX8_isMix) B.pre
  have hown : s.vm.findClass RX8 = some m.cls := findClass_of_methodNamed B.named
  have hlocks := B.notSynchronized
  have inX8 : ∀ w ∈ wsX80, w ∈ wsX8_isMix := by decide +kernel
  have fl23 := hts (.fieldLink RX8 23 "NewsCowModel" "now" "[I") (by decide +kernel)
  have hl := lv_entry ([.ref m_mo, .int x1] : List Value) (n := 2) (Nat.le_of_ble_eq_true rfl)
  rw [lg_entry_eq]
  generalize (lg_sl ([.ref m_mo, .int x1] : List Value) ++ List.replicate (2 - (lg_sl ([.ref m_mo, .int x1] : List Value)).length) Slot.unset).toArray = ls at hl ⊢
  have hl : lv_has ls 2 [(0, .ref m_mo), (1, .int x1)] := hl
  unfold wp_X8_isMix at hw
  refine lv_iload_n hx hb dX8_isMix_0 rfl (lv_at hl 1 rfl) ?_
  refine lv_iconst (v := 1) hx hb dX8_isMix_1 (by decide) ?_
  refine lv_aload_n hx hb dX8_isMix_2 rfl (lv_at hl 0 rfl) ?_
  refine va_get (D := D) (ci := 8) (v := .ref m_anow) (C := RX8) (T := TX8) (N := 18) hx hb hts inX8 hown hK hP 0 rfl rfl 7 (by decide) fl23 (fun _ h9 => h9) rfl dX8_isMix_3 ?_
  refine vp_callSi (W.runS (As := [.ref m_anow]) (rest := [.int (1 : Int32), .int x1]) ⟨hx, hb, hml, hown, hts⟩ (c_X8_allOf l D G m_anow m_now _ hw) (va_cwS 1 hts gX8_isMix_X8_allOf rfl rfl rfl (by decide +kernel) ⟨(Nat.le_of_ble_eq_true rfl), (Nat.le_of_ble_eq_true rfl)⟩) (xR_ps (hP.sub [1] rfl) hK) rfl rfl hl.1 rfl (lv_room (Nat.le_of_ble_eq_true rfl)) dX8_isMix_6 ⟨Nat.zero_le _, Nat.zero_le _⟩) (fun r1 hw => ?_)
  refine vp_callSi (W.runS (As := [.int x1, .int (1 : Int32), .int r1]) (rest := []) ⟨hx, hb, hml, hown, hts⟩ (c_X8_in l D G x1 (1 : Int32) r1 _ hw) (va_cwS 3 hts gX8_isMix_X8_in rfl rfl rfl (by decide +kernel) ⟨(Nat.le_of_ble_eq_true rfl), (Nat.le_of_ble_eq_true rfl)⟩) (xR_ps (hP.sub [] rfl) hK) rfl rfl hl.1 rfl (lv_room (Nat.le_of_ble_eq_true rfl)) dX8_isMix_9 ⟨Nat.zero_le _, Nat.zero_le _⟩) (fun r2 hw => ?_)
  exact W.zret hx hb hr hw.1 (fun t ht _ => ⟨_, rfl, hw.2, ht⟩) (fun _ h => absurd h List.not_mem_nil) dX8_isMix_12
