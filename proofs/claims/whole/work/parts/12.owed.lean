/-! the relation, and what is owed -/
def i_Rel (k : Nat) (u : SX) (v : SY) : Prop := ∃ (pl : Int32) (w r t s : Nat) (dk ex tr ps ct wl wm rv rs rn re ty se sy ll : Nat → Int32), u = (pl, nI w, nI r, nI t, nI s, dk, ex, tr, ps, ct, wl, wm, rv, rs, rn, re, ty, se, sy) ∧ v = (pl, nI r, nI w, nI t, nI s, dk, ex, tr, ps, ct, rv, rs, rn, re, ll, wm, ty, sy) ∧ sw_I 6 pl ∧ w ≤ 24 ∧ r ≤ 16 ∧ t ≤ 30 ∧ s ≤ 4 * k ∧ sw_X ex ∧ sw_R 16 tr ∧ sw_R 16 ps ∧ sw_W w wl ll ∧ sw_R 31 wm ∧ sw_C rn ∧ sw_E re ∧ sw_T t ty
theorem i_up {k : Nat} {u : SX} {v : SY} (h : i_Rel k u v) : i_Rel (k + 5) u v := by
  obtain ⟨pl, w, r, t, s, dk, ex, tr, ps, ct, wl, wm, rv, rs, rn, re, ty, se, sy, ll, rfl, rfl, hl, hw, hr, ht, hs, hx, htr, hps, hW, hm, hn, he, hT⟩ := h
  exact ⟨_, _, _, _, _, _, _, _, _, _, _, _, _, _, _, _, _, _, _, _, rfl, rfl, hl, hw, hr, ht, by omega, hx, htr, hps, hW, hm, hn, he, hT⟩
theorem i_vc0 : wpX_init (fun u => wpY_init (fun v => i_Rel 0 u v)) := by
  refine ⟨25, sw_xi142 24 0 _ rfl ⟨25, sw_yi134 24 0 _ rfl ?_⟩⟩
  refine ⟨0, 0, 0, 0, 0, _, _, _, _, _, _, _, _, _, _, _, _, _, _, _, rfl, rfl, ⟨0, by decide, rfl⟩, by decide, by decide, by decide, by decide, sw_fill_X _ _ _ (fun _ => Or.inr ⟨0, by decide, rfl⟩), sw_R_0 (by decide), sw_fill_R (m := 7) (by decide) _ _ _ (sw_R_0 (by decide)), fun i hi => absurd hi (by omega), sw_R_0 (by decide), fun _ => ⟨0, ⟨by decide, Or.inl rfl⟩, rfl⟩, fun _ => ⟨0, ⟨by decide, Or.inl rfl⟩, rfl⟩, fun i hi => absurd hi (by omega)⟩
theorem i_vc_dark {k : Nat} {u : SX} {v : SY} (I : i_Rel k u v) (hk : k + 5 ≤ 2560) (v1 : Int32) (v2 : Int32) : wpX_dark (fun r u' => wpY_dark (fun r' v' => r' = r ∧ i_Rel (k + 5) u' v') v v1 (lw_bz v2)) u v1 (lw_bz v2) := by
  obtain ⟨pl, w, r, t, s, dk, ex, tr, ps, ct, wl, wm, rv, rs, rn, re, ty, se, sy, ll, rfl, rfl, hl, hw, hr, ht, hs, hx, htr, hps, hW, hm, hn, he, hT⟩ := I
  unfold wpX_dark
  dsimp only
  rw [sw_xRoom]
  refine ⟨fun a => br_f sw_n10 ⟨sw_I_in a (by decide), nm_e ?_⟩, fun a => br_t rfl ?_⟩
  · unfold wpY_dark
    dsimp only
    rw [sw_yin5]
    exact ⟨fun _ => br_f sw_n10 ⟨sw_I_in a (by decide), nm_e ⟨rfl, ⟨_, _, _, _, _, _, _, _, _, _, _, _, _, _, _, _, _, _, _, _, rfl, rfl, hl, hw, hr, ht, by omega, hx, htr, hps, hW, hm, hn, he, hT⟩⟩⟩, fun z => absurd a z⟩
  · unfold wpY_dark
    dsimp only
    rw [sw_yin5]
    exact ⟨fun z => absurd z a, fun _ => br_t rfl ⟨rfl, ⟨_, _, _, _, _, _, _, _, _, _, _, _, _, _, _, _, _, _, _, _, rfl, rfl, hl, hw, hr, ht, by omega, hx, htr, hps, hW, hm, hn, he, hT⟩⟩⟩
theorem i_vc_link {k : Nat} {u : SX} {v : SY} (I : i_Rel k u v) (hk : k + 5 ≤ 2560) (v1 : Int32) (v2 : Int32) (v3 : Int32) : wpX_link (fun r u' => wpY_link (fun r' v' => r' = r ∧ i_Rel (k + 5) u' v') v v1 v2 v3) u v1 v2 v3 := by
  obtain ⟨pl, w, r, t, s, dk, ex, tr, ps, ct, wl, wm, rv, rs, rn, re, ty, se, sy, ll, rfl, rfl, hl, hw, hr, ht, hs, hx, htr, hps, hW, hm, hn, he, hT⟩ := I
  exact sw_xlink (fun a => sw_ylink (fun _ => ⟨rfl, ⟨_, _, _, _, _, _, _, _, _, _, _, _, _, _, _, _, _, _, _, _, rfl, rfl, hl, hw, hr, ht, by omega, sw_X_u hx a.2.2, htr, hps, hW, hm, hn, he, hT⟩⟩) (fun z => absurd a z)) (fun a => sw_ylink (fun z => absurd z a) (fun _ => ⟨rfl, ⟨_, _, _, _, _, _, _, _, _, _, _, _, _, _, _, _, _, _, _, _, rfl, rfl, hl, hw, hr, ht, by omega, hx, htr, hps, hW, hm, hn, he, hT⟩⟩))
theorem i_vc_thing {k : Nat} {u : SX} {v : SY} (I : i_Rel k u v) (hk : k + 5 ≤ 2560) (v1 : Int32) (v2 : Int32) (v3 : Int32) : wpX_thing (fun r u' => wpY_thing (fun r' v' => r' = r ∧ i_Rel (k + 5) u' v') v v1 v2 v3) u v1 v2 v3 := by
  obtain ⟨pl, w, r, t, s, dk, ex, tr, ps, ct, wl, wm, rv, rs, rn, re, ty, se, sy, ll, rfl, rfl, hl, hw, hr, ht, hs, hx, htr, hps, hW, hm, hn, he, hT⟩ := I
  refine sw_xthing hps (fun a => sw_ything hps (fun _ => ⟨rfl, ?_⟩) (fun z => absurd a z)) (fun a => sw_ything hps (fun z => absurd z a) (fun _ => ⟨rfl, ⟨_, _, _, _, _, _, _, _, _, _, _, _, _, _, _, _, _, _, _, _, rfl, rfl, hl, hw, hr, ht, by omega, hx, htr, hps, hW, hm, hn, he, hT⟩⟩))
  obtain ⟨a1, ⟨m2, hm2, rfl⟩, ⟨m3, hm3, rfl⟩, a4⟩ := a
  exact ⟨_, _, _, _, _, _, _, _, _, _, _, _, _, _, _, _, _, _, _, _, rfl, rfl, hl, hw, hr, ht, by omega, hx, sw_R_u htr _ hm2, sw_R_u hps _ hm3, hW, hm, hn, he, hT⟩
theorem i_vc_word {k : Nat} {u : SX} {v : SY} (I : i_Rel k u v) (hk : k + 5 ≤ 2560) (v1 : Int32) (v2 : Int32) : wpX_word (fun r u' => wpY_word (fun r' v' => r' = r ∧ i_Rel (k + 5) u' v') v v1 v2) u v1 v2 := by
  obtain ⟨pl, w, r, t, s, dk, ex, tr, ps, ct, wl, wm, rv, rs, rn, re, ty, se, sy, ll, rfl, rfl, hl, hw, hr, ht, hs, hx, htr, hps, hW, hm, hn, he, hT⟩ := I
  obtain ⟨a, w2, wl2, wm2, ll2, hw2, hW2, hm2, hX, hY⟩ := sw_word (pl := pl) (rc := nI r) (tc := nI t) (sc := nI s) (dk := dk) (ex := ex) (tr := tr) (ps := ps) (ct := ct) (wl := wl) (wm := wm) (rv := rv) (rs := rs) (rn := rn) (re := re) (ty := ty) (se := se) (sy := sy) (ll := ll) hw hW hm v1 v2
  exact hX _ (hY _ ⟨rfl, ⟨_, _, _, _, _, _, _, _, _, _, _, _, _, _, _, _, _, _, _, _, rfl, rfl, hl, hw2, hr, ht, by omega, hx, htr, hps, hW2, hm2, hn, he, hT⟩⟩)
theorem i_vc_rule {k : Nat} {u : SX} {v : SY} (I : i_Rel k u v) (hk : k + 5 ≤ 2560) (v1 : Int32) (v2 : Int32) (v3 : Int32) (v4 : Int32) : wpX_rule (fun r u' => wpY_rule (fun r' v' => r' = r ∧ i_Rel (k + 5) u' v') v v1 v2 v3 v4) u v1 v2 v3 v4 := by
  obtain ⟨pl, w, r, t, s, dk, ex, tr, ps, ct, wl, wm, rv, rs, rn, re, ty, se, sy, ll, rfl, rfl, hl, hw, hr, ht, hs, hx, htr, hps, hW, hm, hn, he, hT⟩ := I
  refine sw_xrule hr (fun a => sw_yrule hr (fun _ => ⟨rfl, ⟨_, _, _, _, _, _, _, _, _, _, _, _, _, _, _, _, _, _, _, _, rfl, rfl, hl, hw, hr, ht, by omega, hx, htr, hps, hW, hm, hn, he, hT⟩⟩) (fun z => absurd z (by omega)) (fun z => absurd z (by omega))) (fun a b => sw_yrule hr (fun z => absurd a (by omega)) (fun _ _ => ⟨rfl, ?_⟩) (fun _ z => absurd b z)) (fun a b => sw_yrule hr (fun z => absurd a (by omega)) (fun _ z => absurd z b) (fun _ _ => ⟨rfl, ⟨_, _, _, _, _, _, _, _, _, _, _, _, _, _, _, _, _, _, _, _, rfl, rfl, hl, hw, hr, ht, by omega, hx, htr, hps, hW, hm, hn, he, hT⟩⟩))
  exact ⟨_, _, _, _, _, _, _, _, _, _, _, _, _, _, _, _, _, _, _, _, rfl, rfl, hl, hw, by omega, ht, by omega, hx, htr, hps, hW, hm, sw_C_u hn b.2.2.1, sw_E_u he b.2.2.2, hT⟩
theorem i_vc_unrule {k : Nat} {u : SX} {v : SY} (I : i_Rel k u v) (hk : k + 5 ≤ 2560) : wpX_unrule (fun r u' => wpY_unrule (fun r' v' => r' = r ∧ i_Rel (k + 5) u' v') v) u := by
  obtain ⟨pl, w, r, t, s, dk, ex, tr, ps, ct, wl, wm, rv, rs, rn, re, ty, se, sy, ll, rfl, rfl, hl, hw, hr, ht, hs, hx, htr, hps, hW, hm, hn, he, hT⟩ := I
  refine pk_eq r 0 (fun a => ?_) (fun a => ?_)
  · exact pk_eq r 0 (fun _ => ⟨rfl, ⟨_, _, _, _, _, _, _, _, _, _, _, _, _, _, _, _, _, _, _, _, rfl, rfl, hl, hw, hr, ht, by omega, hx, htr, hps, hW, hm, hn, he, hT⟩⟩) (fun z => absurd a z)
  · have e : nI r - 1 = nI (r - 1) := pk_sub (b := 1) (by omega)
    refine nm_r e (pk_eq r 0 (fun z => absurd z a) (fun _ => nm_r e ⟨rfl, ?_⟩))
    exact ⟨_, _, _, _, _, _, _, _, _, _, _, _, _, _, _, _, _, _, _, _, rfl, rfl, hl, hw, by omega, ht, by omega, hx, htr, hps, hW, hm, hn, he, hT⟩
theorem i_vc_type {k : Nat} {u : SX} {v : SY} (I : i_Rel k u v) (hk : k + 5 ≤ 2560) (v1 : Int32) : wpX_type (fun r u' => wpY_type (fun r' v' => r' = r ∧ i_Rel (k + 5) u' v') v v1) u v1 := by
  obtain ⟨pl, w, r, t, s, dk, ex, tr, ps, ct, wl, wm, rv, rs, rn, re, ty, se, sy, ll, rfl, rfl, hl, hw, hr, ht, hs, hx, htr, hps, hW, hm, hn, he, hT⟩ := I
  refine sw_xtype ht (fun a b => sw_ytype ht (fun _ _ => ⟨rfl, ?_⟩) (fun z => absurd ⟨a, b⟩ z)) (fun a => sw_ytype ht (fun b c => absurd ⟨b, c⟩ a) (fun _ => ⟨rfl, ⟨_, _, _, _, _, _, _, _, _, _, _, _, _, _, _, _, _, _, _, _, rfl, rfl, hl, hw, hr, ht, by omega, hx, htr, hps, hW, hm, hn, he, hT⟩⟩))
  exact ⟨_, _, _, _, _, _, _, _, _, _, _, _, _, _, _, _, _, _, _, _, rfl, rfl, hl, hw, hr, by omega, by omega, hx, htr, hps, hW, hm, hn, he, sw_T_u hT b⟩
theorem i_vc_enter {k : Nat} {u : SX} {v : SY} (I : i_Rel k u v) (hk : k + 5 ≤ 2560) : wpX_enter (fun r u' => wpY_enter (fun r' v' => r' = r ∧ i_Rel (k + 5) u' v') v) u := by
  obtain ⟨pl, w, r, t, s, dk, ex, tr, ps, ct, wl, wm, rv, rs, rn, re, ty, se, sy, ll, rfl, rfl, hl, hw, hr, ht, hs, hx, htr, hps, hW, hm, hn, he, hT⟩ := I
  rcases sw_read (pl := pl) (rc := nI r) (sc := nI s) (dk := dk) (ex := ex) (tr := tr) (ps := ps) (ct := ct) (wl := wl) (wm := wm) (rv := rv) (rs := rs) (rn := rn) (re := re) (ty := ty) (sy := sy) (ll := ll) hw ht hW hT hm (t + 1) 0 0 0 se (-1) (-1) (-1) (by omega) (Nat.le_refl _) (Nat.le_refl _) (fun j h1 h2 => by omega) (fun z => absurd z (by decide)) (fun z => absurd z (by decide)) (fun z => absurd z (by decide)) with ⟨cnt, se2, g1, g2, g3, hc, q1, q2, q3, hX, hY⟩ | ⟨se2, hX, hY⟩
  · rw [sw_enc_0, Nat.sub_self] at hX
    refine ⟨t + 2, hX _ ?_⟩
    have hlt : nI t < nI (t + 1) := nI_lt (by omega) (by omega)
    have hm1 : ¬ nI cnt = -1 := by
      intro z
      have : nI cnt < 0 := by rw [z]; decide
      exact nI_pos (by omega) this
    refine br_f hm1 ?_
    by_cases h0 : cnt = 0
    · subst h0
      refine br_t rfl ⟨0 + 1 + (t + 1), hY _ 0 (fun z => br_t hlt (br_t rfl (br_t rfl ⟨rfl, ?_⟩)))⟩
      exact ⟨_, _, _, 0, _, _, _, _, _, _, _, _, _, _, _, _, _, _, _, _, rfl, rfl, hl, hw, hr, Nat.zero_le 30, by omega, hx, htr, hps, hW, hm, hn, he, (fun i hi => absurd hi (Nat.not_lt_zero i))⟩
    · have hn0 : ¬ nI cnt = 0 := nI_ne0 (by omega) (by omega)
      obtain ⟨a, pl2, tr2, ps2, ct2, sy2, s2, i1, i2, i3, i4, fX, fY⟩ := sw_fin (pl := pl) (wc := nI w) (dk := dk) (ex := ex) (tr := tr) (ps := ps) (ct := ct) (wl := wl) (wm := wm) (rv := rv) (rs := rs) (rn := rn) (re := re) (ty := ty) (se := se2) (sy := sy) (ll := ll) (r := r) (s := s) hr hn he htr hl hps hx (by omega) (by omega) hc q1 q2 q3
      refine br_f hn0 (nm_e (nm_e (nm_e ?_)))
      refine fX _ ?_
      refine ⟨0 + 1 + (t + 1), hY _ 0 (fun z => br_t hlt (br_t rfl (br_f hn0 ?_)))⟩
      refine fY _ ?_
      refine ⟨rfl, ?_⟩
      exact ⟨_, _, _, 0, _, _, _, _, _, _, _, _, _, _, _, _, _, _, _, _, rfl, rfl, i1, hw, hr, Nat.zero_le 30, by omega, hx, i2, i3, hW, hm, hn, he, (fun i hi => absurd hi (Nat.not_lt_zero i))⟩
  · rw [sw_enc_0, Nat.sub_self] at hX
    refine ⟨t + 2, hX _ (br_t rfl ⟨0 + 1 + (t + 1), hY _ 0 (fun c g1 g2 g3 z => br_t (nI_lt (by omega) (by omega)) (br_f (by decide) ⟨rfl, ?_⟩))⟩)⟩
    exact ⟨_, _, _, 0, _, _, _, _, _, _, _, _, _, _, _, _, _, _, _, _, rfl, rfl, hl, hw, hr, Nat.zero_le 30, by omega, hx, htr, hps, hW, hm, hn, he, (fun i hi => absurd hi (Nat.not_lt_zero i))⟩
theorem i_vc_command {k : Nat} {u : SX} {v : SY} (I : i_Rel k u v) (hk : k + 5 ≤ 2560) (v1 : Int32) (v2 : Int32) (v3 : Int32) : wpX_command (fun r u' => wpY_command (fun r' v' => r' = r ∧ i_Rel (k + 5) u' v') v v1 v2 v3) u v1 v2 v3 := by
  obtain ⟨pl, w, r, t, s, dk, ex, tr, ps, ct, wl, wm, rv, rs, rn, re, ty, se, sy, ll, rfl, rfl, hl, hw, hr, ht, hs, hx, htr, hps, hW, hm, hn, he, hT⟩ := I
  refine sw_xcmd (fun a => ?_) (fun a => sw_ycmd (fun z => absurd z a) (fun _ => ⟨rfl, ⟨_, _, _, _, _, _, _, _, _, _, _, _, _, _, _, _, _, _, _, _, rfl, rfl, hl, hw, hr, ht, by omega, hx, htr, hps, hW, hm, hn, he, hT⟩⟩))
  have hv : ∃ vb x : Nat, vb < 6 ∧ x < 8 ∧ (vb = 0 → x < 4) ∧ v1 = nI vb ∧ v2 = nI x := by
    obtain ⟨⟨vb, hvb, rfl⟩, h2, _⟩ := a
    rcases h2 with ⟨e, x, hx4, rfl⟩ | ⟨e, x, hx8, rfl⟩
    · exact ⟨vb, x, hvb, by omega, fun _ => hx4, rfl, rfl⟩
    · exact ⟨vb, x, hvb, hx8, fun z => absurd (by rw [z]; rfl) e, rfl, rfl⟩
  obtain ⟨vb, x, hvb, hx8, hx4, e1, e2⟩ := hv
  obtain ⟨b, pl2, tr2, ps2, ct2, sy2, s2, i1, i2, i3, i4, hX, hY⟩ := sw_perform (pl := pl) (wc := nI w) (tc := nI t) (dk := dk) (ex := ex) (tr := tr) (ps := ps) (ct := ct) (wl := wl) (wm := wm) (rv := rv) (rs := rs) (rn := rn) (re := re) (ty := ty) (se := se) (sy := sy) (ll := ll) (r := r) (s := s) (vb := vb) (x := x) (y := v3) hr hn he htr hl hps hx (by omega) hvb hx8 hx4 (fun z => a.2.2 (by rw [e1, z]; rfl))
  rw [← e1, ← e2] at hX hY
  refine hX _ (sw_ycmd (fun _ => hY _ ⟨rfl, ?_⟩) (fun z => absurd a z))
  exact ⟨_, _, _, _, _, _, _, _, _, _, _, _, _, _, _, _, _, _, _, _, rfl, rfl, i1, hw, hr, ht, by omega, hx, i2, i3, hW, hm, hn, he, hT⟩
theorem i_vc_place {k : Nat} {u : SX} {v : SY} (I : i_Rel k u v) (hk : k + 5 ≤ 2560) (v1 : Int32) : wpX_place (fun r => wpY_place (fun r' => r' = r ∧ i_Rel (k + 5) u v) v v1) u v1 := by
  obtain ⟨pl, w, r, t, s, dk, ex, tr, ps, ct, wl, wm, rv, rs, rn, re, ty, se, sy, ll, rfl, rfl, hl, hw, hr, ht, hs, hx, htr, hps, hW, hm, hn, he, hT⟩ := I
  unfold wpX_place
  dsimp only
  rw [sw_xThing]
  refine ⟨fun a => br_f sw_n10 ⟨sw_I_in a (by decide), ?_⟩, fun a => br_t rfl ?_⟩
  · unfold wpY_place
    dsimp only
    rw [sw_yThing]
    exact ⟨fun _ => br_f sw_n10 ⟨sw_I_in a (by decide), ⟨rfl, ⟨_, _, _, _, _, _, _, _, _, _, _, _, _, _, _, _, _, _, _, _, rfl, rfl, hl, hw, hr, ht, by omega, hx, htr, hps, hW, hm, hn, he, hT⟩⟩⟩, fun z => absurd a z⟩
  · unfold wpY_place
    dsimp only
    rw [sw_yThing]
    exact ⟨fun z => absurd z a, fun _ => br_t rfl ⟨rfl, ⟨_, _, _, _, _, _, _, _, _, _, _, _, _, _, _, _, _, _, _, _, rfl, rfl, hl, hw, hr, ht, by omega, hx, htr, hps, hW, hm, hn, he, hT⟩⟩⟩
theorem i_vc_traits {k : Nat} {u : SX} {v : SY} (I : i_Rel k u v) (hk : k + 5 ≤ 2560) (v1 : Int32) : wpX_traits (fun r => wpY_traits (fun r' => r' = r ∧ i_Rel (k + 5) u v) v v1) u v1 := by
  obtain ⟨pl, w, r, t, s, dk, ex, tr, ps, ct, wl, wm, rv, rs, rn, re, ty, se, sy, ll, rfl, rfl, hl, hw, hr, ht, hs, hx, htr, hps, hW, hm, hn, he, hT⟩ := I
  unfold wpX_traits
  dsimp only
  rw [sw_xThing]
  refine ⟨fun a => br_f sw_n10 ⟨sw_I_in a (by decide), ?_⟩, fun a => br_t rfl ?_⟩
  · unfold wpY_traits
    dsimp only
    rw [sw_yThing]
    exact ⟨fun _ => br_f sw_n10 ⟨sw_I_in a (by decide), ⟨rfl, ⟨_, _, _, _, _, _, _, _, _, _, _, _, _, _, _, _, _, _, _, _, rfl, rfl, hl, hw, hr, ht, by omega, hx, htr, hps, hW, hm, hn, he, hT⟩⟩⟩, fun z => absurd a z⟩
  · unfold wpY_traits
    dsimp only
    rw [sw_yThing]
    exact ⟨fun z => absurd z a, fun _ => br_t rfl ⟨rfl, ⟨_, _, _, _, _, _, _, _, _, _, _, _, _, _, _, _, _, _, _, _, rfl, rfl, hl, hw, hr, ht, by omega, hx, htr, hps, hW, hm, hn, he, hT⟩⟩⟩
theorem i_vc_counter {k : Nat} {u : SX} {v : SY} (I : i_Rel k u v) (hk : k + 5 ≤ 2560) (v1 : Int32) : wpX_counter (fun r => wpY_counter (fun r' => r' = r ∧ i_Rel (k + 5) u v) v v1) u v1 := by
  obtain ⟨pl, w, r, t, s, dk, ex, tr, ps, ct, wl, wm, rv, rs, rn, re, ty, se, sy, ll, rfl, rfl, hl, hw, hr, ht, hs, hx, htr, hps, hW, hm, hn, he, hT⟩ := I
  unfold wpX_counter
  dsimp only
  rw [sw_xCtr]
  refine ⟨fun a => br_f sw_n10 ⟨sw_I_in a (by decide), ?_⟩, fun a => br_t rfl ?_⟩
  · unfold wpY_counter
    dsimp only
    rw [sw_yin3]
    exact ⟨fun _ => br_f sw_n10 ⟨sw_I_in a (by decide), ⟨rfl, ⟨_, _, _, _, _, _, _, _, _, _, _, _, _, _, _, _, _, _, _, _, rfl, rfl, hl, hw, hr, ht, by omega, hx, htr, hps, hW, hm, hn, he, hT⟩⟩⟩, fun z => absurd a z⟩
  · unfold wpY_counter
    dsimp only
    rw [sw_yin3]
    exact ⟨fun z => absurd z a, fun _ => br_t rfl ⟨rfl, ⟨_, _, _, _, _, _, _, _, _, _, _, _, _, _, _, _, _, _, _, _, rfl, rfl, hl, hw, hr, ht, by omega, hx, htr, hps, hW, hm, hn, he, hT⟩⟩⟩
theorem i_vc_player {k : Nat} {u : SX} {v : SY} (I : i_Rel k u v) (hk : k + 5 ≤ 2560) : wpX_player (fun r => wpY_player (fun r' => r' = r ∧ i_Rel (k + 5) u v) v) u := by
  obtain ⟨pl, w, r, t, s, dk, ex, tr, ps, ct, wl, wm, rv, rs, rn, re, ty, se, sy, ll, rfl, rfl, hl, hw, hr, ht, hs, hx, htr, hps, hW, hm, hn, he, hT⟩ := I
  exact ⟨rfl, ⟨_, _, _, _, _, _, _, _, _, _, _, _, _, _, _, _, _, _, _, _, rfl, rfl, hl, hw, hr, ht, by omega, hx, htr, hps, hW, hm, hn, he, hT⟩⟩
theorem i_vc_said {k : Nat} {u : SX} {v : SY} (I : i_Rel k u v) (hk : k + 5 ≤ 2560) : wpX_said (fun r => wpY_said (fun r' => r' = r ∧ i_Rel (k + 5) u v) v) u := by
  obtain ⟨pl, w, r, t, s, dk, ex, tr, ps, ct, wl, wm, rv, rs, rn, re, ty, se, sy, ll, rfl, rfl, hl, hw, hr, ht, hs, hx, htr, hps, hW, hm, hn, he, hT⟩ := I
  exact ⟨rfl, ⟨_, _, _, _, _, _, _, _, _, _, _, _, _, _, _, _, _, _, _, _, rfl, rfl, hl, hw, hr, ht, by omega, hx, htr, hps, hW, hm, hn, he, hT⟩⟩
theorem i_vc_visible {k : Nat} {u : SX} {v : SY} (I : i_Rel k u v) (hk : k + 5 ≤ 2560) (v1 : Int32) : wpX_visible (fun r => wpY_visible (fun r' => r' = r ∧ i_Rel (k + 5) u v) v v1) u v1 := by
  obtain ⟨pl, w, r, t, s, dk, ex, tr, ps, ct, wl, wm, rv, rs, rn, re, ty, se, sy, ll, rfl, rfl, hl, hw, hr, ht, hs, hx, htr, hps, hW, hm, hn, he, hT⟩ := I
  unfold wpX_visible
  dsimp only
  rw [sw_xThing]
  refine ⟨fun a => br_f sw_n10 ?_, fun a => br_t rfl ?_⟩
  · obtain ⟨j, hj, rfl⟩ := a
    refine sw_xsee hps hl hj ?_
    cases hb : sw_see ps tr dk pl j
    · refine br_t rfl (sw_ysee hps hl hj ?_)
      rw [hb]
      exact ⟨rfl, ⟨_, _, _, _, _, _, _, _, _, _, _, _, _, _, _, _, _, _, _, _, rfl, rfl, hl, hw, hr, ht, by omega, hx, htr, hps, hW, hm, hn, he, hT⟩⟩
    · refine br_f (by decide) (sw_ysee hps hl hj ?_)
      rw [hb]
      exact ⟨rfl, ⟨_, _, _, _, _, _, _, _, _, _, _, _, _, _, _, _, _, _, _, _, rfl, rfl, hl, hw, hr, ht, by omega, hx, htr, hps, hW, hm, hn, he, hT⟩⟩
  · unfold wpY_visible
    dsimp only
    rw [sw_yThing]
    exact ⟨fun z => absurd z a, fun _ => br_t rfl ⟨rfl, ⟨_, _, _, _, _, _, _, _, _, _, _, _, _, _, _, _, _, _, _, _, rfl, rfl, hl, hw, hr, ht, by omega, hx, htr, hps, hW, hm, hn, he, hT⟩⟩⟩
theorem i_vc_saying {k : Nat} {u : SX} {v : SY} (I : i_Rel k u v) (hk : k + 5 ≤ 2560) (v1 : Int32) : wpX_saying (fun r => wpY_saying (fun r' => r' = r ∧ i_Rel (k + 5) u v) v v1) u v1 := by
  obtain ⟨pl, w, r, t, s, dk, ex, tr, ps, ct, wl, wm, rv, rs, rn, re, ty, se, sy, ll, rfl, rfl, hl, hw, hr, ht, hs, hx, htr, hps, hW, hm, hn, he, hT⟩ := I
  have hy0 : ∀ post : Int32 → Prop, ¬ sw_I 40 v1 → post (-1) → wpY_saying post (pl, nI r, nI w, nI t, nI s, dk, ex, tr, ps, ct, rv, rs, rn, re, ll, wm, ty, sy) v1 := by
    intro post a h
    unfold wpY_saying
    dsimp only
    rw [sw_yin39]
    exact ⟨fun z => absurd z a, fun _ => br_t rfl h⟩
  refine br_c (fun a => hy0 _ (sw_I_lt0 (by decide) a) ⟨rfl, ⟨_, _, _, _, _, _, _, _, _, _, _, _, _, _, _, _, _, _, _, _, rfl, rfl, hl, hw, hr, ht, by omega, hx, htr, hps, hW, hm, hn, he, hT⟩⟩) (fun a => ?_)
  obtain ⟨j, hj, rfl⟩ := nI_of a
  refine pk_le 40 j (fun b => hy0 _ (fun z => ?_) ⟨rfl, ⟨_, _, _, _, _, _, _, _, _, _, _, _, _, _, _, _, _, _, _, _, rfl, rfl, hl, hw, hr, ht, by omega, hx, htr, hps, hW, hm, hn, he, hT⟩⟩) (fun b => ?_)
  · have := (sw_I_nI hj (by decide)).mp z
    omega
  · have hv : vp_in (nI j) 40 := vp_in_nI b (by decide)
    have hy1 : ∀ post : Int32 → Prop, ((nI s ≤ nI j → post (-1)) ∧ (¬ nI s ≤ nI j → (vp_in (nI j) 40 ∧ post (sy (nI j).toNatClampNeg)))) → wpY_saying post (pl, nI r, nI w, nI t, nI s, dk, ex, tr, ps, ct, rv, rs, rn, re, ll, wm, ty, sy) (nI j) := by
      intro post h
      unfold wpY_saying
      dsimp only
      rw [sw_yin39]
      exact ⟨fun _ => br_f sw_n10 h, fun z => absurd ⟨j, b, rfl⟩ z⟩
    refine pk_lt j s (fun c => ⟨hv, hy1 _ (br_f (nI_ge c (by omega)) ⟨hv, rfl, ⟨_, _, _, _, _, _, _, _, _, _, _, _, _, _, _, _, _, _, _, _, rfl, rfl, hl, hw, hr, ht, by omega, hx, htr, hps, hW, hm, hn, he, hT⟩⟩)⟩) (fun c => hy1 _ (br_t (nI_le c hj) ⟨rfl, ⟨_, _, _, _, _, _, _, _, _, _, _, _, _, _, _, _, _, _, _, _, rfl, rfl, hl, hw, hr, ht, by omega, hx, htr, hps, hW, hm, hn, he, hT⟩⟩))
