/-! what the commands do, one answer for both sides -/
section
variable {pl wc rc tc sc : Int32} {dk ex tr ps ct wl wm rv rs rn re ty se sy ll : Nat → Int32}
theorem sw_xheld {post : Int32 → Prop} {j : Nat} (hj : j < 8) (h : post (sw_b (decide (ps j = 6)))) : wpX_isHeld post (pl, wc, rc, tc, sc, dk, ex, tr, ps, ct, wl, wm, rv, rs, rn, re, ty, se, sy) (nI j) := by
  refine ⟨vp_in_nI hj (by decide), ?_⟩
  rw [nI_clamp (by omega)]
  by_cases e : ps j = 6
  · rw [decide_eq_true e] at h
    exact br_t e h
  · rw [decide_eq_false e] at h
    exact br_f e h
theorem sw_take (hp : sw_R 16 ps) (hl : sw_I 6 pl) {x : Nat} (hx : x < 8) : ∃ (a : Int32) (ps' : Nat → Int32), sw_R 16 ps' ∧ (∀ post : Int32 → SX → Prop, post a (pl, wc, rc, tc, sc, dk, ex, tr, ps', ct, wl, wm, rv, rs, rn, re, ty, se, sy) → wpX_performTake post (pl, wc, rc, tc, sc, dk, ex, tr, ps, ct, wl, wm, rv, rs, rn, re, ty, se, sy) (nI x)) ∧ (∀ post : Int32 → SY → Prop, post a (pl, rc, wc, tc, sc, dk, ex, tr, ps', ct, rv, rs, rn, re, ll, wm, ty, sy) → wpY_take post (pl, rc, wc, tc, sc, dk, ex, tr, ps, ct, rv, rs, rn, re, ll, wm, ty, sy) (nI x)) := by
  have hv : vp_in (nI x) 8 := vp_in_nI hx (by decide)
  have hc : (nI x).toNatClampNeg = x := nI_clamp (by omega)
  cases hs : sw_see ps tr dk pl x
  · refine ⟨2, ps, hp, fun post h => ?_, fun post h => ?_⟩
    · unfold wpX_performTake
      refine sw_xsee hp hl hx ?_
      rw [hs]
      exact br_t rfl h
    · unfold wpY_take
      refine sw_ysee hp hl hx ?_
      rw [hs]
      exact br_t rfl h
  · by_cases h6 : ps x = 6
    · refine ⟨3, ps, hp, fun post h => ?_, fun post h => ?_⟩
      · unfold wpX_performTake
        refine sw_xsee hp hl hx ?_
        rw [hs]
        refine br_f (by decide) (sw_xheld hx ?_)
        rw [decide_eq_true h6]
        exact br_f (by decide) h
      · unfold wpY_take
        refine sw_ysee hp hl hx ?_
        rw [hs]
        refine br_f (by decide) ⟨hv, ?_⟩
        rw [hc]
        exact br_t h6 h
    · by_cases h1 : tr x &&& 1 = 0
      · have h1' : ¬ tr x &&& 1 = 1 := by rw [h1]; decide
        by_cases h4 : sw_ci ps 6 8 0 0 < 4
        · refine ⟨0, upd ps x 6, sw_R_u hp x (m := 6) (by decide), fun post h => ?_, fun post h => ?_⟩
          · unfold wpX_performTake
            refine sw_xsee hp hl hx ?_
            rw [hs]
            refine br_f (by decide) (sw_xheld hx ?_)
            rw [decide_eq_false h6]
            refine br_t rfl (sw_xht hx 1 ?_)
            rw [decide_eq_false (fun z => z h1)]
            exact br_t rfl (sw_xc 6 (br_t (nI_lt (b := 4) h4 (by decide)) ⟨hv, nm_r (by rw [hc]) h⟩))
          · unfold wpY_take
            refine sw_ysee hp hl hx ?_
            rw [hs]
            refine br_f (by decide) ⟨hv, ?_⟩
            rw [hc]
            exact br_f h6 ⟨hv, br_f h1' (sw_yc 6 (br_t (nI_lt (b := 4) h4 (by decide)) ⟨hv, nm_e h⟩))⟩
        · have h4' : ¬ nI (sw_ci ps 6 8 0 0) < 4 := nI_nlt (b := 4) (by omega) (by have := sw_ci_le ps 6 8 0 0; omega)
          refine ⟨5, ps, hp, fun post h => ?_, fun post h => ?_⟩
          · unfold wpX_performTake
            refine sw_xsee hp hl hx ?_
            rw [hs]
            refine br_f (by decide) (sw_xheld hx ?_)
            rw [decide_eq_false h6]
            refine br_t rfl (sw_xht hx 1 ?_)
            rw [decide_eq_false (fun z => z h1)]
            exact br_t rfl (sw_xc 6 (br_f h4' h))
          · unfold wpY_take
            refine sw_ysee hp hl hx ?_
            rw [hs]
            refine br_f (by decide) ⟨hv, ?_⟩
            rw [hc]
            exact br_f h6 ⟨hv, br_f h1' (sw_yc 6 (br_f h4' h))⟩
      · have h1' : tr x &&& 1 = 1 := (sw_and1 (tr x)).resolve_left h1
        refine ⟨4, ps, hp, fun post h => ?_, fun post h => ?_⟩
        · unfold wpX_performTake
          refine sw_xsee hp hl hx ?_
          rw [hs]
          refine br_f (by decide) (sw_xheld hx ?_)
          rw [decide_eq_false h6]
          refine br_t rfl (sw_xht hx 1 ?_)
          rw [decide_eq_true h1]
          exact br_f (by decide) h
        · unfold wpY_take
          refine sw_ysee hp hl hx ?_
          rw [hs]
          refine br_f (by decide) ⟨hv, ?_⟩
          rw [hc]
          exact br_f h6 ⟨hv, br_t h1' h⟩
theorem sw_put (hp : sw_R 16 ps) (hl : sw_I 6 pl) {x y : Nat} (hx : x < 8) (hy : y < 8) : ∃ (a : Int32) (ps' : Nat → Int32), sw_R 16 ps' ∧ (∀ post : Int32 → SX → Prop, post a (pl, wc, rc, tc, sc, dk, ex, tr, ps', ct, wl, wm, rv, rs, rn, re, ty, se, sy) → wpX_performPut post (pl, wc, rc, tc, sc, dk, ex, tr, ps, ct, wl, wm, rv, rs, rn, re, ty, se, sy) (nI x) (nI y)) ∧ (∀ post : Int32 → SY → Prop, post a (pl, rc, wc, tc, sc, dk, ex, tr, ps', ct, rv, rs, rn, re, ll, wm, ty, sy) → wpY_put post (pl, rc, wc, tc, sc, dk, ex, tr, ps, ct, rv, rs, rn, re, ll, wm, ty, sy) (nI x) (nI y)) := by
  have hv : vp_in (nI x) 8 := vp_in_nI hx (by decide)
  have hc : (nI x).toNatClampNeg = x := nI_clamp (by omega)
  have hvy : vp_in (nI y) 8 := vp_in_nI hy (by decide)
  have hcy : (nI y).toNatClampNeg = y := nI_clamp (by omega)
  have h8y : (8 : Int32) + nI y = nI (8 + y) := nI_add 8 y
  by_cases h6 : ps x = 6
  · cases hs : sw_see ps tr dk pl y
    · refine ⟨2, ps, hp, fun post h => ?_, fun post h => ?_⟩
      · unfold wpX_performPut
        refine sw_xheld hx ?_
        rw [decide_eq_true h6]
        refine br_f (by decide) (sw_xsee hp hl hy ?_)
        rw [hs]
        exact br_t rfl h
      · unfold wpY_put
        refine ⟨hv, ?_⟩
        rw [hc]
        refine br_t h6 (sw_ysee hp hl hy ?_)
        rw [hs]
        exact br_t rfl h
    · by_cases h2 : tr y &&& 2 = 0
      · refine ⟨7, ps, hp, fun post h => ?_, fun post h => ?_⟩
        · unfold wpX_performPut
          refine sw_xheld hx ?_
          rw [decide_eq_true h6]
          refine br_f (by decide) (sw_xsee hp hl hy ?_)
          rw [hs]
          refine br_f (by decide) (nm_r h8y (sw_xht hy 2 ?_))
          rw [decide_eq_false (fun z => z h2)]
          exact br_t rfl h
        · unfold wpY_put
          refine ⟨hv, ?_⟩
          rw [hc]
          refine br_t h6 (sw_ysee hp hl hy ?_)
          rw [hs]
          refine br_f (by decide) ⟨hvy, ?_⟩
          rw [hcy]
          exact br_t h2 h
      · cases hw : sw_w (sw_n ps) x 8 (8 + y)
        · have hw' : sw_w (sw_n ps) x 8 (y + 8) = false := by rw [Nat.add_comm]; exact hw
          by_cases h4 : tr y &&& 4 = 0
          · refine ⟨8, ps, hp, fun post h => ?_, fun post h => ?_⟩
            · unfold wpX_performPut
              refine sw_xheld hx ?_
              rw [decide_eq_true h6]
              refine br_f (by decide) (sw_xsee hp hl hy ?_)
              rw [hs]
              refine br_f (by decide) (nm_r h8y (sw_xht hy 2 ?_))
              rw [decide_eq_true h2]
              refine br_f (by decide) (sw_xw hp hx (by omega) ?_)
              rw [hw]
              refine br_t rfl (sw_xht hy 4 ?_)
              rw [decide_eq_false (fun z => z h4)]
              exact br_t rfl h
            · unfold wpY_put
              refine ⟨hv, ?_⟩
              rw [hc]
              refine br_t h6 (sw_ysee hp hl hy ?_)
              rw [hs]
              refine br_f (by decide) ⟨hvy, ?_⟩
              rw [hcy]
              refine br_f h2 (sw_yw hp hx hy ?_)
              rw [hw']
              exact br_t rfl ⟨hvy, br_t h4 h⟩
          · by_cases h3 : sw_ci ps (nI (8 + y)) 8 0 0 < 3
            · refine ⟨0, upd ps x (nI (8 + y)), sw_R_u hp x (by omega), fun post h => ?_, fun post h => ?_⟩
              · unfold wpX_performPut
                refine sw_xheld hx ?_
                rw [decide_eq_true h6]
                refine br_f (by decide) (sw_xsee hp hl hy ?_)
                rw [hs]
                refine br_f (by decide) (nm_r h8y (sw_xht hy 2 ?_))
                rw [decide_eq_true h2]
                refine br_f (by decide) (sw_xw hp hx (by omega) ?_)
                rw [hw]
                refine br_t rfl (sw_xht hy 4 ?_)
                rw [decide_eq_true h4]
                exact br_f (by decide) (sw_xc _ (br_t (nI_lt (b := 3) h3 (by decide)) ⟨hv, nm_r (by rw [hc]) h⟩))
              · unfold wpY_put
                refine ⟨hv, ?_⟩
                rw [hc]
                refine br_t h6 (sw_ysee hp hl hy ?_)
                rw [hs]
                refine br_f (by decide) ⟨hvy, ?_⟩
                rw [hcy]
                refine br_f h2 (sw_yw hp hx hy ?_)
                rw [hw']
                refine br_t rfl ⟨hvy, br_f h4 ?_⟩
                rw [h8y]
                exact sw_yc _ (br_t (nI_lt (b := 3) h3 (by decide)) ⟨hv, nm_e h⟩)
            · have h3' : ¬ nI (sw_ci ps (nI (8 + y)) 8 0 0) < 3 := nI_nlt (b := 3) (by omega) (by have := sw_ci_le ps (nI (8 + y)) 8 0 0; omega)
              refine ⟨5, ps, hp, fun post h => ?_, fun post h => ?_⟩
              · unfold wpX_performPut
                refine sw_xheld hx ?_
                rw [decide_eq_true h6]
                refine br_f (by decide) (sw_xsee hp hl hy ?_)
                rw [hs]
                refine br_f (by decide) (nm_r h8y (sw_xht hy 2 ?_))
                rw [decide_eq_true h2]
                refine br_f (by decide) (sw_xw hp hx (by omega) ?_)
                rw [hw]
                refine br_t rfl (sw_xht hy 4 ?_)
                rw [decide_eq_true h4]
                exact br_f (by decide) (sw_xc _ (br_f h3' h))
              · unfold wpY_put
                refine ⟨hv, ?_⟩
                rw [hc]
                refine br_t h6 (sw_ysee hp hl hy ?_)
                rw [hs]
                refine br_f (by decide) ⟨hvy, ?_⟩
                rw [hcy]
                refine br_f h2 (sw_yw hp hx hy ?_)
                rw [hw']
                refine br_t rfl ⟨hvy, br_f h4 ?_⟩
                rw [h8y]
                exact sw_yc _ (br_f h3' h)
        · have hw' : sw_w (sw_n ps) x 8 (y + 8) = true := by rw [Nat.add_comm]; exact hw
          refine ⟨7, ps, hp, fun post h => ?_, fun post h => ?_⟩
          · unfold wpX_performPut
            refine sw_xheld hx ?_
            rw [decide_eq_true h6]
            refine br_f (by decide) (sw_xsee hp hl hy ?_)
            rw [hs]
            refine br_f (by decide) (nm_r h8y (sw_xht hy 2 ?_))
            rw [decide_eq_true h2]
            refine br_f (by decide) (sw_xw hp hx (by omega) ?_)
            rw [hw]
            exact br_f (by decide) h
          · unfold wpY_put
            refine ⟨hv, ?_⟩
            rw [hc]
            refine br_t h6 (sw_ysee hp hl hy ?_)
            rw [hs]
            refine br_f (by decide) ⟨hvy, ?_⟩
            rw [hcy]
            refine br_f h2 (sw_yw hp hx hy ?_)
            rw [hw']
            exact br_f (by decide) h
  · refine ⟨6, ps, hp, fun post h => ?_, fun post h => ?_⟩
    · unfold wpX_performPut
      refine sw_xheld hx ?_
      rw [decide_eq_false h6]
      exact br_t rfl h
    · unfold wpY_put
      refine ⟨hv, ?_⟩
      rw [hc]
      exact br_f h6 h
theorem sw_turn (hp : sw_R 16 ps) (ht : sw_R 16 tr) (hl : sw_I 6 pl) {x : Nat} (hx : x < 8) (o : Int32) : ∃ (a : Int32) (tr' : Nat → Int32), sw_R 16 tr' ∧ (∀ post : Int32 → SX → Prop, post a (pl, wc, rc, tc, sc, dk, ex, tr', ps, ct, wl, wm, rv, rs, rn, re, ty, se, sy) → wpX_performTurn post (pl, wc, rc, tc, sc, dk, ex, tr, ps, ct, wl, wm, rv, rs, rn, re, ty, se, sy) (nI x) o) ∧ (∀ post : Int32 → SY → Prop, post a (pl, rc, wc, tc, sc, dk, ex, tr', ps, ct, rv, rs, rn, re, ll, wm, ty, sy) → wpY_open post (pl, rc, wc, tc, sc, dk, ex, tr, ps, ct, rv, rs, rn, re, ll, wm, ty, sy) (nI x) o) := by
  have hv : vp_in (nI x) 8 := vp_in_nI hx (by decide)
  have hc : (nI x).toNatClampNeg = x := nI_clamp (by omega)
  cases hs : sw_see ps tr dk pl x
  · refine ⟨2, tr, ht, fun post h => ?_, fun post h => ?_⟩
    · unfold wpX_performTurn
      refine sw_xsee hp hl hx ?_
      rw [hs]
      exact br_t rfl h
    · unfold wpY_open
      refine sw_ysee hp hl hx ?_
      rw [hs]
      exact br_t rfl h
  · by_cases h2 : tr x &&& 2 = 0
    · refine ⟨7, tr, ht, fun post h => ?_, fun post h => ?_⟩
      · unfold wpX_performTurn
        refine sw_xsee hp hl hx ?_
        rw [hs]
        refine br_f (by decide) (sw_xht hx 2 ?_)
        rw [decide_eq_false (fun z => z h2)]
        exact br_t rfl h
      · unfold wpY_open
        refine sw_ysee hp hl hx ?_
        rw [hs]
        refine br_f (by decide) ⟨hv, ?_⟩
        rw [hc]
        exact br_t h2 h
    · have hy : ∀ post : Int32 → SY → Prop, wY_open_40 post (nI x) o (sw_b (decide (¬ tr x &&& 4 = 0))) pl rc wc tc sc dk ex tr ps ct rv rs rn re ll wm ty sy → wpY_open post (pl, rc, wc, tc, sc, dk, ex, tr, ps, ct, rv, rs, rn, re, ll, wm, ty, sy) (nI x) o := by
        intro post h
        unfold wpY_open
        refine sw_ysee hp hl hx ?_
        rw [hs]
        refine br_f (by decide) ⟨hv, ?_⟩
        rw [hc]
        refine br_f h2 ⟨hv, ?_⟩
        by_cases h4 : tr x &&& 4 = 0
        · rw [decide_eq_false (fun z => z h4)] at h
          exact br_t h4 h
        · rw [decide_eq_true h4] at h
          exact br_f h4 h
      by_cases ho : sw_b (decide (¬ tr x &&& 4 = 0)) = o
      · refine ⟨10, tr, ht, fun post h => ?_, fun post h => hy post (br_t ho h)⟩
        unfold wpX_performTurn
        refine sw_xsee hp hl hx ?_
        rw [hs]
        refine br_f (by decide) (sw_xht hx 2 ?_)
        rw [decide_eq_true h2]
        exact br_f (by decide) (sw_xht hx 4 (br_t ho h))
      · obtain ⟨q, hq, eq⟩ := ht x
        have e4 : tr x ^^^ 4 = nI (q ^^^ 4) := by rw [eq]; exact (sw_x4 q hq).1
        refine ⟨0, upd tr x (nI (q ^^^ 4)), sw_R_u ht x (sw_x4 q hq).2, fun post h => ?_, fun post h => hy post (br_f ho ⟨hv, hv, nm_r (by rw [hc, e4]) h⟩)⟩
        unfold wpX_performTurn
        refine sw_xsee hp hl hx ?_
        rw [hs]
        refine br_f (by decide) (sw_xht hx 2 ?_)
        rw [decide_eq_true h2]
        exact br_f (by decide) (sw_xht hx 4 (br_f ho ⟨hv, hv, nm_r (by rw [hc, e4]) h⟩))
def sw_X (ex : Nat → Int32) : Prop := ∀ j, ex j = -1 ∨ sw_I 6 (ex j)
theorem sw_go (hl : sw_I 6 pl) (hx : sw_X ex) {x : Nat} (hd : x < 4) : ∃ (a pl' : Int32), sw_I 6 pl' ∧ (∀ post : Int32 → SX → Prop, post a (pl', wc, rc, tc, sc, dk, ex, tr, ps, ct, wl, wm, rv, rs, rn, re, ty, se, sy) → wpX_performGo post (pl, wc, rc, tc, sc, dk, ex, tr, ps, ct, wl, wm, rv, rs, rn, re, ty, se, sy) (nI x)) ∧ (∀ post : Int32 → SY → Prop, post a (pl', rc, wc, tc, sc, dk, ex, tr, ps, ct, rv, rs, rn, re, ll, wm, ty, sy) → wpY_go post (pl, rc, wc, tc, sc, dk, ex, tr, ps, ct, rv, rs, rn, re, ll, wm, ty, sy) (nI x)) := by
  obtain ⟨q, hq, rfl⟩ := hl
  have e1 : nI q * 4 + nI x = nI (q * 4 + x) := by
    rw [← nI_add, ← pk_mul]
    rfl
  have e2 : 4 * nI q + nI x = nI (q * 4 + x) := by
    rw [← nI_add, Nat.mul_comm, ← pk_mul]
    rfl
  have hv : vp_in (nI (q * 4 + x)) 24 := vp_in_nI (by omega) (by decide)
  have hc : (nI (q * 4 + x)).toNatClampNeg = q * 4 + x := nI_clamp (by omega)
  rcases hx (q * 4 + x) with e | ⟨m, hm, e⟩
  · refine ⟨9, nI q, ⟨q, hq, rfl⟩, fun post h => ?_, fun post h => ?_⟩
    · unfold wpX_performGo
      dsimp only
      rw [e1]
      exact ⟨hv, nm_r (e' := -1) (by rw [hc]; exact e) (br_t rfl h)⟩
    · unfold wpY_go
      dsimp only
      rw [e2]
      exact ⟨hv, nm_r (e' := -1) (by rw [hc]; exact e) (br_f (by decide) h)⟩
  · have hm1 : ¬ nI m = -1 := by
      intro z
      have : nI m < 0 := by rw [z]; decide
      exact nI_pos (by omega) this
    refine ⟨0, nI m, ⟨m, hm, rfl⟩, fun post h => ?_, fun post h => ?_⟩
    · unfold wpX_performGo
      dsimp only
      rw [e1]
      exact ⟨hv, nm_r (by rw [hc]; exact e) (br_f hm1 h)⟩
    · unfold wpY_go
      dsimp only
      rw [e2]
      exact ⟨hv, nm_r (by rw [hc]; exact e) (br_t (nI_pos' (by omega)) h)⟩
end
