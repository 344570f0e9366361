/-! conditions and effects, one value for both sides -/
theorem sw_and3' {a : Nat} (h : a < 4) : nI a &&& 3 = nI a := by rw [sw_and3 (by omega), Nat.mod_eq_of_lt h]
theorem sw_and7' {a : Nat} (h : a < 8) : nI a &&& 7 = nI a := by rw [pk_andN (n := a) (m := 7) (by omega) 3 (by decide), Nat.mod_eq_of_lt h]
theorem sw_first {q : Nat} (h : q < 2048) : (nI q >>> ((2 : Int32) &&& 31)) &&& 15 = nI (q / 4 % 16) := by rw [sw_shr2 h, sw_and15 (by omega)]
theorem sw_second {q : Nat} (h : q < 2048) : (nI q >>> ((6 : Int32) &&& 31)) &&& 15 = nI (q / 64 % 16) := by rw [sw_shr6 h, sw_and15 (by omega)]
section
variable {pl wc rc tc sc : Int32} {dk ex tr ps ct wl wm rv rs rn re ty se sy ll : Nat → Int32}
theorem sw_xho {post : Int32 → Prop} {q : Nat} (hq : q < 2048) {k : Int32} (hk : nI q &&& 3 = k) (h : ((k < 0 → (wpX_hasTrait (fun r_6 => (narrow .boolean (.int r_6) = .int r_6 ∧ (post r_6))) (pl, wc, rc, tc, sc, dk, ex, tr, ps, ct, wl, wm, rv, rs, rn, re, ty, se, sy) (nI (q / 4 % 16)) ((1 : Int32) <<< (nI (q / 64 % 16) &&& 31)))) ∧ (¬ k < 0 → (((2 < k → (wpX_hasTrait (fun r_27 => (narrow .boolean (.int r_27) = .int r_27 ∧ (post r_27))) (pl, wc, rc, tc, sc, dk, ex, tr, ps, ct, wl, wm, rv, rs, rn, re, ty, se, sy) (nI (q / 4 % 16)) ((1 : Int32) <<< (nI (q / 64 % 16) &&& 31)))) ∧ (¬ 2 < k → (((k = 0 → (post 1)) ∧ (¬ k = 0 → (((k = 1 → (vp_in (nI (q / 4 % 16)) 4 ∧ ((((ct (nI (q / 4 % 16)).toNatClampNeg) < nI (q / 64 % 16) → (post 0)) ∧ (¬ (ct (nI (q / 4 % 16)).toNatClampNeg) < nI (q / 64 % 16) → (post 1)))))) ∧ (¬ k = 1 → (((k = 2 → (vp_in (nI (q / 4 % 16)) 8 ∧ ((((ps (nI (q / 4 % 16)).toNatClampNeg) = nI (q / 64 % 16) → (post 1)) ∧ (¬ (ps (nI (q / 4 % 16)).toNatClampNeg) = nI (q / 64 % 16) → (post 0)))))) ∧ (¬ k = 2 → (True)))))))))))))))) : wpX_holds post (pl, wc, rc, tc, sc, dk, ex, tr, ps, ct, wl, wm, rv, rs, rn, re, ty, se, sy) (nI q) := by
  subst hk
  rw [← sw_first hq, ← sw_second hq] at h
  exact h
theorem sw_yho {post : Int32 → Prop} {q : Nat} (hq : q < 2048) {k : Int32} (hk : nI q &&& 3 = k) (h : (((k = 1 → (vp_in (nI (q / 4 % 16) &&& 3) 4 ∧ ((((ct (nI (q / 4 % 16) &&& 3).toNatClampNeg) < nI (q / 64) → (post 0)) ∧ (¬ (ct (nI (q / 4 % 16) &&& 3).toNatClampNeg) < nI (q / 64) → (post 1)))))) ∧ (¬ k = 1 → (((k = 2 → (vp_in (nI (q / 4 % 16) &&& 7) 8 ∧ ((((ps (nI (q / 4 % 16) &&& 7).toNatClampNeg) = nI (q / 64) → (post 1)) ∧ (¬ (ps (nI (q / 4 % 16) &&& 7).toNatClampNeg) = nI (q / 64) → (post 0)))))) ∧ (¬ k = 2 → (((k = 0 → (post 1)) ∧ (¬ k = 0 → (vp_in (nI (q / 4 % 16) &&& 7) 8 ∧ ((((((tr (nI (q / 4 % 16) &&& 7).toNatClampNeg) >>> (nI (q / 64) &&& 31)) &&& 1) = 1 → (post 1)) ∧ (¬ (((tr (nI (q / 4 % 16) &&& 7).toNatClampNeg) >>> (nI (q / 64) &&& 31)) &&& 1) = 1 → (post 0))))))))))))))) : wpY_holds post (pl, rc, wc, tc, sc, dk, ex, tr, ps, ct, rv, rs, rn, re, ll, wm, ty, sy) (nI q) :=
  nm_r hk (nm_r (sw_first hq) (nm_r (sw_shr6 hq) h))
theorem sw_holds {q : Nat} (hq : sw_cv q) (ht : sw_R 16 tr) : ∃ b : Bool, (∀ post : Int32 → Prop, post (sw_b b) → wpX_holds post (pl, wc, rc, tc, sc, dk, ex, tr, ps, ct, wl, wm, rv, rs, rn, re, ty, se, sy) (nI q)) ∧ (∀ post : Int32 → Prop, post (sw_b b) → wpY_holds post (pl, rc, wc, tc, sc, dk, ex, tr, ps, ct, rv, rs, rn, re, ll, wm, ty, sy) (nI q)) := by
  obtain ⟨hl, hk⟩ := hq
  have hB : q / 64 % 16 = q / 64 := by omega
  have hq2 : q < 2048 := by omega
  rcases hk with k0 | ⟨k1, ha⟩ | ⟨k2, ha⟩ | ⟨k3, ha, hb⟩
  · have e3 : nI q &&& 3 = 0 := by rw [sw_and3 hq2, k0]; rfl
    exact ⟨true, fun post h => sw_xho hq2 e3 (br_f (by decide) (br_f (by decide) (br_t rfl h))), fun post h => sw_yho hq2 e3 (br_f (by decide) (br_f (by decide) (br_t rfl h)))⟩
  · have e3 : nI q &&& 3 = 1 := by rw [sw_and3 hq2, k1]; rfl
    have hv : vp_in (nI (q / 4 % 16)) 4 := vp_in_nI ha (by decide)
    have hm := sw_and3' ha
    by_cases e : ct (nI (q / 4 % 16)).toNatClampNeg < nI (q / 64)
    · exact ⟨false, fun post h => sw_xho hq2 e3 (br_f (by decide) (br_f (by decide) (br_f (by decide) (br_t rfl ⟨hv, br_t (by rw [hB]; exact e) h⟩)))), fun post h => sw_yho hq2 e3 (br_t rfl (by rw [hm]; exact ⟨hv, br_t e h⟩))⟩
    · exact ⟨true, fun post h => sw_xho hq2 e3 (br_f (by decide) (br_f (by decide) (br_f (by decide) (br_t rfl ⟨hv, br_f (by rw [hB]; exact e) h⟩)))), fun post h => sw_yho hq2 e3 (br_t rfl (by rw [hm]; exact ⟨hv, br_f e h⟩))⟩
  · have e3 : nI q &&& 3 = 2 := by rw [sw_and3 hq2, k2]; rfl
    have hv : vp_in (nI (q / 4 % 16)) 8 := vp_in_nI ha (by decide)
    have hm := sw_and7' ha
    by_cases e : ps (nI (q / 4 % 16)).toNatClampNeg = nI (q / 64)
    · exact ⟨true, fun post h => sw_xho hq2 e3 (br_f (by decide) (br_f (by decide) (br_f (by decide) (br_f (by decide) (br_t rfl ⟨hv, br_t (by rw [hB]; exact e) h⟩))))), fun post h => sw_yho hq2 e3 (br_f (by decide) (br_t rfl (by rw [hm]; exact ⟨hv, br_t e h⟩)))⟩
    · exact ⟨false, fun post h => sw_xho hq2 e3 (br_f (by decide) (br_f (by decide) (br_f (by decide) (br_f (by decide) (br_t rfl ⟨hv, br_f (by rw [hB]; exact e) h⟩))))), fun post h => sw_yho hq2 e3 (br_f (by decide) (br_t rfl (by rw [hm]; exact ⟨hv, br_f e h⟩)))⟩
  · have e3 : nI q &&& 3 = 3 := by rw [sw_and3 hq2, k3]; rfl
    have hv : vp_in (nI (q / 4 % 16)) 8 := vp_in_nI ha (by decide)
    have hm := sw_and7' ha
    have hc : (nI (q / 4 % 16)).toNatClampNeg = q / 4 % 16 := nI_clamp (by omega)
    obtain ⟨m, hm16, em⟩ := ht (q / 4 % 16)
    have hbit := sw_bit m hm16 (q / 64) hb
    refine ⟨decide (¬ tr (q / 4 % 16) &&& ((1 : Int32) <<< (nI (q / 64) &&& 31)) = 0), fun post h => ?_, fun post h => ?_⟩
    · refine sw_xho hq2 e3 (br_f (by decide) (br_t (by decide) ?_))
      rw [hB]
      exact sw_xht ha _ ⟨sw_nbb _, h⟩
    · refine sw_yho hq2 e3 (br_f (by decide) (br_f (by decide) (br_f (by decide) ?_)))
      rw [hm, hc]
      refine ⟨hv, ?_⟩
      rw [em] at h ⊢
      by_cases e : nI m &&& ((1 : Int32) <<< (nI (q / 64) &&& 31)) = 0
      · rw [decide_eq_false (fun z => z e)] at h
        exact br_f (hbit.mp e) h
      · rw [decide_eq_true e] at h
        exact br_t (Classical.byContradiction (fun z => e (hbit.mpr z))) h
theorem sw_xef {post : SX → Prop} {q : Nat} (hq : q < 2048) {k : Int32} (hk : nI q &&& 3 = k) (h : ((k < 0 → (post (nI (q / 4 % 16), wc, rc, tc, sc, dk, ex, tr, ps, ct, wl, wm, rv, rs, rn, re, ty, se, sy))) ∧ (¬ k < 0 → (((2 < k → (post (nI (q / 4 % 16), wc, rc, tc, sc, dk, ex, tr, ps, ct, wl, wm, rv, rs, rn, re, ty, se, sy))) ∧ (¬ 2 < k → (((k = 0 → (wpX_say post (pl, wc, rc, tc, sc, dk, ex, tr, ps, ct, wl, wm, rv, rs, rn, re, ty, se, sy) (nI (q / 4 % 16) + (16 * nI (q / 64 % 16))))) ∧ (¬ k = 0 → (((k = 1 → (wpX_isWithin (fun r_28 => (((r_28 = 0 → (vp_in (nI (q / 4 % 16)) 8 ∧ ∀ a_50 : Nat → Int32, a_50 = upd ps (nI (q / 4 % 16)).toNatClampNeg (nI (q / 64 % 16)) → (post (pl, wc, rc, tc, sc, dk, ex, tr, a_50, ct, wl, wm, rv, rs, rn, re, ty, se, sy)))) ∧ (¬ r_28 = 0 → (post (pl, wc, rc, tc, sc, dk, ex, tr, ps, ct, wl, wm, rv, rs, rn, re, ty, se, sy)))))) (pl, wc, rc, tc, sc, dk, ex, tr, ps, ct, wl, wm, rv, rs, rn, re, ty, se, sy) (nI (q / 64 % 16)) (nI (q / 4 % 16)))) ∧ (¬ k = 1 → (((k = 2 → (vp_in (nI (q / 4 % 16)) 4 ∧ (vp_in (nI (q / 4 % 16)) 4 ∧ ∀ a_54 : Nat → Int32, a_54 = upd ct (nI (q / 4 % 16)).toNatClampNeg ((ct (nI (q / 4 % 16)).toNatClampNeg) + (nI (q / 64 % 16) - 8)) → (post (pl, wc, rc, tc, sc, dk, ex, tr, ps, a_54, wl, wm, rv, rs, rn, re, ty, se, sy))))) ∧ (¬ k = 2 → (True)))))))))))))))) : wpX_takeEffect post (pl, wc, rc, tc, sc, dk, ex, tr, ps, ct, wl, wm, rv, rs, rn, re, ty, se, sy) (nI q) := by
  subst hk
  rw [← sw_first hq, ← sw_second hq] at h
  exact h
theorem sw_say {s : Nat} (hs : s < 1000000) (z : Int32) : ∃ sy' : Nat → Int32, (∀ post : SX → Prop, post (pl, wc, rc, tc, nI (s + 1), dk, ex, tr, ps, ct, wl, wm, rv, rs, rn, re, ty, se, sy') → wpX_say post (pl, wc, rc, tc, nI s, dk, ex, tr, ps, ct, wl, wm, rv, rs, rn, re, ty, se, sy) z) ∧ (∀ (post : SY → Prop) (x2 x3 x4 : Int32), wY_act_59 post x2 x3 x4 pl rc wc tc (nI (s + 1)) dk ex tr ps ct rv rs rn re ll wm ty sy' → ((40 ≤ nI s → (wY_act_49 post x2 x3 x4 pl rc wc tc (nI s) dk ex tr ps ct rv rs rn re ll wm ty sy)) ∧ (¬ 40 ≤ nI s → (vp_in (nI s) 40 ∧ ∀ a_36 : Nat → Int32, a_36 = upd sy (nI s).toNatClampNeg z → (wY_act_49 post x2 x3 x4 pl rc wc tc (nI s) dk ex tr ps ct rv rs rn re ll wm ty a_36))))) := by
  have hb : ¬ (2147483647 : Int32) ≤ nI s := nI_ge (b := 2147483647) (by omega) (by decide)
  by_cases h4 : s < 40
  · have h4' : ¬ (40 : Int32) ≤ nI s := nI_ge (b := 40) h4 (by decide)
    have hv : vp_in (nI s) 40 := vp_in_nI h4 (by decide)
    refine ⟨upd sy (nI s).toNatClampNeg z, fun post h => br_f h4' ⟨hv, nm_e (br_f hb (nm_r (nI_1 s) h))⟩, fun post x2 x3 x4 h => br_f h4' ⟨hv, nm_e (nm_r (nI_1 s) h)⟩⟩
  · have h4' : (40 : Int32) ≤ nI s := nI_le (a := 40) (by omega) (by omega)
    exact ⟨sy, fun post h => br_t h4' (br_f hb (nm_r (nI_1 s) h)), fun post x2 x3 x4 h => br_t h4' (nm_r (nI_1 s) h)⟩
theorem sw_eff {q s : Nat} (hq : sw_ev q) (hp : sw_R 16 ps) (hl : sw_I 6 pl) (hs : s < 1000000) : ∃ (pl' : Int32) (ps' ct' sy' : Nat → Int32) (s' : Nat), sw_I 6 pl' ∧ sw_R 16 ps' ∧ s' ≤ s + 1 ∧ (∀ post : SX → Prop, post (pl', wc, rc, tc, nI s', dk, ex, tr, ps', ct', wl, wm, rv, rs, rn, re, ty, se, sy') → wpX_takeEffect post (pl, wc, rc, tc, nI s, dk, ex, tr, ps, ct, wl, wm, rv, rs, rn, re, ty, se, sy) (nI q)) ∧ (∀ post : SY → Prop, post (pl', rc, wc, tc, nI s', dk, ex, tr, ps', ct', rv, rs, rn, re, ll, wm, ty, sy') → wpY_act post (pl, rc, wc, tc, nI s, dk, ex, tr, ps, ct, rv, rs, rn, re, ll, wm, ty, sy) (nI q)) := by
  obtain ⟨hq2, hk⟩ := hq
  rcases hk with k0 | ⟨k1, ha⟩ | ⟨k2, ha⟩ | ⟨k3, ha⟩
  · have e3 : nI q &&& 3 = 0 := by rw [sw_and3 hq2, k0]; rfl
    obtain ⟨sy', hX, hY⟩ := sw_say (pl := pl) (wc := wc) (rc := rc) (tc := tc) (dk := dk) (ex := ex) (tr := tr) (ps := ps) (ct := ct) (wl := wl) (wm := wm) (rv := rv) (rs := rs) (rn := rn) (re := re) (ty := ty) (se := se) (sy := sy) (ll := ll) hs (nI (q / 4 % 16) + (16 * nI (q / 64 % 16)))
    refine ⟨pl, ps, ct, sy', s + 1, hl, hp, Nat.le_refl _, fun post h => sw_xef hq2 e3 (br_f (by decide) (br_f (by decide) (br_t rfl (hX post h)))), fun post h => nm_r e3 (nm_r (sw_first hq2) (nm_r (sw_second hq2) (br_t rfl (hY post _ _ _ ?_))))⟩
    exact br_f (by decide) (br_f (by decide) (br_f (by decide) h))
  · have e3 : nI q &&& 3 = 1 := by rw [sw_and3 hq2, k1]; rfl
    have hv : vp_in (nI (q / 4 % 16)) 8 := vp_in_nI ha (by decide)
    have hm := sw_and7' ha
    cases hw : sw_w (sw_n ps) (q / 4 % 16) 8 (q / 64 % 16)
    · refine ⟨pl, upd ps (nI (q / 4 % 16)).toNatClampNeg (nI (q / 64 % 16)), ct, sy, s, hl, sw_R_u hp _ (by omega), by omega, fun post h => sw_xef hq2 e3 (br_f (by decide) (br_f (by decide) (br_f (by decide) (br_t rfl (sw_xw hp ha (by omega) ?_))))), fun post h => nm_r e3 (nm_r (sw_first hq2) (nm_r (sw_second hq2) (br_f (by decide) (br_t rfl ?_))))⟩
      · rw [hw]
        exact br_t rfl ⟨hv, nm_e h⟩
      · rw [hm]
        refine sw_ycb hp ha (by omega) ?_
        rw [hw]
        exact br_f (by decide) ⟨hv, nm_e (br_f (by decide) (br_f (by decide) h))⟩
    · refine ⟨pl, ps, ct, sy, s, hl, hp, by omega, fun post h => sw_xef hq2 e3 (br_f (by decide) (br_f (by decide) (br_f (by decide) (br_t rfl (sw_xw hp ha (by omega) ?_))))), fun post h => nm_r e3 (nm_r (sw_first hq2) (nm_r (sw_second hq2) (br_f (by decide) (br_t rfl ?_))))⟩
      · rw [hw]
        exact br_f (by decide) h
      · rw [hm]
        refine sw_ycb hp ha (by omega) ?_
        rw [hw]
        exact br_t rfl (br_f (by decide) (br_f (by decide) h))
  · have e3 : nI q &&& 3 = 2 := by rw [sw_and3 hq2, k2]; rfl
    have hv : vp_in (nI (q / 4 % 16)) 4 := vp_in_nI ha (by decide)
    have hm := sw_and3' ha
    refine ⟨pl, ps, upd ct (nI (q / 4 % 16)).toNatClampNeg ((ct (nI (q / 4 % 16)).toNatClampNeg) + (nI (q / 64 % 16) - 8)), sy, s, hl, hp, by omega, fun post h => sw_xef hq2 e3 (br_f (by decide) (br_f (by decide) (br_f (by decide) (br_f (by decide) (br_t rfl ⟨hv, hv, nm_e h⟩))))), fun post h => nm_r e3 (nm_r (sw_first hq2) (nm_r (sw_second hq2) (br_f (by decide) (br_f (by decide) (br_t rfl ?_)))))⟩
    rw [hm]
    exact ⟨hv, hv, nm_e (br_f (by decide) h)⟩
  · have e3 : nI q &&& 3 = 3 := by rw [sw_and3 hq2, k3]; rfl
    exact ⟨nI (q / 4 % 16), ps, ct, sy, s, ⟨_, ha, rfl⟩, hp, by omega, fun post h => sw_xef hq2 e3 (br_f (by decide) (br_t (by decide) h)), fun post h => nm_r e3 (nm_r (sw_first hq2) (nm_r (sw_second hq2) (br_f (by decide) (br_f (by decide) (br_f (by decide) (br_t rfl h))))))⟩
end
