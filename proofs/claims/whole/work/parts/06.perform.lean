/-! the rules in order, then the command -/
def sw_C (rn : Nat → Int32) : Prop := ∀ j, ∃ q, sw_cv q ∧ rn j = nI q
def sw_E (re : Nat → Int32) : Prop := ∀ j, ∃ q, sw_ev q ∧ re j = nI q
section
variable {pl wc rc tc sc : Int32} {dk ex tr ps ct wl wm rv rs rn re ty se sy ll : Nat → Int32}
theorem sw_x41n {post : Int32 → SX → Prop} {J : Int32 → Int32 → Int32 → Int32 → Int32 → Int32 → Int32 → (Nat → Int32) → (Nat → Int32) → (Nat → Int32) → (Nat → Int32) → (Nat → Int32) → (Nat → Int32) → (Nat → Int32) → (Nat → Int32) → (Nat → Int32) → (Nat → Int32) → (Nat → Int32) → (Nat → Int32) → (Nat → Int32) → (Nat → Int32) → Prop} {vb x st z0 : Int32} {i : Nat} (hi : i < 16) (hz : rv i = vb → z0 = 0) (h : J st (nI (i + 1)) pl wc rc tc sc dk ex tr ps ct wl wm rv rs rn re ty se sy) : wX_rulesStop_41 post J vb x st (nI i) z0 pl wc rc tc sc dk ex tr ps ct wl wm rv rs rn re ty se sy := by
  have hv : vp_in (nI i) 16 := vp_in_nI hi (by decide)
  have hc : (nI i).toNatClampNeg = i := nI_clamp (by omega)
  refine ⟨hv, ?_⟩
  rw [hc]
  by_cases e : rv i = vb
  · exact br_t e (br_t (hz e) (nm_r (nI_1 i) h))
  · exact br_f e (nm_r (nI_1 i) h)
theorem sw_xhead {post : Int32 → SX → Prop} {vb x st : Int32} {i n r : Nat} (hi : i < r) (hr : r ≤ 16) (h1 : rv i = vb → (rs i = x ∨ rs i = -1) → wX_rulesStop_41 post (wX_rulesStop_5 post vb x n) vb x st (nI i) 1 pl wc (nI r) tc sc dk ex tr ps ct wl wm rv rs rn re ty se sy) (h2 : ¬ (rv i = vb ∧ (rs i = x ∨ rs i = -1)) → wX_rulesStop_5 post vb x n st (nI (i + 1)) pl wc (nI r) tc sc dk ex tr ps ct wl wm rv rs rn re ty se sy) : wX_rulesStop_5 post vb x (n + 1) st (nI i) pl wc (nI r) tc sc dk ex tr ps ct wl wm rv rs rn re ty se sy := by
  have hv : vp_in (nI i) 16 := vp_in_nI (by omega) (by decide)
  have hc : (nI i).toNatClampNeg = i := nI_clamp (by omega)
  refine br_f (nI_ge hi (by omega)) ⟨hv, ?_⟩
  rw [hc]
  by_cases e1 : rs i = x
  · refine br_t e1 ?_
    by_cases e2 : rv i = vb
    · exact h1 e2 (Or.inl e1)
    · exact sw_x41n (by omega) (fun z => absurd z e2) (h2 (fun z => e2 z.1))
  · refine br_f e1 ⟨hv, ?_⟩
    by_cases e3 : rs i = -1
    · refine br_t e3 ?_
      by_cases e2 : rv i = vb
      · exact h1 e2 (Or.inr e3)
      · exact sw_x41n (by omega) (fun z => absurd z e2) (h2 (fun z => e2 z.1))
    · exact br_f e3 (sw_x41n (by omega) (fun _ => rfl) (h2 (fun z => z.2.elim e1 e3)))
theorem sw_yhead {post : Int32 → SY → Prop} {vb x y st : Int32} {i n r : Nat} (hi : i < r) (hr : r ≤ 16) (h1 : rv i = vb → (rs i = x ∨ rs i = -1) → wY_carryOut_48 post (wY_carryOut_6 post vb x y n) vb x y st (nI i) pl (nI r) wc tc sc dk ex tr ps ct rv rs rn re ll wm ty sy) (h2 : ¬ (rv i = vb ∧ (rs i = x ∨ rs i = -1)) → wY_carryOut_6 post vb x y n st (nI (i + 1)) pl (nI r) wc tc sc dk ex tr ps ct rv rs rn re ll wm ty sy) : wY_carryOut_6 post vb x y (n + 1) st (nI i) pl (nI r) wc tc sc dk ex tr ps ct rv rs rn re ll wm ty sy := by
  have hv : vp_in (nI i) 16 := vp_in_nI (by omega) (by decide)
  have hc : (nI i).toNatClampNeg = i := nI_clamp (by omega)
  refine br_f (nI_ge hi (by omega)) ⟨hv, ?_⟩
  rw [hc]
  by_cases e2 : rv i = vb
  · refine br_t e2 ⟨hv, ?_⟩
    by_cases e1 : rs i = x
    · exact br_t e1 (h1 e2 (Or.inl e1))
    · refine br_f e1 ⟨hv, ?_⟩
      by_cases e3 : rs i = -1
      · exact br_t e3 (h1 e2 (Or.inr e3))
      · exact br_f e3 (nm_r (nI_1 i) (h2 (fun z => z.2.elim e1 e3)))
  · exact br_f e2 (nm_r (nI_1 i) (h2 (fun z => e2 z.1)))
theorem sw_body {vb x y : Int32} {s i : Nat} (hi : i < 16) (hn : sw_C rn) (he : sw_E re) (hp : sw_R 16 ps) (ht : sw_R 16 tr) (hl : sw_I 6 pl) (hs : s < 1000000) (hv : rv i = vb) (st : Bool) : ∃ (st' : Bool) (pl' : Int32) (ps' ct' sy' : Nat → Int32) (s' : Nat), sw_I 6 pl' ∧ sw_R 16 ps' ∧ s' ≤ s + 1 ∧ (∀ (post : Int32 → SX → Prop) (J : Int32 → Int32 → Int32 → Int32 → Int32 → Int32 → Int32 → (Nat → Int32) → (Nat → Int32) → (Nat → Int32) → (Nat → Int32) → (Nat → Int32) → (Nat → Int32) → (Nat → Int32) → (Nat → Int32) → (Nat → Int32) → (Nat → Int32) → (Nat → Int32) → (Nat → Int32) → (Nat → Int32) → (Nat → Int32) → Prop), J (sw_b st') (nI (i + 1)) pl' wc rc tc (nI s') dk ex tr ps' ct' wl wm rv rs rn re ty se sy' → wX_rulesStop_41 post J vb x (sw_b st) (nI i) 1 pl wc rc tc (nI s) dk ex tr ps ct wl wm rv rs rn re ty se sy) ∧ (∀ (post : Int32 → SY → Prop) (J : Int32 → Int32 → Int32 → Int32 → Int32 → Int32 → Int32 → (Nat → Int32) → (Nat → Int32) → (Nat → Int32) → (Nat → Int32) → (Nat → Int32) → (Nat → Int32) → (Nat → Int32) → (Nat → Int32) → (Nat → Int32) → (Nat → Int32) → (Nat → Int32) → (Nat → Int32) → (Nat → Int32) → Prop), J (sw_b st') (nI (i + 1)) pl' rc wc tc (nI s') dk ex tr ps' ct' rv rs rn re ll wm ty sy' → wY_carryOut_48 post J vb x y (sw_b st) (nI i) pl rc wc tc (nI s) dk ex tr ps ct rv rs rn re ll wm ty sy) := by
  have hvi : vp_in (nI i) 16 := vp_in_nI hi (by decide)
  have hc : (nI i).toNatClampNeg = i := nI_clamp (by omega)
  obtain ⟨q, hq, eq⟩ := hn i
  obtain ⟨q2, hq2, eq2⟩ := he i
  obtain ⟨b, hX, hY⟩ := sw_holds (pl := pl) (wc := wc) (rc := rc) (tc := tc) (sc := nI s) (dk := dk) (ex := ex) (tr := tr) (ps := ps) (ct := ct) (wl := wl) (wm := wm) (rv := rv) (rs := rs) (rn := rn) (re := re) (ty := ty) (se := se) (sy := sy) (ll := ll) hq ht
  cases b
  · refine ⟨st, pl, ps, ct, sy, s, hl, hp, by omega, fun post J h => ?_, fun post J h => ?_⟩
    · refine ⟨hvi, ?_⟩
      rw [hc]
      refine br_t hv (br_f (by decide) ⟨hvi, ?_⟩)
      rw [eq]
      exact hX _ (br_t rfl (nm_r (nI_1 i) h))
    · refine ⟨hvi, ?_⟩
      rw [hc, eq]
      exact hY _ (br_t rfl (nm_r (nI_1 i) h))
  · obtain ⟨pl', ps', ct', sy', s', hl', hp', hs', hX2, hY2⟩ := sw_eff (pl := pl) (wc := wc) (rc := rc) (tc := tc) (dk := dk) (ex := ex) (tr := tr) (ps := ps) (ct := ct) (wl := wl) (wm := wm) (rv := rv) (rs := rs) (rn := rn) (re := re) (ty := ty) (se := se) (sy := sy) (ll := ll) hq2 hp hl hs
    have hstop := sw_stop q2 hq2.1
    by_cases e : nI q2 &&& 1024 = 0
    · have e' : nI q2 < 1024 := Int32.not_le.mp (hstop.mp e)
      refine ⟨st, pl', ps', ct', sy', s', hl', hp', hs', fun post J h => ?_, fun post J h => ?_⟩
      · refine ⟨hvi, ?_⟩
        rw [hc]
        refine br_t hv (br_f (by decide) ⟨hvi, ?_⟩)
        rw [eq]
        refine hX _ (br_f (by decide) ⟨hvi, ?_⟩)
        rw [eq2]
        refine hX2 _ ?_
        cases st
        · refine br_t rfl ⟨hvi, ?_⟩
          rw [eq2]
          exact br_t e (nm_r (nI_1 i) h)
        · exact br_f (by decide) (nm_r (nI_1 i) h)
      · refine ⟨hvi, ?_⟩
        rw [hc, eq]
        refine hY _ (br_f (by decide) ⟨hvi, ?_⟩)
        rw [eq2]
        refine hY2 _ ⟨hvi, ?_⟩
        rw [eq2]
        exact br_t e' (nm_r (nI_1 i) h)
    · have e' : ¬ nI q2 < 1024 := fun z => e (hstop.mpr (Int32.not_le.mpr z))
      refine ⟨true, pl', ps', ct', sy', s', hl', hp', hs', fun post J h => ?_, fun post J h => ?_⟩
      · refine ⟨hvi, ?_⟩
        rw [hc]
        refine br_t hv (br_f (by decide) ⟨hvi, ?_⟩)
        rw [eq]
        refine hX _ (br_f (by decide) ⟨hvi, ?_⟩)
        rw [eq2]
        refine hX2 _ ?_
        cases st
        · refine br_t rfl ⟨hvi, ?_⟩
          rw [eq2]
          exact br_f e (nm_r (nI_1 i) h)
        · exact br_f (by decide) (nm_r (nI_1 i) h)
      · refine ⟨hvi, ?_⟩
        rw [hc, eq]
        refine hY _ (br_f (by decide) ⟨hvi, ?_⟩)
        rw [eq2]
        refine hY2 _ ⟨hvi, ?_⟩
        rw [eq2]
        exact br_f e' (nm_r (nI_1 i) h)
theorem sw_rules {vb x y : Int32} {r : Nat} (hr : r ≤ 16) (hn : sw_C rn) (he : sw_E re) (ht : sw_R 16 tr) : ∀ (d i : Nat) (pl : Int32) (ps ct sy : Nat → Int32) (s : Nat) (st : Bool), i + d = r → sw_I 6 pl → sw_R 16 ps → s + d < 1000000 → ∃ (st' : Bool) (pl' : Int32) (ps' ct' sy' : Nat → Int32) (s' : Nat), sw_I 6 pl' ∧ sw_R 16 ps' ∧ s' ≤ s + d ∧ (∀ post : Int32 → SX → Prop, post (sw_b st') (pl', wc, nI r, tc, nI s', dk, ex, tr, ps', ct', wl, wm, rv, rs, rn, re, ty, se, sy') → wX_rulesStop_5 post vb x (d + 1) (sw_b st) (nI i) pl wc (nI r) tc (nI s) dk ex tr ps ct wl wm rv rs rn re ty se sy) ∧ (∀ (post : Int32 → SY → Prop) (n : Nat), wY_carryOut_6 post vb x y (n + 1) (sw_b st') (nI r) pl' (nI r) wc tc (nI s') dk ex tr ps' ct' rv rs rn re ll wm ty sy' → wY_carryOut_6 post vb x y (n + 1 + d) (sw_b st) (nI i) pl (nI r) wc tc (nI s) dk ex tr ps ct rv rs rn re ll wm ty sy) := by
  intro d
  induction d with
  | zero =>
    intro i pl ps ct sy s st hi hl hp hs
    obtain rfl : i = r := by omega
    exact ⟨st, pl, ps, ct, sy, s, hl, hp, by omega, fun post h => br_t (Int32.le_refl _) ⟨sw_nbb st, h⟩, fun post n h => h⟩
  | succ d ih =>
    intro i pl ps ct sy s st hi hl hp hs
    by_cases hM : rv i = vb ∧ (rs i = x ∨ rs i = -1)
    · obtain ⟨st1, pl1, ps1, ct1, sy1, s1, hl1, hp1, hs1, hX1, hY1⟩ := sw_body (pl := pl) (wc := wc) (rc := nI r) (tc := tc) (dk := dk) (ex := ex) (tr := tr) (ps := ps) (ct := ct) (wl := wl) (wm := wm) (rv := rv) (rs := rs) (rn := rn) (re := re) (ty := ty) (se := se) (sy := sy) (ll := ll) (vb := vb) (x := x) (y := y) (s := s) (i := i) (by omega) hn he hp ht hl (by omega) hM.1 st
      obtain ⟨st2, pl2, ps2, ct2, sy2, s2, hl2, hp2, hs2, hX2, hY2⟩ := ih (i + 1) pl1 ps1 ct1 sy1 s1 st1 (by omega) hl1 hp1 (by omega)
      refine ⟨st2, pl2, ps2, ct2, sy2, s2, hl2, hp2, by omega, fun post h => ?_, fun post n h => ?_⟩
      · exact sw_xhead (by omega) hr (fun _ _ => hX1 _ _ (hX2 post h)) (fun z => absurd hM z)
      · exact sw_yhead (by omega) hr (fun _ _ => hY1 _ _ (hY2 post n h)) (fun z => absurd hM z)
    · obtain ⟨st2, pl2, ps2, ct2, sy2, s2, hl2, hp2, hs2, hX2, hY2⟩ := ih (i + 1) pl ps ct sy s st (by omega) hl hp (by omega)
      refine ⟨st2, pl2, ps2, ct2, sy2, s2, hl2, hp2, by omega, fun post h => ?_, fun post n h => ?_⟩
      · exact sw_xhead (by omega) hr (fun a b => absurd ⟨a, b⟩ hM) (fun _ => hX2 post h)
      · exact sw_yhead (by omega) hr (fun a b => absurd ⟨a, b⟩ hM) (fun _ => hY2 post n h)
theorem sw_perform {r s vb x : Nat} {y : Int32} (hr : r ≤ 16) (hn : sw_C rn) (he : sw_E re) (ht : sw_R 16 tr) (hl : sw_I 6 pl) (hp : sw_R 16 ps) (hx : sw_X ex) (hs : s < 900000) (hvb : vb < 6) (hx8 : x < 8) (hx4 : vb = 0 → x < 4) (hy : vb = 3 → sw_I 8 y) : ∃ (a pl' : Int32) (tr' ps' ct' sy' : Nat → Int32) (s' : Nat), sw_I 6 pl' ∧ sw_R 16 tr' ∧ sw_R 16 ps' ∧ s' ≤ s + 16 ∧ (∀ post : Int32 → SX → Prop, post a (pl', wc, nI r, tc, nI s', dk, ex, tr', ps', ct', wl, wm, rv, rs, rn, re, ty, se, sy') → wpX_perform post (pl, wc, nI r, tc, nI s, dk, ex, tr, ps, ct, wl, wm, rv, rs, rn, re, ty, se, sy) (nI vb) (nI x) y) ∧ (∀ post : Int32 → SY → Prop, post a (pl', nI r, wc, tc, nI s', dk, ex, tr', ps', ct', rv, rs, rn, re, ll, wm, ty, sy') → wpY_carryOut post (pl, nI r, wc, tc, nI s, dk, ex, tr, ps, ct, rv, rs, rn, re, ll, wm, ty, sy) (nI vb) (nI x) y) := by
  obtain ⟨st, pl1, ps1, ct1, sy1, s1, hl1, hp1, hs1, hX, hY⟩ := sw_rules (wc := wc) (tc := tc) (dk := dk) (ex := ex) (tr := tr) (wl := wl) (wm := wm) (rv := rv) (rs := rs) (rn := rn) (re := re) (ty := ty) (se := se) (ll := ll) (vb := nI vb) (x := nI x) (y := y) hr hn he ht r 0 pl ps ct sy s false (by omega) hl hp (by omega)
  cases st
  · have hc : vb = 0 ∨ vb = 1 ∨ vb = 2 ∨ vb = 3 ∨ vb = 4 ∨ vb = 5 := by omega
    rcases hc with rfl | rfl | rfl | rfl | rfl | rfl
    · obtain ⟨a, pl2, hl2, gX, gY⟩ := sw_go (pl := pl1) (wc := wc) (rc := nI r) (tc := tc) (sc := nI s1) (dk := dk) (ex := ex) (tr := tr) (ps := ps1) (ct := ct1) (wl := wl) (wm := wm) (rv := rv) (rs := rs) (rn := rn) (re := re) (ty := ty) (se := se) (sy := sy1) (ll := ll) hl1 hx (hx4 rfl)
      refine ⟨a, pl2, tr, ps1, ct1, sy1, s1, hl2, ht, hp1, by omega, fun post h => ?_, fun post h => ?_⟩
      · exact ⟨r + 1, hX _ (br_t rfl (br_f (by decide) (br_f (by decide) (br_t rfl (gX _ h)))))⟩
      · exact ⟨0 + 1 + r, hY _ 0 (br_t (Int32.le_refl _) (br_t rfl (br_t rfl (gY _ h))))⟩
    · obtain ⟨a, ps2, hp2, gX, gY⟩ := sw_take (pl := pl1) (wc := wc) (rc := nI r) (tc := tc) (sc := nI s1) (dk := dk) (ex := ex) (tr := tr) (ps := ps1) (ct := ct1) (wl := wl) (wm := wm) (rv := rv) (rs := rs) (rn := rn) (re := re) (ty := ty) (se := se) (sy := sy1) (ll := ll) hp1 hl1 hx8
      refine ⟨a, pl1, tr, ps2, ct1, sy1, s1, hl1, ht, hp2, by omega, fun post h => ?_, fun post h => ?_⟩
      · exact ⟨r + 1, hX _ (br_t rfl (br_f (by decide) (br_f (by decide) (br_f (by decide) (br_t rfl (gX _ h))))))⟩
      · exact ⟨0 + 1 + r, hY _ 0 (br_t (Int32.le_refl _) (br_t rfl (br_f (by decide) (br_t rfl (gY _ h)))))⟩
    · have hv : vp_in (nI x) 8 := vp_in_nI hx8 (by decide)
      have hcx : (nI x).toNatClampNeg = x := nI_clamp (by omega)
      obtain ⟨m, hm, rfl⟩ := hl1
      by_cases h6 : ps1 x = 6
      · refine ⟨0, nI m, tr, upd ps1 x (nI m), ct1, sy1, s1, ⟨m, hm, rfl⟩, ht, sw_R_u hp1 x (by omega), by omega, fun post h => ?_, fun post h => ?_⟩
        · refine ⟨r + 1, hX _ (br_t rfl (br_f (by decide) (br_f (by decide) (br_f (by decide) (br_f (by decide) (br_t rfl ?_))))))⟩
          unfold wpX_performDrop
          refine sw_xheld hx8 ?_
          rw [decide_eq_true h6]
          exact br_f (by decide) ⟨hv, nm_r (by rw [hcx]) h⟩
        · refine ⟨0 + 1 + r, hY _ 0 (br_t (Int32.le_refl _) (br_t rfl (br_f (by decide) (br_f (by decide) (br_t rfl ⟨hv, ?_⟩)))))⟩
          rw [hcx]
          exact br_t h6 ⟨hv, nm_e h⟩
      · refine ⟨6, nI m, tr, ps1, ct1, sy1, s1, ⟨m, hm, rfl⟩, ht, hp1, by omega, fun post h => ?_, fun post h => ?_⟩
        · refine ⟨r + 1, hX _ (br_t rfl (br_f (by decide) (br_f (by decide) (br_f (by decide) (br_f (by decide) (br_t rfl ?_))))))⟩
          unfold wpX_performDrop
          refine sw_xheld hx8 ?_
          rw [decide_eq_false h6]
          exact br_t rfl h
        · refine ⟨0 + 1 + r, hY _ 0 (br_t (Int32.le_refl _) (br_t rfl (br_f (by decide) (br_f (by decide) (br_t rfl ⟨hv, ?_⟩)))))⟩
          rw [hcx]
          exact br_f h6 h
    · obtain ⟨y2, hy2, rfl⟩ := hy rfl
      obtain ⟨a, ps2, hp2, gX, gY⟩ := sw_put (pl := pl1) (wc := wc) (rc := nI r) (tc := tc) (sc := nI s1) (dk := dk) (ex := ex) (tr := tr) (ps := ps1) (ct := ct1) (wl := wl) (wm := wm) (rv := rv) (rs := rs) (rn := rn) (re := re) (ty := ty) (se := se) (sy := sy1) (ll := ll) hp1 hl1 hx8 hy2
      refine ⟨a, pl1, tr, ps2, ct1, sy1, s1, hl1, ht, hp2, by omega, fun post h => ?_, fun post h => ?_⟩
      · exact ⟨r + 1, hX _ (br_t rfl (br_f (by decide) (br_f (by decide) (br_f (by decide) (br_f (by decide) (br_f (by decide) (br_t rfl (gX _ h))))))))⟩
      · exact ⟨0 + 1 + r, hY _ 0 (br_t (Int32.le_refl _) (br_t rfl (br_f (by decide) (br_f (by decide) (br_f (by decide) (br_t rfl (gY _ h)))))))⟩
    · obtain ⟨a, tr2, ht2, gX, gY⟩ := sw_turn (pl := pl1) (wc := wc) (rc := nI r) (tc := tc) (sc := nI s1) (dk := dk) (ex := ex) (tr := tr) (ps := ps1) (ct := ct1) (wl := wl) (wm := wm) (rv := rv) (rs := rs) (rn := rn) (re := re) (ty := ty) (se := se) (sy := sy1) (ll := ll) hp1 ht hl1 hx8 1
      refine ⟨a, pl1, tr2, ps1, ct1, sy1, s1, hl1, ht2, hp1, by omega, fun post h => ?_, fun post h => ?_⟩
      · exact ⟨r + 1, hX _ (br_t rfl (br_f (by decide) (br_f (by decide) (br_f (by decide) (br_f (by decide) (br_f (by decide) (br_f (by decide) (br_t rfl (gX _ h)))))))))⟩
      · exact ⟨0 + 1 + r, hY _ 0 (br_t (Int32.le_refl _) (br_t rfl (br_f (by decide) (br_f (by decide) (br_f (by decide) (br_f (by decide) (br_t rfl (gY _ h))))))))⟩
    · obtain ⟨a, tr2, ht2, gX, gY⟩ := sw_turn (pl := pl1) (wc := wc) (rc := nI r) (tc := tc) (sc := nI s1) (dk := dk) (ex := ex) (tr := tr) (ps := ps1) (ct := ct1) (wl := wl) (wm := wm) (rv := rv) (rs := rs) (rn := rn) (re := re) (ty := ty) (se := se) (sy := sy1) (ll := ll) hp1 ht hl1 hx8 0
      refine ⟨a, pl1, tr2, ps1, ct1, sy1, s1, hl1, ht2, hp1, by omega, fun post h => ?_, fun post h => ?_⟩
      · exact ⟨r + 1, hX _ (br_t rfl (br_f (by decide) (br_t (by decide) (gX _ h))))⟩
      · exact ⟨0 + 1 + r, hY _ 0 (br_t (Int32.le_refl _) (br_t rfl (br_f (by decide) (br_f (by decide) (br_f (by decide) (br_f (by decide) (br_f (by decide) (gY _ h))))))))⟩
  · refine ⟨1, pl1, tr, ps1, ct1, sy1, s1, hl1, ht, hp1, by omega, fun post h => ?_, fun post h => ?_⟩
    · exact ⟨r + 1, hX _ (br_f (by decide) h)⟩
    · exact ⟨0 + 1 + r, hY _ 0 (br_t (Int32.le_refl _) (br_f (by decide) h))⟩
end
