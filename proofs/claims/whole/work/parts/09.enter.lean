/-! the typed words to their end, and the command that they make -/
def sw_T1 (x : Int32) : Prop := x = 1 ∨ x = 2 ∨ x = 4 ∨ x = 5
theorem sw_T1_v {x : Int32} (h : sw_T1 x) : ∃ v, v < 6 ∧ ¬ v = 0 ∧ x = nI v := by
  rcases h with rfl | rfl | rfl | rfl
  · exact ⟨1, by decide, by decide, rfl⟩
  · exact ⟨2, by decide, by decide, rfl⟩
  · exact ⟨4, by decide, by decide, rfl⟩
  · exact ⟨5, by decide, by decide, rfl⟩
theorem sw_xto {post : Int32 → Prop} {x : Int32} (h1 : sw_T1 x → post 1) (h0 : ¬ sw_T1 x → post 0) : wpX_takesOneThing post x :=
  br_c (fun a => h1 (Or.inl a)) (fun a => br_c (fun b => h1 (Or.inr (Or.inl b))) (fun b => br_c (fun c => h1 (Or.inr (Or.inr (Or.inl c)))) (fun c => br_c (fun d => h1 (Or.inr (Or.inr (Or.inr d)))) (fun d => h0 (fun z => z.elim a (fun z => z.elim b (fun z => z.elim c d)))))))
section
variable {pl wc rc tc sc : Int32} {dk ex tr ps ct wl wm rv rs rn re ty se sy ll : Nat → Int32}
theorem sw_y212 {post : Int32 → SY → Prop} {x4 x5 x6 : Int32} (h1 : sw_T1 x4 → wY_enter_241 post 2 x4 x5 x6 pl rc wc tc sc dk ex tr ps ct rv rs rn re ll wm ty sy) (h0 : ¬ sw_T1 x4 → wY_enter_267 post 2 x4 x5 x6 pl rc wc tc sc dk ex tr ps ct rv rs rn re ll wm ty sy) : wY_enter_212 post 2 x4 x5 x6 pl rc wc tc sc dk ex tr ps ct rv rs rn re ll wm ty sy :=
  br_t rfl (br_c (fun a => h1 (Or.inl a)) (fun a => br_c (fun b => h1 (Or.inr (Or.inl b))) (fun b => br_c (fun c => h1 (Or.inr (Or.inr (Or.inl c)))) (fun c => br_c (fun d => h1 (Or.inr (Or.inr (Or.inr d)))) (fun d => h0 (fun z => z.elim a (fun z => z.elim b (fun z => z.elim c d))))))))
theorem sw_read {w t : Nat} (hw : w ≤ 24) (ht : t ≤ 30) (hW : sw_W w wl ll) (hT : sw_T t ty) (hm : sw_R 31 wm) : ∀ (d i s cnt : Nat) (se : Nat → Int32) (f1 f2 f3 : Int32), i + d = t + 1 → s ≤ i → 2 * cnt ≤ s → (∀ j, s ≤ j → j < i → ∃ m, 97 ≤ m ∧ m ≤ 122 ∧ ty j = nI m) → (0 < cnt → se 0 = f1) → (1 < cnt → se 1 = f2) → (2 < cnt → se 2 = f3) →
    (∃ (cnt' : Nat) (se' : Nat → Int32) (g1 g2 g3 : Int32), cnt' ≤ 15 ∧ (0 < cnt' → se' 0 = g1) ∧ (1 < cnt' → se' 1 = g2) ∧ (2 < cnt' → se' 2 = g3) ∧ (∀ post : Int32 → SX → Prop, post (nI cnt') (pl, nI w, rc, nI t, sc, dk, ex, tr, ps, ct, wl, wm, rv, rs, rn, re, ty, se', sy) → wX_readSentence_9 post pl (nI w) rc (nI t) sc (d + 1) (nI cnt) (nI (sw_enc (sw_c ty) s i)) (nI (sw_wt (i - s))) (nI i) dk ex tr ps ct wl wm rv rs rn re ty se sy) ∧ (∀ (post : Int32 → SY → Prop) (n : Nat), (∀ z : Int32, wY_enter_21 post pl rc (nI w) (nI t) sc dk ex tr ps ct rv rs rn re ll wm ty sy (n + 1) 0 (nI cnt') g1 g2 g3 z (nI (t + 1))) → wY_enter_21 post pl rc (nI w) (nI t) sc dk ex tr ps ct rv rs rn re ll wm ty sy (n + 1 + d) 0 (nI cnt) f1 f2 f3 (nI s) (nI i)))
    ∨ (∃ se' : Nat → Int32, (∀ post : Int32 → SX → Prop, post (-1) (pl, nI w, rc, nI t, sc, dk, ex, tr, ps, ct, wl, wm, rv, rs, rn, re, ty, se', sy) → wX_readSentence_9 post pl (nI w) rc (nI t) sc (d + 1) (nI cnt) (nI (sw_enc (sw_c ty) s i)) (nI (sw_wt (i - s))) (nI i) dk ex tr ps ct wl wm rv rs rn re ty se sy) ∧ (∀ (post : Int32 → SY → Prop) (n : Nat), (∀ c g1 g2 g3 z : Int32, wY_enter_21 post pl rc (nI w) (nI t) sc dk ex tr ps ct rv rs rn re ll wm ty sy (n + 1) 1 c g1 g2 g3 z (nI (t + 1))) → wY_enter_21 post pl rc (nI w) (nI t) sc dk ex tr ps ct rv rs rn re ll wm ty sy (n + 1 + d) 0 (nI cnt) f1 f2 f3 (nI s) (nI i))) := by
  intro d
  induction d with
  | zero =>
    intro i s cnt se f1 f2 f3 hi hs hcnt hl q1 q2 q3
    obtain rfl : i = t + 1 := by omega
    exact Or.inl ⟨cnt, se, f1, f2, f3, by omega, q1, q2, q3, fun post h => br_t (nI_lt (by omega) (by omega)) h, fun post n h => h _⟩
  | succ d ih =>
    intro i s cnt se f1 f2 f3 hi hs hcnt hl q1 q2 q3
    have hb : ∀ j, j < i → sw_c ty j < 27 := fun j hj => sw_c_lt hT j (by omega)
    have hnt : ¬ nI t < nI i := nI_nlt (by omega) (by omega)
    have hE : (∃ (cnt' : Nat) (se' : Nat → Int32) (g1 g2 g3 : Int32), cnt' ≤ 15 ∧ (0 < cnt' → se' 0 = g1) ∧ (1 < cnt' → se' 1 = g2) ∧ (2 < cnt' → se' 2 = g3) ∧ (∀ post : Int32 → SX → Prop, post (nI cnt') (pl, nI w, rc, nI t, sc, dk, ex, tr, ps, ct, wl, wm, rv, rs, rn, re, ty, se', sy) → wX_readSentence_39 post (wX_readSentence_9 post pl (nI w) rc (nI t) sc (d + 1)) (nI cnt) (nI (sw_enc (sw_c ty) s i)) (nI (sw_wt (i - s))) (nI i) 32 pl (nI w) rc (nI t) sc dk ex tr ps ct wl wm rv rs rn re ty se sy) ∧ (∀ (post : Int32 → SY → Prop) (n : Nat), (∀ z : Int32, wY_enter_21 post pl rc (nI w) (nI t) sc dk ex tr ps ct rv rs rn re ll wm ty sy (n + 1) 0 (nI cnt') g1 g2 g3 z (nI (t + 1))) → wY_enter_51 post (wY_enter_21 post pl rc (nI w) (nI t) sc dk ex tr ps ct rv rs rn re ll wm ty sy (n + 1 + d)) 0 (nI cnt) f1 f2 f3 (nI s) (nI i) pl rc (nI w) (nI t) sc dk ex tr ps ct rv rs rn re ll wm ty sy))
        ∨ (∃ se' : Nat → Int32, (∀ post : Int32 → SX → Prop, post (-1) (pl, nI w, rc, nI t, sc, dk, ex, tr, ps, ct, wl, wm, rv, rs, rn, re, ty, se', sy) → wX_readSentence_39 post (wX_readSentence_9 post pl (nI w) rc (nI t) sc (d + 1)) (nI cnt) (nI (sw_enc (sw_c ty) s i)) (nI (sw_wt (i - s))) (nI i) 32 pl (nI w) rc (nI t) sc dk ex tr ps ct wl wm rv rs rn re ty se sy) ∧ (∀ (post : Int32 → SY → Prop) (n : Nat), (∀ c g1 g2 g3 z : Int32, wY_enter_21 post pl rc (nI w) (nI t) sc dk ex tr ps ct rv rs rn re ll wm ty sy (n + 1) 1 c g1 g2 g3 z (nI (t + 1))) → wY_enter_51 post (wY_enter_21 post pl rc (nI w) (nI t) sc dk ex tr ps ct rv rs rn re ll wm ty sy (n + 1 + d)) 0 (nI cnt) f1 f2 f3 (nI s) (nI i) pl rc (nI w) (nI t) sc dk ex tr ps ct rv rs rn re ll wm ty sy)) := by
      rcases sw_end (pl := pl) (rc := rc) (tc := nI t) (sc := sc) (dk := dk) (ex := ex) (tr := tr) (ps := ps) (ct := ct) (wl := wl) (wm := wm) (rv := rv) (rs := rs) (rn := rn) (re := re) (ty := ty) (se := se) (sy := sy) (ll := ll) hw hW hm hs (by omega) hl hb hcnt q1 q2 q3 with ⟨cnt2, se2, g1, g2, g3, h2c, p1, p2, p3, hX, hY⟩ | ⟨hX, hY⟩
      · rcases ih (i + 1) (i + 1) cnt2 se2 g1 g2 g3 (by omega) (Nat.le_refl _) h2c (fun j h1 h2 => by omega) p1 p2 p3 with ⟨cnt', se', k1, k2, k3, hc', r1, r2, r3, gX, gY⟩ | ⟨se', gX, gY⟩
        · rw [sw_enc_0, Nat.sub_self] at gX
          exact Or.inl ⟨cnt', se', k1, k2, k3, hc', r1, r2, r3, fun post h => hX post _ (gX post h), fun post n h => hY post _ (gY post n h)⟩
        · rw [sw_enc_0, Nat.sub_self] at gX
          exact Or.inr ⟨se', fun post h => hX post _ (gX post h), fun post n h => hY post _ (gY post n h)⟩
      · refine Or.inr ⟨se, fun post h => hX post _ h, fun post n h => hY post _ (fun c g1 g2 g3 => ?_)⟩
        exact sw_unk hw ht hW hT d (i + 1) (i + 1) c g1 g2 g3 (by omega) (Nat.le_refl _) (fun j h1 h2 => by omega) post n h
    by_cases hit : i = t
    · have hle : nI t ≤ nI i := by rw [hit]; exact Int32.le_refl _
      have heq : nI i = nI t := by rw [hit]
      rcases hE with ⟨cnt', se', g1, g2, g3, hc', r1, r2, r3, hX, hY⟩ | ⟨se', hX, hY⟩
      · exact Or.inl ⟨cnt', se', g1, g2, g3, hc', r1, r2, r3, fun post h => br_f hnt (br_t hle (hX post h)), fun post n h => br_f hnt (br_t heq (hY post n h))⟩
      · exact Or.inr ⟨se', fun post h => br_f hnt (br_t hle (hX post h)), fun post n h => br_f hnt (br_t heq (hY post n h))⟩
    · have hle : ¬ nI t ≤ nI i := nI_ge (by omega) (by omega)
      have heq : ¬ nI i = nI t := fun z => hit ((nI_eq (by omega) (by omega)).mp z)
      have hv : vp_in (nI i) 30 := vp_in_nI (by omega) (by decide)
      have hci : (nI i).toNatClampNeg = i := nI_clamp (by omega)
      obtain ⟨m, hmm, em⟩ := hT i (by omega)
      rcases hmm with rfl | hmm
      · have em' : ty i = 32 := em
        rcases hE with ⟨cnt', se', g1, g2, g3, hc', r1, r2, r3, hX, hY⟩ | ⟨se', hX, hY⟩
        · refine Or.inl ⟨cnt', se', g1, g2, g3, hc', r1, r2, r3, fun post h => br_f hnt (br_f hle ⟨hv, ?_⟩), fun post n h => br_f hnt (br_f heq ⟨hv, ?_⟩)⟩
          · rw [hci, em']
            exact hX post h
          · rw [hci]
            exact br_t em' (hY post n h)
        · refine Or.inr ⟨se', fun post h => br_f hnt (br_f hle ⟨hv, ?_⟩), fun post n h => br_f hnt (br_f heq ⟨hv, ?_⟩)⟩
          · rw [hci, em']
            exact hX post h
          · rw [hci]
            exact br_t em' (hY post n h)
      · have h32 : ¬ ty i = 32 := by
          rw [em]
          exact fun z => by have := (nI_eq (b := 32) (by omega) (by decide)).mp z; omega
        have hl' : ∀ j, s ≤ j → j < i + 1 → ∃ m, 97 ≤ m ∧ m ≤ 122 ∧ ty j = nI m := by
          intro j h1 h2
          by_cases hji : j = i
          · subst hji
            exact ⟨m, hmm.1, hmm.2, em⟩
          · exact hl j h1 (by omega)
        have en : nI (sw_enc (sw_c ty) s i) + (((ty i - 97) + 1) * nI (sw_wt (i - s))) = nI (sw_enc (sw_c ty) s (i + 1)) := by
          have a1 : nI m - 97 = nI (m - 97) := pk_sub (b := 97) hmm.1
          rw [em, a1, nI_1, pk_mul, nI_add, sw_enc_s _ hs, sw_c_eq (by omega) em, show m - 97 + 1 = m - 96 by omega]
        have ew : sw_wt (i + 1 - s) = if sw_wt (i - s) < 19683 then sw_wt (i - s) * 27 else 0 := by
          rw [show i + 1 - s = (i - s) + 1 by omega]
          exact sw_wt_s _
        have hwl := sw_wt_le (i - s)
        have hXs : ∀ post : Int32 → SX → Prop, wX_readSentence_9 post pl (nI w) rc (nI t) sc (d + 1) (nI cnt) (nI (sw_enc (sw_c ty) s (i + 1))) (nI (sw_wt (i + 1 - s))) (nI (i + 1)) dk ex tr ps ct wl wm rv rs rn re ty se sy → wX_readSentence_9 post pl (nI w) rc (nI t) sc (d + 1 + 1) (nI cnt) (nI (sw_enc (sw_c ty) s i)) (nI (sw_wt (i - s))) (nI i) dk ex tr ps ct wl wm rv rs rn re ty se sy := by
          intro post h
          refine br_f hnt (br_f hle ⟨hv, ?_⟩)
          rw [hci]
          refine br_f h32 (nm_r en ?_)
          by_cases h19 : sw_wt (i - s) < 19683
          · rw [ew, if_pos h19, ← pk_mul] at h
            exact br_f (nI_ge (b := 19683) h19 (by decide)) (nm_e (nm_r (nI_1 i) h))
          · rw [ew, if_neg h19] at h
            exact br_t (nI_le (a := 19683) (by omega) (by omega)) (nm_r (nI_1 i) h)
        have hYs : ∀ (post : Int32 → SY → Prop) (n : Nat), wY_enter_21 post pl rc (nI w) (nI t) sc dk ex tr ps ct rv rs rn re ll wm ty sy (n + 1 + d) 0 (nI cnt) f1 f2 f3 (nI s) (nI (i + 1)) → wY_enter_21 post pl rc (nI w) (nI t) sc dk ex tr ps ct rv rs rn re ll wm ty sy (n + 1 + (d + 1)) 0 (nI cnt) f1 f2 f3 (nI s) (nI i) := by
          intro post n h
          refine br_f hnt (br_f heq ⟨hv, ?_⟩)
          rw [hci]
          exact br_f h32 (nm_r (nI_1 i) h)
        rcases ih (i + 1) s cnt se f1 f2 f3 (by omega) (by omega) hcnt hl' q1 q2 q3 with ⟨cnt', se', k1, k2, k3, hc', r1, r2, r3, gX, gY⟩ | ⟨se', gX, gY⟩
        · exact Or.inl ⟨cnt', se', k1, k2, k3, hc', r1, r2, r3, fun post h => hXs post (gX post h), fun post n h => hYs post n (gY post n h)⟩
        · exact Or.inr ⟨se', fun post h => hXs post (gX post h), fun post n h => hYs post n (gY post n h)⟩
theorem sw_fin {r s cnt : Nat} {g1 g2 g3 : Int32} (hr : r ≤ 16) (hn : sw_C rn) (he : sw_E re) (ht : sw_R 16 tr) (hl : sw_I 6 pl) (hp : sw_R 16 ps) (hx : sw_X ex) (hs : s < 900000) (hc0 : 0 < cnt) (hc : cnt ≤ 15) (q1 : 0 < cnt → se 0 = g1) (q2 : 1 < cnt → se 1 = g2) (q3 : 2 < cnt → se 2 = g3) : ∃ (a pl' : Int32) (tr' ps' ct' sy' : Nat → Int32) (s' : Nat), sw_I 6 pl' ∧ sw_R 16 tr' ∧ sw_R 16 ps' ∧ s' ≤ s + 16 ∧ (∀ post : Int32 → SX → Prop, post a (pl', wc, nI r, 0, nI s', dk, ex, tr', ps', ct', wl, wm, rv, rs, rn, re, ty, se, sy') → ((nI cnt = 1 → (wpX_meansDirection (fun r_102 => (((r_102 = 0 → (wX_enter_70 post (nI cnt) (se 0) (se 1) (se 2) pl wc (nI r) 0 (nI s) dk ex tr ps ct wl wm rv rs rn re ty se sy)) ∧ (¬ r_102 = 0 → (wpX_perform post (pl, wc, nI r, 0, nI s, dk, ex, tr, ps, ct, wl, wm, rv, rs, rn, re, ty, se, sy) 0 (se 0 - 10) 0))))) (se 0))) ∧ (¬ nI cnt = 1 → (wX_enter_70 post (nI cnt) (se 0) (se 1) (se 2) pl wc (nI r) 0 (nI s) dk ex tr ps ct wl wm rv rs rn re ty se sy)))) ∧ (∀ post : Int32 → SY → Prop, post a (pl', nI r, wc, 0, nI s', dk, ex, tr', ps', ct', rv, rs, rn, re, ll, wm, ty, sy') → ((nI cnt = 1 → (wpY_in (fun r_151 => (((r_151 = 0 → (wY_enter_177 post (nI cnt) g1 g2 g3 pl (nI r) wc 0 (nI s) dk ex tr ps ct rv rs rn re ll wm ty sy)) ∧ (¬ r_151 = 0 → (wpY_carryOut post (pl, nI r, wc, 0, nI s, dk, ex, tr, ps, ct, rv, rs, rn, re, ll, wm, ty, sy) 0 (g1 - 10) 0))))) (pl, nI r, wc, 0, nI s, dk, ex, tr, ps, ct, rv, rs, rn, re, ll, wm, ty, sy) g1 10 13)) ∧ (¬ nI cnt = 1 → (wY_enter_177 post (nI cnt) g1 g2 g3 pl (nI r) wc 0 (nI s) dk ex tr ps ct rv rs rn re ll wm ty sy)))) := by
  obtain rfl := q1 hc0
  have hcc : cnt = 1 ∨ cnt = 2 ∨ cnt = 3 ∨ 4 ≤ cnt := by omega
  rcases hcc with rfl | rfl | rfl | h4
  · by_cases hd : sw_I 4 (se 0 - 10)
    · obtain ⟨d, hd4, ed⟩ := id hd
      obtain ⟨a, pl', tr', ps', ct', sy', s', i1, i2, i3, i4, hX, hY⟩ := sw_perform (pl := pl) (wc := wc) (tc := 0) (dk := dk) (ex := ex) (tr := tr) (ps := ps) (ct := ct) (wl := wl) (wm := wm) (rv := rv) (rs := rs) (rn := rn) (re := re) (ty := ty) (se := se) (sy := sy) (ll := ll) (vb := 0) (x := d) (y := 0) hr hn he ht hl hp hx hs (by decide) (by omega) (fun _ => hd4) (fun _ => ⟨0, by decide, rfl⟩)
      refine ⟨a, pl', tr', ps', ct', sy', s', i1, i2, i3, i4, fun post h => br_t rfl ?_, fun post h => br_t rfl ?_⟩
      · rw [sw_xMD]
        refine ⟨fun _ => br_f sw_n10 ?_, fun z => absurd hd z⟩
        rw [ed]
        exact hX _ h
      · rw [sw_yin13]
        refine ⟨fun _ => br_f sw_n10 ?_, fun z => absurd hd z⟩
        rw [ed]
        exact hY _ h
    · refine ⟨12, pl, tr, ps, ct, sy, s, hl, ht, hp, by omega, fun post h => br_t rfl ?_, fun post h => br_t rfl ?_⟩
      · rw [sw_xMD]
        exact ⟨fun z => absurd z hd, fun _ => br_t rfl (br_f (by decide) (br_f (by decide) (br_f (by decide) h)))⟩
      · rw [sw_yin13]
        exact ⟨fun z => absurd z hd, fun _ => br_t rfl (br_f (by decide) (br_f (by decide) (br_f (by decide) h)))⟩
  · obtain rfl := q2 (by decide)
    by_cases hA : se 0 = 0 ∧ sw_I 4 (se 1 - 10)
    · obtain ⟨hz, hd⟩ := hA
      obtain ⟨d, hd4, ed⟩ := id hd
      obtain ⟨a, pl', tr', ps', ct', sy', s', i1, i2, i3, i4, hX, hY⟩ := sw_perform (pl := pl) (wc := wc) (tc := 0) (dk := dk) (ex := ex) (tr := tr) (ps := ps) (ct := ct) (wl := wl) (wm := wm) (rv := rv) (rs := rs) (rn := rn) (re := re) (ty := ty) (se := se) (sy := sy) (ll := ll) (vb := 0) (x := d) (y := 0) hr hn he ht hl hp hx hs (by decide) (by omega) (fun _ => hd4) (fun _ => ⟨0, by decide, rfl⟩)
      refine ⟨a, pl', tr', ps', ct', sy', s', i1, i2, i3, i4, fun post h => br_f (by decide) (br_t rfl (br_t hz ?_)), fun post h => br_f (by decide) (br_t rfl (br_t hz ?_))⟩
      · rw [sw_xMD]
        refine ⟨fun _ => br_f sw_n10 ?_, fun z => absurd hd z⟩
        rw [ed]
        exact hX _ h
      · rw [sw_yin13]
        refine ⟨fun _ => br_f sw_n10 ?_, fun z => absurd hd z⟩
        rw [ed]
        exact hY _ h
    · have X70 : ∀ post : Int32 → SX → Prop, wX_enter_97 post (nI 2) (se 0) (se 1) (se 2) pl wc (nI r) 0 (nI s) dk ex tr ps ct wl wm rv rs rn re ty se sy → wX_enter_70 post (nI 2) (se 0) (se 1) (se 2) pl wc (nI r) 0 (nI s) dk ex tr ps ct wl wm rv rs rn re ty se sy := by
        intro post h
        refine br_t rfl (br_c (fun hz => ?_) (fun _ => h))
        rw [sw_xMD]
        exact ⟨fun z => absurd ⟨hz, z⟩ hA, fun _ => br_t rfl h⟩
      have Y177 : ∀ post : Int32 → SY → Prop, wY_enter_212 post (nI 2) (se 0) (se 1) g3 pl (nI r) wc 0 (nI s) dk ex tr ps ct rv rs rn re ll wm ty sy → wY_enter_177 post (nI 2) (se 0) (se 1) g3 pl (nI r) wc 0 (nI s) dk ex tr ps ct rv rs rn re ll wm ty sy := by
        intro post h
        refine br_t rfl (br_c (fun hz => ?_) (fun _ => h))
        rw [sw_yin13]
        exact ⟨fun z => absurd ⟨hz, z⟩ hA, fun _ => br_t rfl h⟩
      by_cases hB : sw_T1 (se 0) ∧ sw_I 8 (se 1 - 20)
      · obtain ⟨hT1, ht8⟩ := hB
        obtain ⟨d, hd8, ed⟩ := id ht8
        obtain ⟨v, hv6, hv0, ev⟩ := sw_T1_v hT1
        obtain ⟨a, pl', tr', ps', ct', sy', s', i1, i2, i3, i4, hX, hY⟩ := sw_perform (pl := pl) (wc := wc) (tc := 0) (dk := dk) (ex := ex) (tr := tr) (ps := ps) (ct := ct) (wl := wl) (wm := wm) (rv := rv) (rs := rs) (rn := rn) (re := re) (ty := ty) (se := se) (sy := sy) (ll := ll) (vb := v) (x := d) (y := 0) hr hn he ht hl hp hx hs hv6 hd8 (fun z => absurd z hv0) (fun _ => ⟨0, by decide, rfl⟩)
        refine ⟨a, pl', tr', ps', ct', sy', s', i1, i2, i3, i4, fun post h => br_f (by decide) (X70 post (br_t rfl (sw_xto (fun _ => br_f sw_n10 ?_) (fun z => absurd hT1 z)))), fun post h => br_f (by decide) (Y177 post (sw_y212 (fun _ => ?_) (fun z => absurd hT1 z)))⟩
        · rw [sw_xMT]
          refine ⟨fun _ => br_f sw_n10 ?_, fun z => absurd ht8 z⟩
          rw [ed, ev]
          exact hX _ h
        · unfold wY_enter_241
          rw [sw_yin27]
          refine ⟨fun _ => br_f sw_n10 ?_, fun z => absurd ht8 z⟩
          rw [ed, ev]
          exact hY _ h
      · refine ⟨12, pl, tr, ps, ct, sy, s, hl, ht, hp, by omega, fun post h => br_f (by decide) (X70 post (br_t rfl (sw_xto (fun z1 => br_f sw_n10 ?_) (fun _ => br_t rfl (br_f (by decide) h))))), fun post h => br_f (by decide) (Y177 post (sw_y212 (fun z1 => ?_) (fun _ => br_f (by decide) h)))⟩
        · rw [sw_xMT]
          exact ⟨fun z => absurd ⟨z1, z⟩ hB, fun _ => br_t rfl (br_f (by decide) h)⟩
        · unfold wY_enter_241
          rw [sw_yin27]
          exact ⟨fun z => absurd ⟨z1, z⟩ hB, fun _ => br_t rfl (br_f (by decide) h)⟩
  · obtain rfl := q2 (by decide)
    obtain rfl := q3 (by decide)
    have X70 : ∀ post : Int32 → SX → Prop, wX_enter_127 post (nI 3) (se 0) (se 1) (se 2) pl wc (nI r) 0 (nI s) dk ex tr ps ct wl wm rv rs rn re ty se sy → wX_enter_70 post (nI 3) (se 0) (se 1) (se 2) pl wc (nI r) 0 (nI s) dk ex tr ps ct wl wm rv rs rn re ty se sy := fun post h => br_f (by decide) (br_f (by decide) h)
    have Y177 : ∀ post : Int32 → SY → Prop, wY_enter_267 post (nI 3) (se 0) (se 1) (se 2) pl (nI r) wc 0 (nI s) dk ex tr ps ct rv rs rn re ll wm ty sy → wY_enter_177 post (nI 3) (se 0) (se 1) (se 2) pl (nI r) wc 0 (nI s) dk ex tr ps ct rv rs rn re ll wm ty sy := fun post h => br_f (by decide) (br_f (by decide) h)
    by_cases hA : se 0 = 3 ∧ sw_I 8 (se 1 - 20) ∧ sw_I 8 (se 2 - 20)
    · obtain ⟨hz, ha, hb⟩ := hA
      obtain ⟨d, hd8, ed⟩ := id ha
      obtain ⟨f, hf8, ef⟩ := id hb
      obtain ⟨a, pl', tr', ps', ct', sy', s', i1, i2, i3, i4, hX, hY⟩ := sw_perform (pl := pl) (wc := wc) (tc := 0) (dk := dk) (ex := ex) (tr := tr) (ps := ps) (ct := ct) (wl := wl) (wm := wm) (rv := rv) (rs := rs) (rn := rn) (re := re) (ty := ty) (se := se) (sy := sy) (ll := ll) (vb := 3) (x := d) (y := nI f) hr hn he ht hl hp hx hs (by decide) hd8 (fun z => absurd z (by decide)) (fun _ => ⟨f, hf8, rfl⟩)
      refine ⟨a, pl', tr', ps', ct', sy', s', i1, i2, i3, i4, fun post h => br_f (by decide) (X70 post (br_t rfl (br_t hz ?_))), fun post h => br_f (by decide) (Y177 post (br_t rfl (br_t hz ?_)))⟩
      · rw [sw_xMT]
        refine ⟨fun _ => br_f sw_n10 ?_, fun z => absurd ha z⟩
        rw [sw_xMT]
        refine ⟨fun _ => br_f sw_n10 ?_, fun z => absurd hb z⟩
        rw [ed, ef]
        exact hX _ h
      · rw [sw_yin27]
        refine ⟨fun _ => br_f sw_n10 ?_, fun z => absurd ha z⟩
        rw [sw_yin27]
        refine ⟨fun _ => br_f sw_n10 ?_, fun z => absurd hb z⟩
        rw [ed, ef]
        exact hY _ h
    · refine ⟨12, pl, tr, ps, ct, sy, s, hl, ht, hp, by omega, fun post h => br_f (by decide) (X70 post (br_t rfl (br_c (fun hz => ?_) (fun _ => h)))), fun post h => br_f (by decide) (Y177 post (br_t rfl (br_c (fun hz => ?_) (fun _ => h))))⟩
      · rw [sw_xMT]
        refine ⟨fun ha => br_f sw_n10 ?_, fun _ => br_t rfl h⟩
        rw [sw_xMT]
        exact ⟨fun hb => absurd ⟨hz, ha, hb⟩ hA, fun _ => br_t rfl h⟩
      · rw [sw_yin27]
        refine ⟨fun ha => br_f sw_n10 ?_, fun _ => br_t rfl h⟩
        rw [sw_yin27]
        exact ⟨fun hb => absurd ⟨hz, ha, hb⟩ hA, fun _ => br_t rfl h⟩
  · have n1 : ¬ nI cnt = 1 := fun z => by have := (nI_eq (b := 1) (by omega) (by decide)).mp z; omega
    have n2 : ¬ nI cnt = 2 := fun z => by have := (nI_eq (b := 2) (by omega) (by decide)).mp z; omega
    have n3 : ¬ nI cnt = 3 := fun z => by have := (nI_eq (b := 3) (by omega) (by decide)).mp z; omega
    exact ⟨12, pl, tr, ps, ct, sy, s, hl, ht, hp, by omega, fun post h => br_f n1 (br_f n2 (br_f n2 (br_f n3 h))), fun post h => br_f n1 (br_f n2 (br_f n2 (br_f n3 h)))⟩
end
