/-! what has been typed, read by both sides -/
def sw_T (t : Nat) (ty : Nat → Int32) : Prop := ∀ j, j < t → ∃ m, (m = 32 ∨ (97 ≤ m ∧ m ≤ 122)) ∧ ty j = nI m
def sw_c (ty : Nat → Int32) : Nat → Nat := fun j => (ty j).toNatClampNeg - 96
theorem sw_c_lt {t : Nat} {ty : Nat → Int32} (h : sw_T t ty) : ∀ j, j < t → sw_c ty j < 27 := by
  intro j hj
  obtain ⟨m, hm, e⟩ := h j hj
  unfold sw_c
  rw [e, nI_clamp (by omega)]
  omega
theorem sw_c_eq {ty : Nat → Int32} {j m : Nat} (h1 : m < 2 ^ 31) (e : ty j = nI m) : sw_c ty j = m - 96 := by
  unfold sw_c
  rw [e, nI_clamp h1]
theorem sw_enc_q {c : Nat → Nat} {s i : Nat} (h : 0 < c s) (hs : s < i) : 0 < sw_enc c s i := by
  have h2 := sw_tl_t (c := c) hs
  unfold sw_enc
  omega
section
variable {pl wc rc tc sc : Int32} {dk ex tr ps ct wl wm rv rs rn re ty se sy ll : Nat → Int32}
theorem sw_ytl {post : Int32 → Prop} {x : Int32} {j i s : Nat} (hx : x = nI j) (hs : s ≤ j) (hj : j < 2 ^ 30) (hi : i ≤ 30) (hl : ∀ j, s ≤ j → j < i → ∃ m, 97 ≤ m ∧ m ≤ 122 ∧ ty j = nI m) (h : post (nI (sw_tl (sw_c ty) j i))) : wpY_typedLetter post (pl, rc, wc, tc, sc, dk, ex, tr, ps, ct, rv, rs, rn, re, ll, wm, ty, sy) x (nI i) := by
  subst hx
  by_cases hji : j < i
  · obtain ⟨m, h1, h2, e⟩ := hl j hs hji
    have es : nI m - 96 = nI (m - 96) := pk_sub (b := 96) (by omega)
    rw [sw_tl_t hji, sw_c_eq (by omega) e] at h
    refine br_f (nI_ge hji (by omega)) ⟨vp_in_nI (by omega) (by decide), ?_⟩
    rw [nI_clamp (by omega), e, es]
    exact h
  · rw [sw_tl_f (by omega)] at h
    exact br_t (nI_le (by omega) (by omega)) h
theorem sw_ymo {post : Int32 → Prop} {w s i k : Nat} (hk : k ≤ w) (hw : w ≤ 24) (hsi : s < i) (hi : i ≤ 30) (hl : ∀ j, s ≤ j → j < i → ∃ m, 97 ≤ m ∧ m ≤ 122 ∧ ty j = nI m) (hb : ∀ j, j < i → sw_c ty j < 27) (hf : ∀ post : Int32 → Prop, (k < w → post (nI k)) → (k = w → post (-1)) → wpY_find post (pl, rc, nI w, tc, sc, dk, ex, tr, ps, ct, rv, rs, rn, re, ll, wm, ty, sy) (nI (sw_enc (sw_c ty) s i % 27)) (nI (sw_enc (sw_c ty) s i / 27 % 27)) (nI (sw_enc (sw_c ty) s i / 729 % 27)) (nI (sw_enc (sw_c ty) s i / 19683 % 27))) (h1 : k < w → post (wm k)) (h2 : k = w → post (-1)) : wpY_meaningOf post (pl, rc, nI w, tc, sc, dk, ex, tr, ps, ct, rv, rs, rn, re, ll, wm, ty, sy) (nI s) (nI i) := by
  obtain ⟨_, e0, e1, e2, e3⟩ := sw_enc_d hb s
  rw [e0, e1, e2, e3] at hf
  unfold wpY_meaningOf
  refine sw_ytl (s := s) rfl (Nat.le_refl _) (by omega) hi hl ?_
  refine sw_ytl (s := s) (nI_1 s) (by omega) (by omega) hi hl ?_
  refine sw_ytl (s := s) (nI_add s 2) (by omega) (by omega) hi hl ?_
  refine sw_ytl (s := s) (nI_add s 3) (by omega) (by omega) hi hl ?_
  refine hf _ (fun hkw => br_t (nI_pos' (by omega)) ⟨vp_in_nI (by omega) (by decide), ?_⟩) (fun hkw => br_f (by decide) (h2 hkw))
  rw [nI_clamp (by omega)]
  exact h1 hkw
theorem sw_y80 {post : Int32 → SY → Prop} {J : Int32 → Int32 → Int32 → Int32 → Int32 → Int32 → Int32 → Prop} {x1 z f1 f2 f3 : Int32} {cnt i : Nat} (hc : cnt < 100) (hz : ¬ z = 30) (h : J x1 (nI (cnt + 1)) (if cnt = 0 then z else f1) (if cnt = 1 then z else f2) (if cnt = 2 then z else f3) (nI (i + 1)) (nI (i + 1))) : wY_enter_80 post J x1 (nI cnt) f1 f2 f3 (nI i) z pl rc wc tc sc dk ex tr ps ct rv rs rn re ll wm ty sy := by
  refine br_f hz ?_
  by_cases c0 : cnt = 0
  · subst c0
    exact br_t rfl (br_f (by decide) (br_f (by decide) (nm_r (nI_1 0) (nm_r (nI_1 i) (nm_r (nI_1 i) h)))))
  · refine br_f (fun y => c0 ((nI_eq (b := 0) (by omega) (by decide)).mp y)) ?_
    rw [if_neg c0] at h
    by_cases c1 : cnt = 1
    · subst c1
      exact br_t rfl (br_f (by decide) (nm_r (nI_1 1) (nm_r (nI_1 i) (nm_r (nI_1 i) h))))
    · refine br_f (fun y => c1 ((nI_eq (b := 1) (by omega) (by decide)).mp y)) ?_
      rw [if_neg c1] at h
      by_cases c2 : cnt = 2
      · subst c2
        exact br_t rfl (nm_r (nI_1 2) (nm_r (nI_1 i) (nm_r (nI_1 i) h)))
      · refine br_f (fun y => c2 ((nI_eq (b := 2) (by omega) (by decide)).mp y)) ?_
        rw [if_neg c2] at h
        exact nm_r (nI_1 cnt) (nm_r (nI_1 i) (nm_r (nI_1 i) h))
/-- once a word is unknown, it stays so -/
theorem sw_y80u {post : Int32 → SY → Prop} {J : Int32 → Int32 → Int32 → Int32 → Int32 → Int32 → Int32 → Prop} {c z f1 f2 f3 : Int32} {i : Nat} (h : ∀ c g1 g2 g3 : Int32, J 1 c g1 g2 g3 (nI (i + 1)) (nI (i + 1))) : wY_enter_80 post J 1 c f1 f2 f3 (nI i) z pl rc wc tc sc dk ex tr ps ct rv rs rn re ll wm ty sy := by
  have h104 : ∀ f1 f2 f3 : Int32, wY_enter_104 post J 1 c f1 f2 f3 (nI i) z pl rc wc tc sc dk ex tr ps ct rv rs rn re ll wm ty sy := fun f1 f2 f3 => br_c (fun _ => nm_e (nm_r (nI_1 i) (nm_r (nI_1 i) (h _ _ _ _)))) (fun _ => nm_e (nm_r (nI_1 i) (nm_r (nI_1 i) (h _ _ _ _))))
  have h95 : ∀ f1 f2 f3 : Int32, wY_enter_95 post J 1 c f1 f2 f3 (nI i) z pl rc wc tc sc dk ex tr ps ct rv rs rn re ll wm ty sy := fun f1 f2 f3 => br_c (fun _ => h104 _ _ _) (fun _ => h104 _ _ _)
  exact br_c (fun _ => nm_r (nI_1 i) (nm_r (nI_1 i) (h _ _ _ _))) (fun _ => br_c (fun _ => h95 _ _ _) (fun _ => h95 _ _ _))
theorem sw_unk {w t : Nat} (hw : w ≤ 24) (ht : t ≤ 30) (hW : sw_W w wl ll) (hT : sw_T t ty) : ∀ (d i s : Nat) (c f1 f2 f3 : Int32), i + d = t + 1 → s ≤ i → (∀ j, s ≤ j → j < i → ∃ m, 97 ≤ m ∧ m ≤ 122 ∧ ty j = nI m) → ∀ (post : Int32 → SY → Prop) (n : Nat), (∀ c g1 g2 g3 z : Int32, wY_enter_21 post pl rc (nI w) (nI t) sc dk ex tr ps ct rv rs rn re ll wm ty sy (n + 1) 1 c g1 g2 g3 z (nI (t + 1))) → wY_enter_21 post pl rc (nI w) (nI t) sc dk ex tr ps ct rv rs rn re ll wm ty sy (n + 1 + d) 1 c f1 f2 f3 (nI s) (nI i) := by
  intro d
  induction d with
  | zero =>
    intro i s c f1 f2 f3 hi hs hl post n h
    obtain rfl : i = t + 1 := by omega
    exact h _ _ _ _ _
  | succ d ih =>
    intro i s c f1 f2 f3 hi hs hl post n h
    have hnext : ∀ c g1 g2 g3 : Int32, wY_enter_21 post pl rc (nI w) (nI t) sc dk ex tr ps ct rv rs rn re ll wm ty sy (n + 1 + d) 1 c g1 g2 g3 (nI (i + 1)) (nI (i + 1)) := fun c g1 g2 g3 => ih (i + 1) (i + 1) c g1 g2 g3 (by omega) (Nat.le_refl _) (fun j h1 h2 => by omega) post n h
    have h71 : ∀ z : Int32, wY_enter_71 post (wY_enter_21 post pl rc (nI w) (nI t) sc dk ex tr ps ct rv rs rn re ll wm ty sy (n + 1 + d)) 1 c f1 f2 f3 (nI i) z pl rc (nI w) (nI t) sc dk ex tr ps ct rv rs rn re ll wm ty sy := fun z => br_c (fun _ => sw_y80u hnext) (fun _ => sw_y80u hnext)
    have h51 : wY_enter_51 post (wY_enter_21 post pl rc (nI w) (nI t) sc dk ex tr ps ct rv rs rn re ll wm ty sy (n + 1 + d)) 1 c f1 f2 f3 (nI s) (nI i) pl rc (nI w) (nI t) sc dk ex tr ps ct rv rs rn re ll wm ty sy := by
      by_cases hsi : s < i
      · have hb : ∀ j, j < i → sw_c ty j < 27 := fun j hj => sw_c_lt hT j (by omega)
        obtain ⟨k, hk, _, hY⟩ := sw_find (pl := pl) (rc := rc) (tc := nI t) (sc := sc) (dk := dk) (ex := ex) (tr := tr) (ps := ps) (ct := ct) (wl := wl) (wm := wm) (rv := rv) (rs := rs) (rn := rn) (re := re) (ty := ty) (se := ty) (sy := sy) (ll := ll) hw hW (sw_enc_d hb s).1
        exact br_f (nI_ge hsi (by omega)) (sw_ymo hk hw hsi (by omega) hl hb hY (fun _ => h71 _) (fun _ => h71 _))
      · exact br_t (nI_le (by omega) (by omega)) (h71 _)
    refine br_f (nI_nlt (by omega) (by omega)) ?_
    by_cases hit : i = t
    · exact br_t (by rw [hit]) h51
    · refine br_f (fun z => hit ((nI_eq (by omega) (by omega)).mp z)) ⟨vp_in_nI (by omega) (by decide), ?_⟩
      rw [nI_clamp (by omega)]
      obtain ⟨m, hm, e⟩ := hT i (by omega)
      rcases hm with rfl | hm
      · exact br_t e h51
      · refine br_f ?_ (nm_r (nI_1 i) (ih (i + 1) s c f1 f2 f3 (by omega) (by omega) ?_ post n h))
        · rw [e]
          exact fun z => by have := (nI_eq (b := 32) (by omega) (by decide)).mp z; omega
        · intro j h1 h2
          by_cases hji : j = i
          · subst hji
            exact ⟨m, hm.1, hm.2, e⟩
          · exact hl j h1 (by omega)
/-- a word's end -/
theorem sw_end {w s i cnt : Nat} {f1 f2 f3 : Int32} (hw : w ≤ 24) (hW : sw_W w wl ll) (hm : sw_R 31 wm) (hsi : s ≤ i) (hi : i ≤ 30) (hl : ∀ j, s ≤ j → j < i → ∃ m, 97 ≤ m ∧ m ≤ 122 ∧ ty j = nI m) (hb : ∀ j, j < i → sw_c ty j < 27) (hcnt : 2 * cnt ≤ s) (q1 : 0 < cnt → se 0 = f1) (q2 : 1 < cnt → se 1 = f2) (q3 : 2 < cnt → se 2 = f3) :
    (∃ (cnt2 : Nat) (se2 : Nat → Int32) (g1 g2 g3 : Int32), 2 * cnt2 ≤ i + 1 ∧ (0 < cnt2 → se2 0 = g1) ∧ (1 < cnt2 → se2 1 = g2) ∧ (2 < cnt2 → se2 2 = g3) ∧ (∀ (post : Int32 → SX → Prop) (J : Int32 → Int32 → Int32 → Int32 → (Nat → Int32) → (Nat → Int32) → (Nat → Int32) → (Nat → Int32) → (Nat → Int32) → (Nat → Int32) → (Nat → Int32) → (Nat → Int32) → (Nat → Int32) → (Nat → Int32) → (Nat → Int32) → (Nat → Int32) → (Nat → Int32) → (Nat → Int32) → Prop), J (nI cnt2) 0 1 (nI (i + 1)) dk ex tr ps ct wl wm rv rs rn re ty se2 sy → wX_readSentence_39 post J (nI cnt) (nI (sw_enc (sw_c ty) s i)) (nI (sw_wt (i - s))) (nI i) 32 pl (nI w) rc tc sc dk ex tr ps ct wl wm rv rs rn re ty se sy) ∧ (∀ (post : Int32 → SY → Prop) (J : Int32 → Int32 → Int32 → Int32 → Int32 → Int32 → Int32 → Prop), J 0 (nI cnt2) g1 g2 g3 (nI (i + 1)) (nI (i + 1)) → wY_enter_51 post J 0 (nI cnt) f1 f2 f3 (nI s) (nI i) pl rc (nI w) tc sc dk ex tr ps ct rv rs rn re ll wm ty sy))
    ∨ ((∀ (post : Int32 → SX → Prop) (J : Int32 → Int32 → Int32 → Int32 → (Nat → Int32) → (Nat → Int32) → (Nat → Int32) → (Nat → Int32) → (Nat → Int32) → (Nat → Int32) → (Nat → Int32) → (Nat → Int32) → (Nat → Int32) → (Nat → Int32) → (Nat → Int32) → (Nat → Int32) → (Nat → Int32) → (Nat → Int32) → Prop), post (-1) (pl, nI w, rc, tc, sc, dk, ex, tr, ps, ct, wl, wm, rv, rs, rn, re, ty, se, sy) → wX_readSentence_39 post J (nI cnt) (nI (sw_enc (sw_c ty) s i)) (nI (sw_wt (i - s))) (nI i) 32 pl (nI w) rc tc sc dk ex tr ps ct wl wm rv rs rn re ty se sy) ∧ (∀ (post : Int32 → SY → Prop) (J : Int32 → Int32 → Int32 → Int32 → Int32 → Int32 → Int32 → Prop), (∀ c g1 g2 g3 : Int32, J 1 c g1 g2 g3 (nI (i + 1)) (nI (i + 1))) → wY_enter_51 post J 0 (nI cnt) f1 f2 f3 (nI s) (nI i) pl rc (nI w) tc sc dk ex tr ps ct rv rs rn re ll wm ty sy)) := by
  by_cases hs : s < i
  · obtain ⟨hL, _⟩ := sw_enc_d hb s
    obtain ⟨m0, h97, h122, em0⟩ := hl s (Nat.le_refl _) hs
    have hpos : 0 < sw_enc (sw_c ty) s i := sw_enc_q (by rw [sw_c_eq (by omega) em0]; omega) hs
    obtain ⟨k, hk, hX, hY⟩ := sw_find (pl := pl) (rc := rc) (tc := tc) (sc := sc) (dk := dk) (ex := ex) (tr := tr) (ps := ps) (ct := ct) (wl := wl) (wm := wm) (rv := rv) (rs := rs) (rn := rn) (re := re) (ty := ty) (se := se) (sy := sy) (ll := ll) hw hW hL
    have hn0 : ¬ nI (sw_enc (sw_c ty) s i) ≤ 0 := nI_nle hpos (by omega)
    have hle : ¬ nI i ≤ nI s := nI_ge hs (by omega)
    by_cases hkw : k = w
    · refine Or.inr ⟨fun post J h => ?_, fun post J h => ?_⟩
      · exact br_t rfl (br_f hn0 (hX _ (br_t (by rw [hkw]) h)))
      · exact br_f hle (sw_ymo hk hw hs hi hl hb hY (fun z => absurd hkw (by omega)) (fun _ => br_f (by decide) (sw_y80u h)))
    · have hkne : ¬ nI k = nI w := fun z => hkw ((nI_eq (by omega) (by omega)).mp z)
      have hv : vp_in (nI k) 24 := vp_in_nI (by omega) (by decide)
      have hck : (nI k).toNatClampNeg = k := nI_clamp (by omega)
      obtain ⟨z, hz, ez⟩ := hm k
      have hz0 : 0 ≤ wm k := by rw [ez]; exact nI_pos' (by omega)
      by_cases h30 : wm k = 30
      · refine Or.inl ⟨cnt, se, f1, f2, f3, by omega, q1, q2, q3, fun post J h => ?_, fun post J h => ?_⟩
        · refine br_t rfl (br_f hn0 (hX _ (br_f hkne ⟨hv, ?_⟩)))
          rw [hck]
          exact br_t h30 (nm_r (nI_1 i) h)
        · exact br_f hle (sw_ymo hk hw hs hi hl hb hY (fun _ => br_t hz0 (br_t h30 (nm_r (nI_1 i) (nm_r (nI_1 i) h)))) (fun y => absurd y hkw))
      · refine Or.inl ⟨cnt + 1, upd se cnt (wm k), if cnt = 0 then wm k else f1, if cnt = 1 then wm k else f2, if cnt = 2 then wm k else f3, by omega, ?_, ?_, ?_, fun post J h => ?_, fun post J h => ?_⟩
        · intro _
          by_cases c : cnt = 0
          · rw [if_pos c, c, pk_us]
          · rw [if_neg c, pk_un (by omega)]
            exact q1 (by omega)
        · intro _
          by_cases c : cnt = 1
          · rw [if_pos c, c, pk_us]
          · rw [if_neg c, pk_un (by omega)]
            exact q2 (by omega)
        · intro _
          by_cases c : cnt = 2
          · rw [if_pos c, c, pk_us]
          · rw [if_neg c, pk_un (by omega)]
            exact q3 (by omega)
        · refine br_t rfl (br_f hn0 (hX _ (br_f hkne ⟨hv, ?_⟩)))
          rw [hck]
          refine br_f h30 (br_f (nI_ge (b := 15) (by omega) (by decide)) ⟨hv, vp_in_nI (by omega) (by decide), nm_r (e' := upd se cnt (wm k)) (by rw [nI_clamp (by omega)]) (nm_r (nI_1 cnt) (nm_r (nI_1 i) h))⟩)
        · exact br_f hle (sw_ymo hk hw hs hi hl hb hY (fun _ => br_t hz0 (sw_y80 (by omega) h30 h)) (fun y => absurd y hkw))
  · obtain rfl : s = i := by omega
    refine Or.inl ⟨cnt, se, f1, f2, f3, by omega, q1, q2, q3, fun post J h => ?_, fun post J h => ?_⟩
    · rw [sw_enc_0, Nat.sub_self]
      exact br_t rfl (br_t (by decide) (nm_r (nI_1 s) h))
    · exact br_t (Int32.le_refl _) (br_t (by decide) (br_t rfl (nm_r (nI_1 s) (nm_r (nI_1 s) h))))
end
