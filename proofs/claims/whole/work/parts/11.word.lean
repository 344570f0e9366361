/-! word; a new object -/
section
variable {pl wc rc tc sc : Int32} {dk ex tr ps ct wl wm rv rs rn re ty se sy ll : Nat → Int32}
theorem sw_W_u {w n : Nat} (hW : sw_W w wl ll) (hn : n < 531441) : sw_W (w + 1) (upd wl w (nI n)) (upd (upd (upd (upd ll (4 * w) (nI (n % 27))) (4 * w + 1) (nI (n / 27 % 27))) (4 * w + 2) (nI (n / 729 % 27))) (4 * w + 3) (nI (n / 19683 % 27))) := by
  intro i hi
  by_cases e : i = w
  · subst e
    refine ⟨n, hn, pk_us, ?_, ?_, ?_, pk_us⟩
    · rw [pk_un (by omega), pk_un (by omega), pk_un (by omega), pk_us]
    · rw [pk_un (by omega), pk_un (by omega), pk_us]
    · rw [pk_un (by omega), pk_us]
  · obtain ⟨m, hm, e0, e1, e2, e3, e4⟩ := hW i (by omega)
    refine ⟨m, hm, ?_, ?_, ?_, ?_, ?_⟩
    · rw [pk_un e]; exact e0
    · rw [pk_un (by omega), pk_un (by omega), pk_un (by omega), pk_un (by omega)]; exact e1
    · rw [pk_un (by omega), pk_un (by omega), pk_un (by omega), pk_un (by omega)]; exact e2
    · rw [pk_un (by omega), pk_un (by omega), pk_un (by omega), pk_un (by omega)]; exact e3
    · rw [pk_un (by omega), pk_un (by omega), pk_un (by omega), pk_un (by omega)]; exact e4
theorem sw_ywl {post : Int32 → SY → Prop} {w n k : Nat} {v2 : Int32} (hn : n < 531441) (hO : sw_O (nI n)) (hM : sw_Mn v2) (hf : ∀ post : Int32 → Prop, (k < w → post (nI k)) → (k = w → post (-1)) → wpY_find post (pl, rc, nI w, tc, sc, dk, ex, tr, ps, ct, rv, rs, rn, re, ll, wm, ty, sy) (nI (n % 27)) (nI (n / 27 % 27)) (nI (n / 729 % 27)) (nI (n / 19683 % 27))) (hw : w ≤ 24) (h1 : k < w → wY_word_149 post v2 (nI k) pl rc (nI w) tc sc dk ex tr ps ct rv rs rn re ll wm ty sy) (h2 : k = w → w = 24 → post (-2) (pl, rc, nI w, tc, sc, dk, ex, tr, ps, ct, rv, rs, rn, re, ll, wm, ty, sy)) (h3 : k = w → w < 24 → wY_word_149 post v2 (nI w) pl rc (nI (w + 1)) tc sc dk ex tr ps ct rv rs rn re (upd (upd (upd (upd ll (4 * w) (nI (n % 27))) (4 * w + 1) (nI (n / 27 % 27))) (4 * w + 2) (nI (n / 729 % 27))) (4 * w + 3) (nI (n / 19683 % 27))) wm ty sy) : wpY_word post (pl, rc, nI w, tc, sc, dk, ex, tr, ps, ct, rv, rs, rn, re, ll, wm, ty, sy) (nI n) v2 := by
  unfold wpY_word
  refine sw_yword (fun _ => br_f sw_n10 (sw_ymeans (fun _ => br_f sw_n10 ?_) (fun z => absurd hM z))) (fun z => absurd hO z)
  refine sw_ylet 0 (by decide) (by omega) (sw_ylet 1 (by decide) (by omega) (sw_ylet 2 (by decide) (by omega) (sw_ylet 3 (by decide) (by omega) ?_)))
  have e0 : n / 27 ^ 0 % 27 = n % 27 := by rw [Nat.pow_zero, Nat.div_one]
  have e1 : n / 27 ^ 1 % 27 = n / 27 % 27 := rfl
  have e2 : n / 27 ^ 2 % 27 = n / 729 % 27 := rfl
  have e3 : n / 27 ^ 3 % 27 = n / 19683 % 27 := rfl
  rw [e0, e1, e2, e3]
  refine hf _ (fun hk => br_t (nI_pos' (by omega)) (br_t (nI_pos' (by omega)) (h1 hk))) (fun hk => br_f (by decide) (pk_eq w 24 (fun h => h2 hk h) (fun h => br_f (by decide) (nm_r (nI_1 w) ?_))))
  have e4 : 4 * nI w = nI (4 * w) := pk_mul 4 w
  have e41 : nI (4 * w) + 1 = nI (4 * w + 1) := nI_1 _
  have e42 : nI (4 * w) + 2 = nI (4 * w + 2) := nI_add _ 2
  have e43 : nI (4 * w) + 3 = nI (4 * w + 3) := nI_add _ 3
  have c0 : (nI (4 * w)).toNatClampNeg = 4 * w := nI_clamp (by omega)
  have c1 : (nI (4 * w + 1)).toNatClampNeg = 4 * w + 1 := nI_clamp (by omega)
  have c2 : (nI (4 * w + 2)).toNatClampNeg = 4 * w + 2 := nI_clamp (by omega)
  have c3 : (nI (4 * w + 3)).toNatClampNeg = 4 * w + 3 := nI_clamp (by omega)
  rw [e4, e41, e42, e43, c0, c1, c2, c3]
  exact ⟨vp_in_nI (by omega) (by decide), nm_e ⟨vp_in_nI (by omega) (by decide), nm_e ⟨vp_in_nI (by omega) (by decide), nm_e ⟨vp_in_nI (by omega) (by decide), nm_e (h3 hk (by omega))⟩⟩⟩⟩
theorem sw_word {w : Nat} (hw : w ≤ 24) (hW : sw_W w wl ll) (hm : sw_R 31 wm) (v1 v2 : Int32) : ∃ (a : Int32) (w' : Nat) (wl' wm' ll' : Nat → Int32), w' ≤ 24 ∧ sw_W w' wl' ll' ∧ sw_R 31 wm' ∧ (∀ post : Int32 → SX → Prop, post a (pl, nI w', rc, tc, sc, dk, ex, tr, ps, ct, wl', wm', rv, rs, rn, re, ty, se, sy) → wpX_word post (pl, nI w, rc, tc, sc, dk, ex, tr, ps, ct, wl, wm, rv, rs, rn, re, ty, se, sy) v1 v2) ∧ (∀ post : Int32 → SY → Prop, post a (pl, rc, nI w', tc, sc, dk, ex, tr, ps, ct, rv, rs, rn, re, ll', wm', ty, sy) → wpY_word post (pl, rc, nI w, tc, sc, dk, ex, tr, ps, ct, rv, rs, rn, re, ll, wm, ty, sy) v1 v2) := by
  by_cases hO : sw_O v1
  · by_cases hM : sw_Mn v2
    · obtain ⟨n, hn, hok, rfl⟩ := id hO
      obtain ⟨m, hm31, rfl⟩ := sw_Mn_31 hM
      obtain ⟨k, hk, hX, hY⟩ := sw_find (pl := pl) (rc := rc) (tc := tc) (sc := sc) (dk := dk) (ex := ex) (tr := tr) (ps := ps) (ct := ct) (wl := wl) (wm := wm) (rv := rv) (rs := rs) (rn := rn) (re := re) (ty := ty) (se := se) (sy := sy) (ll := ll) hw hW hn
      by_cases hkw : k = w
      · subst hkw
        by_cases h24 : k = 24
        · refine ⟨-2, k, wl, wm, ll, hw, hW, hm, fun post h => ?_, fun post h => sw_ywl hn hO hM hY hw (fun z => absurd z (by omega)) (fun _ _ => h) (fun _ z => absurd z (by omega))⟩
          unfold wpX_word
          refine sw_xletters (fun _ => br_f sw_n10 (sw_xmean (fun _ => br_f sw_n10 (hX _ (br_t rfl (br_f ?_ h)))) (fun z => absurd hM z))) (fun z => absurd hO z)
          exact nI_nlt (b := 24) (by omega) (by omega)
        · refine ⟨nI (k + 1), k + 1, upd wl k (nI n), upd wm k (nI m), _, by omega, sw_W_u hW hn, sw_R_u hm k hm31, fun post h => ?_, fun post h => sw_ywl hn hO hM hY hw (fun z => absurd z (by omega)) (fun _ z => absurd z h24) (fun _ _ => ⟨vp_in_nI (by omega) (by decide), nm_r (e' := upd wm k (nI m)) (by rw [nI_clamp (by omega)]) h⟩)⟩
          unfold wpX_word
          refine sw_xletters (fun _ => br_f sw_n10 (sw_xmean (fun _ => br_f sw_n10 (hX _ (br_t rfl (br_t ?_ ⟨vp_in_nI (by omega) (by decide), nm_r (e' := upd wl k (nI n)) (by rw [nI_clamp (by omega)]) (nm_r (nI_1 k) ⟨vp_in_nI (by omega) (by decide), nm_r (e' := upd wm k (nI m)) (by rw [nI_clamp (by omega)]) h⟩)⟩)))) (fun z => absurd hM z))) (fun z => absurd hO z)
          exact nI_lt (b := 24) (by omega) (by decide)
      · refine ⟨nI w, w, wl, upd wm k (nI m), ll, hw, hW, sw_R_u hm k hm31, fun post h => ?_, fun post h => sw_ywl hn hO hM hY hw (fun z => ⟨vp_in_nI (by omega) (by decide), nm_r (e' := upd wm k (nI m)) (by rw [nI_clamp (by omega)]) h⟩) (fun z _ => absurd z hkw) (fun z _ => absurd z hkw)⟩
        unfold wpX_word
        refine sw_xletters (fun _ => br_f sw_n10 (sw_xmean (fun _ => br_f sw_n10 (hX _ (br_f ?_ ⟨vp_in_nI (by omega) (by decide), nm_r (e' := upd wm k (nI m)) (by rw [nI_clamp (by omega)]) h⟩))) (fun z => absurd hM z))) (fun z => absurd hO z)
        exact fun z => hkw ((nI_eq (by omega) (by omega)).mp z)
    · refine ⟨-1, w, wl, wm, ll, hw, hW, hm, fun post h => ?_, fun post h => ?_⟩
      · unfold wpX_word
        exact sw_xletters (fun _ => br_f sw_n10 (sw_xmean (fun z => absurd z hM) (fun _ => br_t rfl h))) (fun z => absurd hO z)
      · unfold wpY_word
        exact sw_yword (fun _ => br_f sw_n10 (sw_ymeans (fun z => absurd z hM) (fun _ => br_t rfl h))) (fun z => absurd hO z)
  · refine ⟨-1, w, wl, wm, ll, hw, hW, hm, fun post h => ?_, fun post h => ?_⟩
    · unfold wpX_word
      exact sw_xletters (fun z => absurd z hO) (fun _ => br_t rfl h)
    · unfold wpY_word
      exact sw_yword (fun z => absurd z hO) (fun _ => br_t rfl h)
/-! a new object -/
def sw_fill (v : Int32) : Nat → (Nat → Int32) → Nat → Nat → Int32
  | 0, a, _ => a
  | d + 1, a, i => sw_fill v d (upd a i v) (i + 1)
theorem sw_fill_R {n m : Nat} (hm : m < n) : ∀ (d : Nat) (a : Nat → Int32) (i : Nat), sw_R n a → sw_R n (sw_fill (nI m) d a i) := by
  intro d
  induction d with
  | zero => intro a i h; exact h
  | succ d ih => intro a i h; exact ih _ _ (sw_R_u h i hm)
theorem sw_X_u {v : Int32} {i : Nat} (h : sw_X ex) (hv : v = -1 ∨ sw_I 6 v) : sw_X (upd ex i v) := by
  intro j
  by_cases e : j = i
  · subst e
    rw [pk_us]
    exact hv
  · rw [pk_un e]
    exact h j
theorem sw_fill_X : ∀ (d : Nat) (a : Nat → Int32) (i : Nat), sw_X a → sw_X (sw_fill (-1) d a i) := by
  intro d
  induction d with
  | zero => intro a i h; exact h
  | succ d ih => intro a i h; exact ih _ _ (sw_X_u h (Or.inl rfl))
theorem sw_xi163 {post : SX → Prop} : ∀ (d i : Nat) (ps : Nat → Int32), i + d = 8 → post (pl, wc, rc, tc, sc, dk, ex, tr, sw_fill 7 d ps i, ct, wl, wm, rv, rs, rn, re, ty, se, sy) → wX_init_163 post pl wc rc tc sc (d + 1) (nI i) dk ex tr ps ct wl wm rv rs rn re ty se sy := by
  intro d
  induction d with
  | zero =>
    intro i ps hi h
    exact br_t (nI_le (a := 8) (by omega) (by omega)) h
  | succ d ih =>
    intro i ps hi h
    exact br_f (nI_ge (b := 8) (by omega) (by decide)) ⟨vp_in_nI (by omega) (by decide), nm_r (e' := upd ps i 7) (by rw [nI_clamp (by omega)]) (nm_r (nI_1 i) (ih (i + 1) _ (by omega) h))⟩
theorem sw_xi142 {post : SX → Prop} : ∀ (d i : Nat) (ex : Nat → Int32), i + d = 24 → post (pl, wc, rc, tc, sc, dk, sw_fill (-1) d ex i, tr, sw_fill 7 8 ps 0, ct, wl, wm, rv, rs, rn, re, ty, se, sy) → wX_init_142 post pl wc rc tc sc (d + 1) (nI i) dk ex tr ps ct wl wm rv rs rn re ty se sy := by
  intro d
  induction d with
  | zero =>
    intro i ex hi h
    exact br_t (nI_le (a := 24) (by omega) (by omega)) ⟨9, sw_xi163 8 0 ps rfl h⟩
  | succ d ih =>
    intro i ex hi h
    exact br_f (nI_ge (b := 24) (by omega) (by decide)) ⟨vp_in_nI (by omega) (by decide), nm_r (e' := upd ex i (-1)) (by rw [nI_clamp (by omega)]) (nm_r (nI_1 i) (ih (i + 1) _ (by omega) h))⟩
theorem sw_yi155 {post : SY → Prop} : ∀ (d i : Nat) (ps : Nat → Int32), i + d = 8 → post (pl, rc, wc, tc, sc, dk, ex, tr, sw_fill 7 d ps i, ct, rv, rs, rn, re, ll, wm, ty, sy) → wY_init_155 post pl rc wc tc sc (d + 1) (nI i) dk ex tr ps ct rv rs rn re ll wm ty sy := by
  intro d
  induction d with
  | zero =>
    intro i ps hi h
    exact br_t (nI_le (a := 8) (by omega) (by omega)) h
  | succ d ih =>
    intro i ps hi h
    exact br_f (nI_ge (b := 8) (by omega) (by decide)) ⟨vp_in_nI (by omega) (by decide), nm_r (e' := upd ps i 7) (by rw [nI_clamp (by omega)]) (nm_r (nI_1 i) (ih (i + 1) _ (by omega) h))⟩
theorem sw_yi134 {post : SY → Prop} : ∀ (d i : Nat) (ex : Nat → Int32), i + d = 24 → post (pl, rc, wc, tc, sc, dk, sw_fill (-1) d ex i, tr, sw_fill 7 8 ps 0, ct, rv, rs, rn, re, ll, wm, ty, sy) → wY_init_134 post pl rc wc tc sc (d + 1) (nI i) dk ex tr ps ct rv rs rn re ll wm ty sy := by
  intro d
  induction d with
  | zero =>
    intro i ex hi h
    exact br_t (nI_le (a := 24) (by omega) (by omega)) ⟨9, sw_yi155 8 0 ps rfl h⟩
  | succ d ih =>
    intro i ex hi h
    exact br_f (nI_ge (b := 24) (by omega) (by decide)) ⟨vp_in_nI (by omega) (by decide), nm_r (e' := upd ex i (-1)) (by rw [nI_clamp (by omega)]) (nm_r (nI_1 i) (ih (i + 1) _ (by omega) h))⟩
theorem sw_C_u {x : Int32} {i : Nat} (h : sw_C rn) (hx : sw_Cd x) : sw_C (upd rn i x) := by
  intro j
  by_cases e : j = i
  · subst e
    rw [pk_us]
    exact hx
  · rw [pk_un e]
    exact h j
theorem sw_E_u {x : Int32} {i : Nat} (h : sw_E re) (hx : sw_Ef x) : sw_E (upd re i x) := by
  intro j
  by_cases e : j = i
  · subst e
    rw [pk_us]
    exact hx
  · rw [pk_un e]
    exact h j
theorem sw_T_u {x : Int32} {t : Nat} (h : sw_T t ty) (hx : sw_Ch x) : sw_T (t + 1) (upd ty t x) := by
  intro j hj
  by_cases e : j = t
  · subst e
    rw [pk_us]
    rcases hx with rfl | hx
    · exact ⟨32, Or.inl rfl, rfl⟩
    · obtain ⟨m, hm, rfl⟩ := (sw_sub (a := 97)).mp hx
      exact ⟨97 + m, Or.inr (by omega), rfl⟩
  · rw [pk_un e]
    exact h j (by omega)
end
