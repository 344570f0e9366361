/-! within, near, seen, counted: both sides against pure values -/
theorem sw_w_lt {p : Nat → Nat} {t m : Nat} (h : m < 8) (d : Nat) : sw_w p t d m = false := by
  cases d with
  | zero => rfl
  | succ d =>
    show (if m < 8 then false else _) = false
    rw [if_pos h]
theorem sw_w_t {p : Nat → Nat} {t m : Nat} (h : ¬ m < 8) (e : m - 8 = t) (d : Nat) : sw_w p t (d + 1) m = true := by
  show (if m < 8 then false else if m - 8 = t then true else _) = true
  rw [if_neg h, if_pos e]
theorem sw_w_s {p : Nat → Nat} {t m : Nat} (h : ¬ m < 8) (e : ¬ m - 8 = t) (d : Nat) : sw_w p t (d + 1) m = sw_w p t d (p (m - 8)) := by
  show (if m < 8 then false else if m - 8 = t then true else _) = _
  rw [if_neg h, if_neg e]
section
variable {pl wc rc tc sc : Int32} {dk ex tr ps ct wl wm rv rs rn re ty se sy ll : Nat → Int32}
theorem sw_xw5 {post : Int32 → Prop} (hp : sw_R 16 ps) {t : Nat} (ht : t < 8) : ∀ d i m : Nat, i + d = 8 → m < 16 → post (sw_b (sw_w (sw_n ps) t d m)) → wX_isWithin_5 post (nI t) pl wc rc tc sc dk ex tr ps ct wl wm rv rs rn re ty se sy (d + 1) (nI m) (nI i) := by
  intro d
  induction d with
  | zero =>
    intro i m hi hm h
    exact br_t (nI_le (a := 8) (b := i) (by omega) (by omega)) h
  | succ d ih =>
    intro i m hi hm h
    refine br_f (nI_ge (b := 8) (by omega) (by decide)) ?_
    by_cases h8 : m < 8
    · rw [sw_w_lt h8] at h
      exact br_t (nI_lt (b := 8) h8 (by decide)) h
    · refine br_f (nI_nlt (b := 8) (by omega) (by omega)) (nm_r (pk_sub (b := 8) (by omega)) ?_)
      by_cases e : m - 8 = t
      · rw [sw_w_t h8 e] at h
        exact br_t ((nI_eq (by omega) (by omega)).mpr e) h
      · rw [sw_w_s h8 e] at h
        have hr := sw_R_n hp (by decide) (m - 8)
        refine br_f (fun z => e ((nI_eq (by omega) (by omega)).mp z)) ⟨vp_in_nI (by omega) (by decide), nm_r (e' := nI (sw_n ps (m - 8))) (by rw [nI_clamp (by omega)]; exact hr.1) (nm_r (nI_1 i) (ih (i + 1) _ (by omega) hr.2 h))⟩
theorem sw_xw {post : Int32 → Prop} (hp : sw_R 16 ps) {t m : Nat} (ht : t < 8) (hm : m < 16) (h : post (sw_b (sw_w (sw_n ps) t 8 m))) : wpX_isWithin post (pl, wc, rc, tc, sc, dk, ex, tr, ps, ct, wl, wm, rv, rs, rn, re, ty, se, sy) (nI m) (nI t) :=
  ⟨9, sw_xw5 hp ht 8 0 m rfl hm h⟩
theorem sw_yw5 {post : Int32 → Prop} (hp : sw_R 16 ps) {t : Nat} (ht : t < 8) : ∀ d i m : Nat, i + d = 9 → m < 8 → post (sw_b (sw_w (sw_n ps) t d (m + 8))) → wY_isWithin_5 post (nI t) pl rc wc tc sc dk ex tr ps ct rv rs rn re ll wm ty sy (d + 1) (nI m) (nI i) := by
  intro d
  induction d with
  | zero =>
    intro i m hi hm h
    exact br_t (nI_le (a := 9) (b := i) (by omega) (by omega)) h
  | succ d ih =>
    intro i m hi hm h
    refine br_f (nI_ge (b := 9) (by omega) (by decide)) ?_
    by_cases e : m = t
    · rw [sw_w_t (by omega) (by omega)] at h
      exact br_t ((nI_eq (by omega) (by omega)).mpr e) h
    · rw [sw_w_s (by omega) (by omega), Nat.add_sub_cancel] at h
      have hr := sw_R_n hp (by decide) m
      have hc : ps (nI m).toNatClampNeg = nI (sw_n ps m) := by rw [nI_clamp (by omega)]; exact hr.1
      refine br_f (fun z => e ((nI_eq (by omega) (by omega)).mp z)) ⟨vp_in_nI (by omega) (by decide), ?_⟩
      rw [hc]
      by_cases h8 : sw_n ps m < 8
      · rw [sw_w_lt h8] at h
        exact br_f (nI_ge (b := 8) h8 (by decide)) h
      · refine br_t (nI_le (a := 8) (by omega) (by omega)) ⟨vp_in_nI (by omega) (by decide), nm_r (pk_sub (b := 8) (by omega)) (nm_r (nI_1 i) (ih (i + 1) _ (by omega) (by omega) ?_))⟩
        rw [show sw_n ps m - 8 + 8 = sw_n ps m by omega]
        exact h
theorem sw_n_lt {n : Nat} {a : Nat → Int32} (h : sw_R n a) (hn : n ≤ 2 ^ 31) : ∀ j, sw_n a j < n := fun j => (sw_R_n h hn j).2
theorem sw_yw {post : Int32 → Prop} (hp : sw_R 16 ps) {t m : Nat} (ht : t < 8) (hm : m < 8) (h : post (sw_b (sw_w (sw_n ps) t 8 (m + 8)))) : wpY_isWithin post (pl, rc, wc, tc, sc, dk, ex, tr, ps, ct, rv, rs, rn, re, ll, wm, ty, sy) (nI m) (nI t) := by
  rw [← sw_98 _ _ _ (sw_n_lt hp (by decide)) (by omega)] at h
  exact ⟨10, sw_yw5 hp ht 9 0 m rfl hm h⟩
theorem sw_ycb {post : Int32 → Prop} (hp : sw_R 16 ps) {t m : Nat} (ht : t < 8) (hm : m < 16) (h : post (sw_b (!(sw_w (sw_n ps) t 8 m)))) : wpY_canBe post (pl, rc, wc, tc, sc, dk, ex, tr, ps, ct, rv, rs, rn, re, ll, wm, ty, sy) (nI t) (nI m) := by
  by_cases h8 : m < 8
  · rw [sw_w_lt h8] at h
    exact br_t (nI_lt (b := 8) h8 (by decide)) h
  · refine br_f (nI_nlt (b := 8) (by omega) (by omega)) ?_
    have e : nI m - 8 = nI (m - 8) := pk_sub (b := 8) (by omega)
    rw [e]
    refine sw_yw hp ht (by omega) ?_
    rw [show m - 8 + 8 = m by omega]
    cases hb : sw_w (sw_n ps) t 8 m
    · rw [hb] at h
      exact br_t rfl h
    · rw [hb] at h
      exact br_f (by decide) h
/-! near -/
theorem sw_nr_lt {p tr : Nat → Int32} {pr : Int32} {m : Nat} (h : m < 8) (d : Nat) : sw_nr p tr pr d m = decide (nI m = pr ∨ m = 6) := by
  cases d with
  | zero => rfl
  | succ d =>
    show (if m < 8 then _ else _) = _
    rw [if_pos h]
theorem sw_nr_s {p tr : Nat → Int32} {pr : Int32} {m : Nat} (h : ¬ m < 8) (e : tr (m - 8) &&& 6 = 6) (d : Nat) : sw_nr p tr pr (d + 1) m = sw_nr p tr pr d (sw_n p (m - 8)) := by
  show (if m < 8 then _ else if tr (m - 8) &&& 6 = 6 then _ else false) = _
  rw [if_neg h, if_pos e]
  rfl
theorem sw_nr_f {p tr : Nat → Int32} {pr : Int32} {m : Nat} (h : ¬ m < 8) (e : ¬ tr (m - 8) &&& 6 = 6) (d : Nat) : sw_nr p tr pr (d + 1) m = false := by
  show (if m < 8 then _ else if tr (m - 8) &&& 6 = 6 then _ else false) = _
  rw [if_neg h, if_neg e]
theorem sw_x58 {post : Int32 → Prop} {m : Nat} (hm : m < 16) (h : post (sw_b (decide (nI m = pl ∨ m = 6)))) : wX_isNear_58 post (nI m) pl wc rc tc sc dk ex tr ps ct wl wm rv rs rn re ty se sy := by
  by_cases e : nI m = pl
  · rw [decide_eq_true (Or.inl e)] at h
    exact br_t e h
  · by_cases e6 : m = 6
    · rw [decide_eq_true (Or.inr e6)] at h
      exact br_f e (br_t ((nI_eq (b := 6) (by omega) (by decide)).mpr e6) h)
    · rw [decide_eq_false (fun z => z.elim e e6)] at h
      exact br_f e (br_f (fun z => e6 ((nI_eq (b := 6) (by omega) (by decide)).mp z)) h)
theorem sw_xn9 {post : Int32 → Prop} (hp : sw_R 16 ps) : ∀ d i m : Nat, i + d = 8 → m < 16 → post (sw_b (sw_nr ps tr pl d m)) → wX_isNear_9 post pl wc rc tc sc dk ex tr ps ct wl wm rv rs rn re ty se sy (d + 1) (nI m) (nI i) := by
  intro d
  induction d with
  | zero =>
    intro i m hi hm h
    exact br_t (nI_le (a := 8) (b := i) (by omega) (by omega)) (sw_x58 hm h)
  | succ d ih =>
    intro i m hi hm h
    refine br_f (nI_ge (b := 8) (by omega) (by decide)) ?_
    by_cases h8 : m < 8
    · rw [sw_nr_lt h8] at h
      exact br_t (nI_lt (b := 8) h8 (by decide)) (sw_x58 hm h)
    · refine br_f (nI_nlt (b := 8) (by omega) (by omega)) (nm_r (pk_sub (b := 8) (by omega)) ⟨vp_in_nI (by omega) (by decide), ?_⟩)
      rw [nI_clamp (by omega)]
      by_cases e : tr (m - 8) &&& 6 = 6
      · rw [sw_nr_s h8 e] at h
        have hr := sw_R_n hp (by decide) (m - 8)
        exact br_t e ⟨vp_in_nI (by omega) (by decide), nm_r hr.1 (nm_r (nI_1 i) (ih (i + 1) _ (by omega) hr.2 h))⟩
      · rw [sw_nr_f h8 e] at h
        exact br_f e h
theorem sw_xn {post : Int32 → Prop} (hp : sw_R 16 ps) {j : Nat} (hj : j < 8) (h : post (sw_b (sw_nr ps tr pl 8 (sw_n ps j)))) : wpX_isNear post (pl, wc, rc, tc, sc, dk, ex, tr, ps, ct, wl, wm, rv, rs, rn, re, ty, se, sy) (nI j) := by
  have hr := sw_R_n hp (by decide) j
  refine ⟨vp_in_nI hj (by decide), nm_r (e' := nI (sw_n ps j)) (by rw [nI_clamp (by omega)]; exact hr.1) ⟨9, sw_xn9 hp 8 0 _ rfl hr.2 h⟩⟩
theorem sw_yn4 {post : Int32 → Prop} (hp : sw_R 16 ps) (hl : sw_I 6 pl) : ∀ d i j : Nat, i + d = 8 → j < 8 → post (sw_b (sw_nr ps tr pl d (sw_n ps j))) → wY_isNear_4 post pl rc wc tc sc dk ex tr ps ct rv rs rn re ll wm ty sy (d + 2) (nI j) (nI i) := by
  intro d
  induction d with
  | zero =>
    intro i j hi hj h
    have hr := sw_R_n hp (by decide) j
    have hc : ps (nI j).toNatClampNeg = nI (sw_n ps j) := by rw [nI_clamp (by omega)]; exact hr.1
    have hv : vp_in (nI j) 8 := vp_in_nI hj (by decide)
    have h' : post (sw_b (decide (nI (sw_n ps j) = pl ∨ sw_n ps j = 6))) := h
    refine br_f (nI_ge (b := 9) (by omega) (by decide)) ⟨hv, ?_⟩
    rw [hc]
    by_cases e : nI (sw_n ps j) = pl
    · rw [decide_eq_true (Or.inl e)] at h'
      exact br_t e h'
    · refine br_f e ⟨hv, ?_⟩
      by_cases e6 : sw_n ps j = 6
      · rw [decide_eq_true (Or.inr e6)] at h'
        exact br_t ((nI_eq (b := 6) (by omega) (by decide)).mpr e6) h'
      · rw [decide_eq_false (fun z => z.elim e e6)] at h'
        refine br_f (fun z => e6 ((nI_eq (b := 6) (by omega) (by decide)).mp z)) ⟨hv, ?_⟩
        by_cases h8 : sw_n ps j < 8
        · exact br_f (nI_ge (b := 8) h8 (by decide)) h'
        · refine br_t (nI_le (a := 8) (by omega) (by omega)) ⟨hv, nm_r (pk_sub (b := 8) (by omega)) ⟨vp_in_nI (by omega) (by decide), br_c (fun _ => nm_r (nI_1 i) (br_t (nI_le (a := 9) (by omega) (by omega)) h')) (fun _ => h')⟩⟩
  | succ d ih =>
    intro i j hi hj h
    have hr := sw_R_n hp (by decide) j
    have hc : ps (nI j).toNatClampNeg = nI (sw_n ps j) := by rw [nI_clamp (by omega)]; exact hr.1
    have hv : vp_in (nI j) 8 := vp_in_nI hj (by decide)
    have hpl : nI (sw_n ps j) = pl → sw_n ps j < 8 := by
      obtain ⟨q, hq, rfl⟩ := hl
      intro z
      rw [nI_eq (by omega) (by omega)] at z
      omega
    refine br_f (nI_ge (b := 9) (by omega) (by decide)) ⟨hv, ?_⟩
    rw [hc]
    by_cases e : nI (sw_n ps j) = pl
    · rw [sw_nr_lt (hpl e), decide_eq_true (Or.inl e)] at h
      exact br_t e h
    · refine br_f e ⟨hv, ?_⟩
      by_cases e6 : sw_n ps j = 6
      · rw [sw_nr_lt (by omega), decide_eq_true (Or.inr e6)] at h
        exact br_t ((nI_eq (b := 6) (by omega) (by decide)).mpr e6) h
      · refine br_f (fun z => e6 ((nI_eq (b := 6) (by omega) (by decide)).mp z)) ⟨hv, ?_⟩
        by_cases h8 : sw_n ps j < 8
        · rw [sw_nr_lt h8, decide_eq_false (fun z => z.elim e e6)] at h
          exact br_f (nI_ge (b := 8) h8 (by decide)) h
        · refine br_t (nI_le (a := 8) (by omega) (by omega)) ⟨hv, nm_r (pk_sub (b := 8) (by omega)) ⟨vp_in_nI (by omega) (by decide), ?_⟩⟩
          rw [nI_clamp (by omega)]
          by_cases e2 : tr (sw_n ps j - 8) &&& 6 = 6
          · rw [sw_nr_s h8 e2] at h
            exact br_t e2 (nm_r (nI_1 i) (ih (i + 1) _ (by omega) (by omega) h))
          · rw [sw_nr_f h8 e2] at h
            exact br_f e2 h
theorem sw_yn {post : Int32 → Prop} (hp : sw_R 16 ps) (hl : sw_I 6 pl) {j : Nat} (hj : j < 8) (h : post (sw_b (sw_nr ps tr pl 8 (sw_n ps j)))) : wpY_isNear post (pl, rc, wc, tc, sc, dk, ex, tr, ps, ct, rv, rs, rn, re, ll, wm, ty, sy) (nI j) :=
  ⟨10, sw_yn4 hp hl 8 0 j rfl hj h⟩
/-! seen -/
def sw_lp (ps tr : Nat → Int32) (pl : Int32) : Nat → Nat → Bool
  | 0, _ => false
  | d + 1, j => if tr j &&& 8 = 0 then sw_lp ps tr pl d (j + 1) else if sw_nr ps tr pl 8 (sw_n ps j) = true then true else sw_lp ps tr pl d (j + 1)
def sw_see (ps tr dk : Nat → Int32) (pl : Int32) (j : Nat) : Bool := if sw_nr ps tr pl 8 (sw_n ps j) = true then (if dk pl.toNatClampNeg = 0 then true else sw_lp ps tr pl 8 0) else false
theorem sw_xht {post : Int32 → Prop} {j : Nat} (hj : j < 8) (q : Int32) (h : post (sw_b (decide (¬ tr j &&& q = 0)))) : wpX_hasTrait post (pl, wc, rc, tc, sc, dk, ex, tr, ps, ct, wl, wm, rv, rs, rn, re, ty, se, sy) (nI j) q := by
  refine ⟨vp_in_nI hj (by decide), ?_⟩
  rw [nI_clamp (by omega)]
  by_cases e : tr j &&& q = 0
  · rw [decide_eq_false (fun z => z e)] at h
    exact br_t e h
  · rw [decide_eq_true e] at h
    exact br_f e h
theorem sw_xlp {post : Int32 → Prop} (hp : sw_R 16 ps) : ∀ d j : Nat, j + d = 8 → post (sw_b (sw_lp ps tr pl d j)) → wX_canSee_26 post pl wc rc tc sc dk ex tr ps ct wl wm rv rs rn re ty se sy (d + 1) (nI j) := by
  intro d
  induction d with
  | zero =>
    intro j hj h
    exact br_t (nI_le (a := 8) (by omega) (by omega)) h
  | succ d ih =>
    intro j hj h
    have h' : post (sw_b (if tr j &&& 8 = 0 then sw_lp ps tr pl d (j + 1) else if sw_nr ps tr pl 8 (sw_n ps j) = true then true else sw_lp ps tr pl d (j + 1))) := h
    refine br_f (nI_ge (b := 8) (by omega) (by decide)) (sw_xht (by omega) 8 ?_)
    by_cases e : tr j &&& 8 = 0
    · rw [if_pos e] at h'
      rw [decide_eq_false (fun z => z e)]
      exact br_t rfl (nm_r (nI_1 j) (ih (j + 1) (by omega) h'))
    · rw [if_neg e] at h'
      rw [decide_eq_true e]
      refine br_f (by decide) (sw_xn hp (by omega) ?_)
      cases hb : sw_nr ps tr pl 8 (sw_n ps j)
      · rw [hb] at h'
        exact br_t rfl (nm_r (nI_1 j) (ih (j + 1) (by omega) h'))
      · rw [hb] at h'
        exact br_f (by decide) h'
theorem sw_xsee {post : Int32 → Prop} (hp : sw_R 16 ps) (hl : sw_I 6 pl) {j : Nat} (hj : j < 8) (h : post (sw_b (sw_see ps tr dk pl j))) : wpX_canSee post (pl, wc, rc, tc, sc, dk, ex, tr, ps, ct, wl, wm, rv, rs, rn, re, ty, se, sy) (nI j) := by
  unfold sw_see at h
  refine sw_xn hp hj ?_
  cases hb : sw_nr ps tr pl 8 (sw_n ps j)
  · rw [hb] at h
    exact br_t rfl h
  · rw [hb, if_pos rfl] at h
    obtain ⟨q, hq, rfl⟩ := hl
    refine br_f (by decide) ⟨vp_in_nI hq (by decide), ?_⟩
    by_cases e : dk (nI q).toNatClampNeg = 0
    · rw [if_pos e] at h
      exact br_t e h
    · rw [if_neg e] at h
      exact br_f e ⟨9, sw_xlp hp 8 0 rfl h⟩
theorem sw_ylp {post : Int32 → Prop} (hp : sw_R 16 ps) (hl : sw_I 6 pl) : ∀ d j : Nat, j + d = 8 → post (sw_b (sw_lp ps tr pl d j)) → wY_visible_34 post pl rc wc tc sc dk ex tr ps ct rv rs rn re ll wm ty sy (d + 1) (nI j) := by
  intro d
  induction d with
  | zero =>
    intro j hj h
    exact br_t (nI_le (a := 8) (by omega) (by omega)) h
  | succ d ih =>
    intro j hj h
    have h' : post (sw_b (if tr j &&& 8 = 0 then sw_lp ps tr pl d (j + 1) else if sw_nr ps tr pl 8 (sw_n ps j) = true then true else sw_lp ps tr pl d (j + 1))) := h
    refine br_f (nI_ge (b := 8) (by omega) (by decide)) ⟨vp_in_nI (by omega) (by decide), ?_⟩
    rw [nI_clamp (by omega)]
    by_cases e : tr j &&& 8 = 0
    · rw [if_pos e] at h'
      exact br_t e (nm_r (nI_1 j) (ih (j + 1) (by omega) h'))
    · rw [if_neg e] at h'
      refine br_f e (sw_yn hp hl (by omega) ?_)
      cases hb : sw_nr ps tr pl 8 (sw_n ps j)
      · rw [hb] at h'
        exact br_t rfl (nm_r (nI_1 j) (ih (j + 1) (by omega) h'))
      · rw [hb] at h'
        exact br_f (by decide) h'
theorem sw_ysee {post : Int32 → Prop} (hp : sw_R 16 ps) (hl : sw_I 6 pl) {j : Nat} (hj : j < 8) (h : post (sw_b (sw_see ps tr dk pl j))) : wpY_visible post (pl, rc, wc, tc, sc, dk, ex, tr, ps, ct, rv, rs, rn, re, ll, wm, ty, sy) (nI j) := by
  unfold sw_see at h
  unfold wpY_visible
  dsimp only
  rw [sw_yThing]
  refine ⟨fun _ => br_f sw_n10 (sw_yn hp hl hj ?_), fun z => absurd ⟨j, hj, rfl⟩ z⟩
  cases hb : sw_nr ps tr pl 8 (sw_n ps j)
  · rw [hb] at h
    exact br_t rfl h
  · rw [hb, if_pos rfl] at h
    obtain ⟨q, hq, rfl⟩ := hl
    refine br_f (by decide) ⟨vp_in_nI hq (by decide), ?_⟩
    by_cases e : dk (nI q).toNatClampNeg = 0
    · rw [if_pos e] at h
      exact br_t e h
    · rw [if_neg e] at h
      exact br_f e ⟨9, sw_ylp hp ⟨q, hq, rfl⟩ 8 0 rfl h⟩
/-! counted -/
def sw_ci (ps : Nat → Int32) (x : Int32) : Nat → Nat → Nat → Nat
  | 0, _, c => c
  | d + 1, j, c => if ps j = x then sw_ci ps x d (j + 1) (c + 1) else sw_ci ps x d (j + 1) c
theorem sw_ci_le (ps : Nat → Int32) (x : Int32) : ∀ d j c, sw_ci ps x d j c ≤ c + d := by
  intro d
  induction d with
  | zero => intro j c; exact Nat.le_refl c
  | succ d ih =>
    intro j c
    show (if ps j = x then _ else _) ≤ _
    split
    · have := ih (j + 1) (c + 1); omega
    · have := ih (j + 1) c; omega
theorem sw_xc4 {post : Int32 → Prop} (x : Int32) : ∀ d j c : Nat, j + d = 8 → c + d ≤ 8 → post (nI (sw_ci ps x d j c)) → wX_countIn_4 post x pl wc rc tc sc dk ex tr ps ct wl wm rv rs rn re ty se sy (d + 1) (nI c) (nI j) := by
  intro d
  induction d with
  | zero =>
    intro j c hj hc h
    exact br_t (nI_le (a := 8) (by omega) (by omega)) h
  | succ d ih =>
    intro j c hj hc h
    have h' : post (nI (if ps j = x then sw_ci ps x d (j + 1) (c + 1) else sw_ci ps x d (j + 1) c)) := h
    refine br_f (nI_ge (b := 8) (by omega) (by decide)) ⟨vp_in_nI (by omega) (by decide), ?_⟩
    rw [nI_clamp (by omega)]
    by_cases e : ps j = x
    · rw [if_pos e] at h'
      exact br_t e (nm_r (nI_1 c) (nm_r (nI_1 j) (ih (j + 1) (c + 1) (by omega) (by omega) h')))
    · rw [if_neg e] at h'
      exact br_f e (nm_r (nI_1 j) (ih (j + 1) c (by omega) (by omega) h'))
theorem sw_xc {post : Int32 → Prop} (x : Int32) (h : post (nI (sw_ci ps x 8 0 0))) : wpX_countIn post (pl, wc, rc, tc, sc, dk, ex, tr, ps, ct, wl, wm, rv, rs, rn, re, ty, se, sy) x := ⟨9, sw_xc4 x 8 0 0 rfl (by decide) h⟩
theorem sw_yc4 {post : Int32 → Prop} (x : Int32) : ∀ d j c : Nat, j + d = 8 → c + d ≤ 8 → post (nI (sw_ci ps x d j c)) → wY_inside_4 post x pl rc wc tc sc dk ex tr ps ct rv rs rn re ll wm ty sy (d + 1) (nI c) (nI j) := by
  intro d
  induction d with
  | zero =>
    intro j c hj hc h
    exact br_t (nI_le (a := 8) (by omega) (by omega)) h
  | succ d ih =>
    intro j c hj hc h
    have h' : post (nI (if ps j = x then sw_ci ps x d (j + 1) (c + 1) else sw_ci ps x d (j + 1) c)) := h
    refine br_f (nI_ge (b := 8) (by omega) (by decide)) ⟨vp_in_nI (by omega) (by decide), ?_⟩
    rw [nI_clamp (by omega)]
    by_cases e : ps j = x
    · rw [if_pos e] at h'
      exact br_t e (nm_r (nI_1 c) (nm_r (nI_1 j) (ih (j + 1) (c + 1) (by omega) (by omega) h')))
    · rw [if_neg e] at h'
      exact br_f e (nm_r (nI_1 j) (ih (j + 1) c (by omega) (by omega) h'))
theorem sw_yc {post : Int32 → Prop} (x : Int32) (h : post (nI (sw_ci ps x 8 0 0))) : wpY_inside post (pl, rc, wc, tc, sc, dk, ex, tr, ps, ct, rv, rs, rn, re, ll, wm, ty, sy) x := ⟨9, sw_yc4 x 8 0 0 rfl (by decide) h⟩
end
