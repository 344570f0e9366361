/-! words: letters, meanings, finding -/
def sw_al : Nat → Nat → Bool
  | 0, _ => true
  | d + 1, n => if n = 0 then true else if n % 27 = 0 then false else sw_al d (n / 27)
def sw_iw (n : Nat) : Nat → Nat → Bool
  | 0, _ => true
  | d + 1, i => if n / 27 ^ i % 27 = 0 then sw_iw n d (i + 1) else if n / 27 ^ (i - 1) % 27 = 0 then false else sw_iw n d (i + 1)
theorem sw_al_ok {n : Nat} (h : n < 531441) (h0 : 0 < n) : sw_al 4 n = true ↔ sw_ok n := by
  rw [sw_ok_iff h]
  simp only [sw_al]
  by_cases h1 : n % 27 = 0
  · rw [if_neg (by omega), if_pos h1]
    constructor
    · intro z; exact absurd z (by decide)
    · intro z; exact absurd h1 z.1
  · rw [if_neg (by omega), if_neg h1]
    by_cases h2 : n / 27 = 0
    · rw [if_pos h2]
      constructor
      · intro _; omega
      · intro _; rfl
    · rw [if_neg h2]
      by_cases h3 : n / 27 % 27 = 0
      · rw [if_pos h3]
        constructor
        · intro z; exact absurd z (by decide)
        · intro z; exact absurd h3 (z.2.1 (by omega))
      · rw [if_neg h3]
        by_cases h4 : n / 27 / 27 = 0
        · rw [if_pos h4]
          constructor
          · intro _; omega
          · intro _; rfl
        · rw [if_neg h4]
          by_cases h5 : n / 27 / 27 % 27 = 0
          · rw [if_pos h5]
            constructor
            · intro z; exact absurd z (by decide)
            · intro z; have := z.2.2; omega
          · rw [if_neg h5]
            constructor
            · intro _; omega
            · intro _
              split
              · rfl
              · split
                · omega
                · rfl
theorem sw_iw_ok {n : Nat} (h0 : ¬ n % 27 = 0) : sw_iw n 3 1 = true ↔ sw_ok n := by
  have e0 : n / 27 ^ (1 - 1) % 27 = n % 27 := by rw [show 27 ^ (1 - 1) = 1 from rfl, Nat.div_one]
  have e1 : n / 27 ^ 1 % 27 = n / 27 % 27 := rfl
  have e1' : n / 27 ^ (1 + 1 - 1) % 27 = n / 27 % 27 := rfl
  have e2 : n / 27 ^ (1 + 1) % 27 = n / 729 % 27 := rfl
  have e2' : n / 27 ^ (1 + 1 + 1 - 1) % 27 = n / 729 % 27 := rfl
  have e3 : n / 27 ^ (1 + 1 + 1) % 27 = n / 19683 % 27 := rfl
  unfold sw_ok
  simp only [sw_iw]
  rw [e0, e1, e1', e2, e2', e3, if_neg h0]
  by_cases h2 : n / 729 % 27 = 0
  · by_cases h3 : n / 19683 % 27 = 0
    · simp only [h0, h2, h3, if_true]
      by_cases h1 : n / 27 % 27 = 0
      · rw [if_pos h1]; simp only [not_false_eq_true, implies_true, and_self, ne_eq]; exact ⟨fun _ => ⟨h0, trivial⟩, fun _ => trivial⟩
      · rw [if_neg h1]; simp only [not_false_eq_true, implies_true, and_self, ne_eq]; exact ⟨fun _ => ⟨h0, trivial⟩, fun _ => trivial⟩
    · rw [if_pos h2, if_neg h3, if_pos h2]
      constructor
      · intro z
        split at z <;> exact absurd z (by decide)
      · intro z
        exact absurd (z.2.2 h2) h3
  · by_cases h1 : n / 27 % 27 = 0
    · rw [if_pos h1, if_neg h2, if_pos h1]
      constructor
      · intro z; exact absurd z (by decide)
      · intro z; exact absurd (z.2.1 h1) h2
    · rw [if_neg h1, if_neg h2, if_neg h1, if_neg h2]
      constructor
      · intro _
        exact ⟨h0, fun z => absurd z h1, fun z => absurd z h2⟩
      · intro _
        split <;> rfl
def sw_O (x : Int32) : Prop := ∃ n, n < 531441 ∧ sw_ok n ∧ x = nI n
def sw_Mn (x : Int32) : Prop := sw_I 6 x ∨ sw_I 4 (x - 10) ∨ sw_I 8 (x - 20) ∨ x = 30
theorem sw_Mn_31 {x : Int32} (h : sw_Mn x) : sw_I 31 x := by
  rcases h with ⟨j, hj, rfl⟩ | h | h | rfl
  · exact ⟨j, by omega, rfl⟩
  · obtain ⟨j, hj, rfl⟩ := (sw_sub (a := 10)).mp h
    exact ⟨10 + j, by omega, rfl⟩
  · obtain ⟨j, hj, rfl⟩ := (sw_sub (a := 20)).mp h
    exact ⟨20 + j, by omega, rfl⟩
  · exact ⟨30, by decide, rfl⟩
theorem sw_xmean {post : Int32 → Prop} {x : Int32} (h1 : sw_Mn x → post 1) (h0 : ¬ sw_Mn x → post 0) : wpX_isMeaning post x := by
  unfold wpX_isMeaning
  rw [sw_xVerb]
  refine ⟨fun a => br_f sw_n10 (h1 (Or.inl a)), fun a => br_t rfl ?_⟩
  rw [sw_xMD]
  refine ⟨fun b => br_f sw_n10 (h1 (Or.inr (Or.inl b))), fun b => br_t rfl ?_⟩
  rw [sw_xMT]
  refine ⟨fun c => br_f sw_n10 (h1 (Or.inr (Or.inr (Or.inl c)))), fun c => br_t rfl (br_c (fun d => h1 (Or.inr (Or.inr (Or.inr d)))) (fun d => h0 ?_))⟩
  exact fun z => z.elim a (fun z => z.elim b (fun z => z.elim c d))
theorem sw_xal17 {post : Int32 → Prop} : ∀ d i n : Nat, i + d = 4 → n < 531441 → post (sw_b (sw_al d n)) → wX_areLetters_17 post (d + 1) (nI n) (nI i) := by
  intro d
  induction d with
  | zero =>
    intro i n hi hn h
    exact br_t (nI_le (a := 4) (by omega) (by omega)) h
  | succ d ih =>
    intro i n hi hn h
    have h' : post (sw_b (if n = 0 then true else if n % 27 = 0 then false else sw_al d (n / 27))) := h
    refine br_f (nI_ge (b := 4) (by omega) (by decide)) ?_
    by_cases h0 : n = 0
    · rw [if_pos h0] at h'
      exact br_t (nI_le (b := 0) (by omega) (by decide)) h'
    · rw [if_neg h0] at h'
      have er : nI n - nI n / 27 * 27 = nI (n % 27) := pk_rem (d := 27) (by omega) (by decide) (by decide)
      have ed : nI n / 27 = nI (n / 27) := pk_div (d := 27) (by omega) (by decide) (by decide)
      refine br_f (nI_nle (by omega) (by omega)) ⟨by decide, ?_⟩
      rw [er]
      by_cases h1 : n % 27 = 0
      · rw [if_pos h1] at h'
        exact br_t ((nI_eq (b := 0) (by omega) (by decide)).mpr h1) h'
      · rw [if_neg h1] at h'
        exact br_f (fun z => h1 ((nI_eq (b := 0) (by omega) (by decide)).mp z)) ⟨by decide, nm_r ed (nm_r (nI_1 i) (ih (i + 1) (n / 27) (by omega) (by omega) h'))⟩
theorem sw_xletters {post : Int32 → Prop} {x : Int32} (h1 : sw_O x → post 1) (h0 : ¬ sw_O x → post 0) : wpX_areLetters post x := by
  by_cases a : x < 1
  · refine br_t a (h0 ?_)
    rintro ⟨n, hn, hok, rfl⟩
    have := (nI_ltI (b := 1) (by omega) (by decide)).mp a
    have := hok.1
    omega
  · refine br_f a ?_
    have hx0 : ¬ x < 0 := fun z => a (Int32.lt_trans z (by decide))
    obtain ⟨n, hn, rfl⟩ := nI_of hx0
    have hn1 : ¬ n < 1 := fun z => a (nI_lt (b := 1) z (by decide))
    by_cases b : n ≤ 531440
    · refine br_t (nI_le (b := 531440) b (by decide)) ⟨5, sw_xal17 4 0 n rfl (by omega) ?_⟩
      cases hb : sw_al 4 n
      · refine h0 ?_
        rintro ⟨m, hm, hok, e⟩
        rw [nI_eq hn (by omega)] at e
        subst e
        rw [(sw_al_ok (by omega) (by omega)).mpr hok] at hb
        exact absurd hb (by decide)
      · exact h1 ⟨n, by omega, (sw_al_ok (by omega) (by omega)).mp hb, rfl⟩
    · refine br_f (nI_ge (a := 531440) (by omega) hn) (h0 ?_)
      rintro ⟨m, hm, hok, e⟩
      rw [nI_eq hn (by omega)] at e
      omega
def sw_W (w : Nat) (wl ll : Nat → Int32) : Prop := ∀ i, i < w → ∃ n, n < 531441 ∧ wl i = nI n ∧ ll (4 * i) = nI (n % 27) ∧ ll (4 * i + 1) = nI (n / 27 % 27) ∧ ll (4 * i + 2) = nI (n / 729 % 27) ∧ ll (4 * i + 3) = nI (n / 19683 % 27)
section
variable {pl wc rc tc sc : Int32} {dk ex tr ps ct wl wm rv rs rn re ty se sy ll : Nat → Int32}
theorem sw_ymeans {post : Int32 → Prop} {x : Int32} (h1 : sw_Mn x → post 1) (h0 : ¬ sw_Mn x → post 0) : wpY_isMeaning post (pl, rc, wc, tc, sc, dk, ex, tr, ps, ct, rv, rs, rn, re, ll, wm, ty, sy) x := by
  unfold wpY_isMeaning
  dsimp only
  rw [sw_yin5]
  refine ⟨fun a => br_f sw_n10 (h1 (Or.inl a)), fun a => br_t rfl ?_⟩
  rw [sw_yin13]
  refine ⟨fun b => br_f sw_n10 (h1 (Or.inr (Or.inl b))), fun b => br_t rfl ?_⟩
  rw [sw_yin27]
  refine ⟨fun c => br_f sw_n10 (h1 (Or.inr (Or.inr (Or.inl c)))), fun c => br_t rfl (br_c (fun d => h1 (Or.inr (Or.inr (Or.inr d)))) (fun d => h0 ?_))⟩
  exact fun z => z.elim a (fun z => z.elim b (fun z => z.elim c d))
theorem sw_ylet5 {post : Int32 → Prop} (k : Nat) (hk : k < 100) : ∀ d i n : Nat, i + d = k → n < 2 ^ 31 → post (nI (n / 27 ^ d % 27)) → wY_letter_5 post (nI k) pl rc wc tc sc dk ex tr ps ct rv rs rn re ll wm ty sy (d + 1) (nI n) (nI i) := by
  intro d
  induction d with
  | zero =>
    intro i n hi hn h
    have er : nI n - nI n / 27 * 27 = nI (n % 27) := pk_rem (d := 27) hn (by decide) (by decide)
    have e1 : n / 27 ^ 0 % 27 = n % 27 := by rw [Nat.pow_zero, Nat.div_one]
    rw [e1, ← er] at h
    exact br_t (nI_le (by omega) (by omega)) ⟨by decide, h⟩
  | succ d ih =>
    intro i n hi hn h
    have ed : nI n / 27 = nI (n / 27) := pk_div (d := 27) hn (by decide) (by decide)
    have e1 : n / 27 ^ (d + 1) = n / 27 / 27 ^ d := by rw [Nat.pow_succ, Nat.mul_comm, Nat.div_div_eq_div_mul]
    rw [e1] at h
    exact br_f (nI_ge (by omega) (by omega)) ⟨by decide, nm_r ed (nm_r (nI_1 i) (ih (i + 1) (n / 27) (by omega) (by omega) h))⟩
theorem sw_ylet {post : Int32 → Prop} {n : Nat} (k : Nat) (hk : k < 100) (hn : n < 2 ^ 31) (h : post (nI (n / 27 ^ k % 27))) : wpY_letter post (pl, rc, wc, tc, sc, dk, ex, tr, ps, ct, rv, rs, rn, re, ll, wm, ty, sy) (nI n) (nI k) :=
  ⟨k + 1, sw_ylet5 k hk k 0 n (by omega) hn h⟩
theorem sw_yiw {post : Int32 → Prop} {n : Nat} (hn : n < 2 ^ 31) : ∀ d i : Nat, i + d = 4 → 1 ≤ i → post (sw_b (sw_iw n d i)) → wY_isWord_24 post (nI n) pl rc wc tc sc dk ex tr ps ct rv rs rn re ll wm ty sy (d + 1) (nI i) := by
  intro d
  induction d with
  | zero =>
    intro i hi h1 h
    exact br_t (nI_le (a := 4) (by omega) (by omega)) h
  | succ d ih =>
    intro i hi h1 h
    have h' : post (sw_b (if n / 27 ^ i % 27 = 0 then sw_iw n d (i + 1) else if n / 27 ^ (i - 1) % 27 = 0 then false else sw_iw n d (i + 1))) := h
    have em : nI i - 1 = nI (i - 1) := pk_sub (b := 1) h1
    refine br_f (nI_ge (b := 4) (by omega) (by decide)) (sw_ylet i (by omega) hn ?_)
    by_cases h2 : n / 27 ^ i % 27 = 0
    · rw [if_pos h2] at h'
      exact br_t ((nI_eq (b := 0) (by omega) (by decide)).mpr h2) (nm_r (nI_1 i) (ih (i + 1) (by omega) (by omega) h'))
    · rw [if_neg h2] at h'
      refine br_f (fun z => h2 ((nI_eq (b := 0) (by omega) (by decide)).mp z)) ?_
      rw [em]
      refine sw_ylet (i - 1) (by omega) hn ?_
      by_cases h3 : n / 27 ^ (i - 1) % 27 = 0
      · rw [if_pos h3] at h'
        exact br_t ((nI_eq (b := 0) (by omega) (by decide)).mpr h3) h'
      · rw [if_neg h3] at h'
        exact br_f (fun z => h3 ((nI_eq (b := 0) (by omega) (by decide)).mp z)) (nm_r (nI_1 i) (ih (i + 1) (by omega) (by omega) h'))
theorem sw_yword {post : Int32 → Prop} {x : Int32} (h1 : sw_O x → post 1) (h0 : ¬ sw_O x → post 0) : wpY_isWord post (pl, rc, wc, tc, sc, dk, ex, tr, ps, ct, rv, rs, rn, re, ll, wm, ty, sy) x := by
  unfold wpY_isWord
  dsimp only
  rw [sw_yinW]
  constructor
  · intro a
    obtain ⟨j, hj, rfl⟩ := (sw_sub (a := 1)).mp a
    refine br_f sw_n10 (sw_ylet 0 (by decide) (by omega) ?_)
    have e0 : (1 + j) / 27 ^ 0 % 27 = (1 + j) % 27 := by rw [Nat.pow_zero, Nat.div_one]
    rw [e0]
    by_cases h2 : (1 + j) % 27 = 0
    · refine br_t ((nI_eq (b := 0) (by omega) (by decide)).mpr h2) (h0 ?_)
      rintro ⟨m, hm, hok, e⟩
      rw [nI_eq (by omega) (by omega)] at e
      subst e
      exact hok.1 h2
    · refine br_f (fun z => h2 ((nI_eq (b := 0) (by omega) (by decide)).mp z)) ⟨4, sw_yiw (by omega) 3 1 rfl (by decide) ?_⟩
      cases hb : sw_iw (1 + j) 3 1
      · refine h0 ?_
        rintro ⟨m, hm, hok, e⟩
        rw [nI_eq (by omega) (by omega)] at e
        subst e
        rw [(sw_iw_ok h2).mpr hok] at hb
        exact absurd hb (by decide)
      · exact h1 ⟨1 + j, by omega, (sw_iw_ok h2).mp hb, rfl⟩
  · intro a
    refine br_t rfl (h0 ?_)
    rintro ⟨m, hm, hok, rfl⟩
    have := hok.1
    exact a ((sw_sub (a := 1)).mpr ⟨m - 1, by omega, by rw [show 1 + (m - 1) = m by omega]⟩)
theorem sw_findl {w n : Nat} (hw : w ≤ 24) (hW : sw_W w wl ll) (hn : n < 531441) : ∀ d i : Nat, i + d = w → ∃ k, k ≤ w ∧ (∀ post : Int32 → Prop, post (nI k) → wX_findWord_2 post (nI n) pl (nI w) rc tc sc dk ex tr ps ct wl wm rv rs rn re ty se sy (d + 1) (nI i)) ∧ (∀ post : Int32 → Prop, (k < w → post (nI k)) → (k = w → post (-1)) → wY_find_3 post (nI (n % 27)) (nI (n / 27 % 27)) (nI (n / 729 % 27)) (nI (n / 19683 % 27)) pl rc (nI w) tc sc dk ex tr ps ct rv rs rn re ll wm ty sy (d + 1) (nI i)) := by
  intro d
  induction d with
  | zero =>
    intro i hi
    obtain rfl : i = w := by omega
    exact ⟨i, Nat.le_refl _, fun post h => br_t (Int32.le_refl _) h, fun post _ h => br_t (Int32.le_refl _) (h rfl)⟩
  | succ d ih =>
    intro i hi
    obtain ⟨m, hm, e, d0, d1, d2, d3⟩ := hW i (by omega)
    have hg : ¬ nI w ≤ nI i := nI_ge (by omega) (by omega)
    have hv : vp_in (nI i) 24 := vp_in_nI (by omega) (by decide)
    have hc : (nI i).toNatClampNeg = i := nI_clamp (by omega)
    have e4 : 4 * nI i = nI (4 * i) := pk_mul 4 i
    have e41 : nI (4 * i) + 1 = nI (4 * i + 1) := nI_1 _
    have e42 : nI (4 * i) + 2 = nI (4 * i + 2) := nI_add _ 2
    have e43 : nI (4 * i) + 3 = nI (4 * i + 3) := nI_add _ 3
    have c0 : (nI (4 * i)).toNatClampNeg = 4 * i := nI_clamp (by omega)
    have c1 : (nI (4 * i + 1)).toNatClampNeg = 4 * i + 1 := nI_clamp (by omega)
    have c2 : (nI (4 * i + 2)).toNatClampNeg = 4 * i + 2 := nI_clamp (by omega)
    have c3 : (nI (4 * i + 3)).toNatClampNeg = 4 * i + 3 := nI_clamp (by omega)
    have v0 : vp_in (nI (4 * i)) 96 := vp_in_nI (by omega) (by decide)
    have v1 : vp_in (nI (4 * i + 1)) 96 := vp_in_nI (by omega) (by decide)
    have v2 : vp_in (nI (4 * i + 2)) 96 := vp_in_nI (by omega) (by decide)
    have v3 : vp_in (nI (4 * i + 3)) 96 := vp_in_nI (by omega) (by decide)
    have hY : ∀ post : Int32 → Prop, (m = n → post (nI i)) → (¬ m = n → wY_find_3 post (nI (n % 27)) (nI (n / 27 % 27)) (nI (n / 729 % 27)) (nI (n / 19683 % 27)) pl rc (nI w) tc sc dk ex tr ps ct rv rs rn re ll wm ty sy (d + 1) (nI (i + 1))) → wY_find_3 post (nI (n % 27)) (nI (n / 27 % 27)) (nI (n / 729 % 27)) (nI (n / 19683 % 27)) pl rc (nI w) tc sc dk ex tr ps ct rv rs rn re ll wm ty sy (d + 1 + 1) (nI i) := by
      intro post ha hb
      rw [wY_find_3]
      dsimp only
      rw [e4, e41, e42, e43, c0, c1, c2, c3, d0, d1, d2, d3]
      refine br_f hg ⟨v0, br_c (fun q0 => ⟨v1, br_c (fun q1 => ⟨v2, br_c (fun q2 => ⟨v3, br_c (fun q3 => ?_) (fun q3 => nm_r (nI_1 i) (hb ?_))⟩) (fun q2 => nm_r (nI_1 i) (hb ?_))⟩) (fun q1 => nm_r (nI_1 i) (hb ?_))⟩) (fun q0 => nm_r (nI_1 i) (hb ?_))⟩
      · rw [nI_eq (by omega) (by omega)] at q0 q1 q2 q3
        exact ha ((sw_dig hm hn).mpr ⟨q0, q1, q2, q3⟩)
      · intro z; exact q3 (by rw [z])
      · intro z; exact q2 (by rw [z])
      · intro z; exact q1 (by rw [z])
      · intro z; exact q0 (by rw [z])
    by_cases hmn : m = n
    · refine ⟨i, by omega, fun post h => ?_, fun post h _ => hY post (fun _ => h (by omega)) (fun z => absurd hmn z)⟩
      refine br_f hg ⟨hv, br_t ?_ h⟩
      rw [hc, e, hmn]
    · obtain ⟨k, hk, hX2, hY2⟩ := ih (i + 1) (by omega)
      refine ⟨k, hk, fun post h => ?_, fun post h1 h2 => hY post (fun z => absurd z hmn) (fun _ => hY2 post h1 h2)⟩
      refine br_f hg ⟨hv, br_f ?_ (nm_r (nI_1 i) (hX2 post h))⟩
      rw [hc, e, nI_eq (by omega) (by omega)]
      exact hmn
theorem sw_find {w n : Nat} (hw : w ≤ 24) (hW : sw_W w wl ll) (hn : n < 531441) : ∃ k, k ≤ w ∧ (∀ post : Int32 → Prop, post (nI k) → wpX_findWord post (pl, nI w, rc, tc, sc, dk, ex, tr, ps, ct, wl, wm, rv, rs, rn, re, ty, se, sy) (nI n)) ∧ (∀ post : Int32 → Prop, (k < w → post (nI k)) → (k = w → post (-1)) → wpY_find post (pl, rc, nI w, tc, sc, dk, ex, tr, ps, ct, rv, rs, rn, re, ll, wm, ty, sy) (nI (n % 27)) (nI (n / 27 % 27)) (nI (n / 729 % 27)) (nI (n / 19683 % 27))) := by
  obtain ⟨k, hk, hX, hY⟩ := sw_findl (pl := pl) (rc := rc) (tc := tc) (sc := sc) (dk := dk) (ex := ex) (tr := tr) (ps := ps) (ct := ct) (wl := wl) (wm := wm) (rv := rv) (rs := rs) (rn := rn) (re := re) (ty := ty) (se := se) (sy := sy) (ll := ll) hw hW hn w 0 (by omega)
  exact ⟨k, hk, fun post h => ⟨_, hX post h⟩, fun post h1 h2 => ⟨_, hY post h1 h2⟩⟩
end
