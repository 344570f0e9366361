/-! the calls: each side by its own conditions -/
theorem sw_I_nI {n a : Nat} (h : a < 2 ^ 31) (hn : n ≤ 2 ^ 31) : sw_I n (nI a) ↔ a < n := by
  constructor
  · rintro ⟨j, hj, e⟩
    rw [nI_eq h (by omega)] at e
    omega
  · intro z
    exact ⟨a, z, rfl⟩
theorem sw_I_in {n : Nat} {x : Int32} (h : sw_I n x) (hn : n < 2 ^ 31) : vp_in x n := by
  obtain ⟨j, hj, rfl⟩ := h
  exact vp_in_nI hj hn
theorem sw_I_lt0 {n : Nat} {x : Int32} (hn : n ≤ 2 ^ 31) (h : x < 0) : ¬ sw_I n x := by
  rintro ⟨j, hj, rfl⟩
  exact nI_pos (by omega) h
def sw_Cd (x : Int32) : Prop := ∃ q, sw_cv q ∧ x = nI q
def sw_Ef (x : Int32) : Prop := ∃ q, sw_ev q ∧ x = nI q
theorem sw_Cd_nI {q : Nat} (h : q < 2 ^ 31) : sw_Cd (nI q) ↔ sw_cv q := by
  constructor
  · rintro ⟨j, hj, e⟩
    have := hj.1
    rw [nI_eq h (by omega)] at e
    rw [e]
    exact hj
  · intro z
    exact ⟨q, z, rfl⟩
theorem sw_Ef_nI {q : Nat} (h : q < 2 ^ 31) : sw_Ef (nI q) ↔ sw_ev q := by
  constructor
  · rintro ⟨j, hj, e⟩
    have := hj.1
    rw [nI_eq h (by omega)] at e
    rw [e]
    exact hj
  · intro z
    exact ⟨q, z, rfl⟩
def sw_Sb (v x : Int32) : Prop := x = -1 ∨ (v = 0 ∧ sw_I 4 x) ∨ (¬ v = 0 ∧ sw_I 8 x)
theorem sw_xsubj {post : Int32 → Prop} {v x : Int32} (h1 : sw_Sb v x → post 1) (h0 : ¬ sw_Sb v x → post 0) : wpX_isSubject post v x := by
  refine br_c (fun a => h1 (Or.inl a)) (fun a => br_c (fun b => ?_) (fun b => ?_))
  · rw [sw_xDir]
    exact ⟨fun c => ⟨sw_nb1, h1 (Or.inr (Or.inl ⟨b, c⟩))⟩, fun c => ⟨sw_nb0, h0 (fun z => z.elim a (fun z => z.elim (fun z => c z.2) (fun z => z.1 b)))⟩⟩
  · rw [sw_xThing]
    exact ⟨fun c => ⟨sw_nb1, h1 (Or.inr (Or.inr ⟨b, c⟩))⟩, fun c => ⟨sw_nb0, h0 (fun z => z.elim a (fun z => z.elim (fun z => b z.1) (fun z => c z.2)))⟩⟩
theorem sw_xcond {post : Int32 → Prop} {x : Int32} (h1 : sw_Cd x → post 1) (h0 : ¬ sw_Cd x → post 0) : wpX_isCondition post x := by
  by_cases hx : x < 0
  · refine br_t hx (h0 ?_)
    rintro ⟨q, hq, rfl⟩
    have := hq.1
    exact nI_pos (by omega) hx
  · refine br_f hx ?_
    obtain ⟨q, hq, rfl⟩ := nI_of hx
    rw [sw_Cd_nI hq] at h1 h0
    by_cases hb : q ≤ 1023
    · refine br_t (nI_le (b := 1023) hb (by decide)) ?_
      unfold wpX_firstOf wpX_secondOf wpX_kindOf
      rw [sw_first (by omega), sw_second (by omega), sw_and3 (by omega)]
      have h4 : q % 4 = 0 ∨ q % 4 = 1 ∨ q % 4 = 2 ∨ q % 4 = 3 := by omega
      have hB : q / 64 % 16 = q / 64 := by omega
      unfold sw_cv at h1 h0
      rcases h4 with k | k | k | k
      · rw [k]
        exact br_f (by decide) (br_f (by decide) (br_t rfl (h1 (by omega))))
      · rw [k]
        refine br_f (by decide) (br_f (by decide) (br_f (by decide) (br_t rfl ?_)))
        rw [sw_xCtr, sw_I_nI (by omega) (by decide)]
        exact ⟨fun c => ⟨sw_nb1, h1 (by omega)⟩, fun c => ⟨sw_nb0, h0 (by omega)⟩⟩
      · rw [k]
        refine br_f (by decide) (br_f (by decide) (br_f (by decide) (br_f (by decide) (br_t rfl ?_))))
        rw [sw_xThing, sw_I_nI (by omega) (by decide)]
        exact ⟨fun c => ⟨sw_nb1, h1 (by omega)⟩, fun c => ⟨sw_nb0, h0 (by omega)⟩⟩
      · rw [k, hB]
        refine br_f (by decide) (br_t (by decide) ?_)
        rw [sw_xThing, sw_I_nI (by omega) (by decide)]
        refine ⟨fun c => br_f sw_n10 (pk_le 4 (q / 64) (fun d => h0 (by omega)) (fun d => h1 (by omega))), fun c => br_t rfl (h0 (by omega))⟩
    · refine br_f (nI_ge (a := 1023) (by omega) hq) (h0 ?_)
      intro z
      have := z.1
      omega
theorem sw_xeff {post : Int32 → Prop} {x : Int32} (h1 : sw_Ef x → post 1) (h0 : ¬ sw_Ef x → post 0) : wpX_isEffect post x := by
  by_cases hx : x < 0
  · refine br_t hx (h0 ?_)
    rintro ⟨q, hq, rfl⟩
    have := hq.1
    exact nI_pos (by omega) hx
  · refine br_f hx ?_
    obtain ⟨q, hq, rfl⟩ := nI_of hx
    rw [sw_Ef_nI hq] at h1 h0
    by_cases hb : q ≤ 2047
    · refine br_t (nI_le (b := 2047) hb (by decide)) ?_
      unfold wpX_firstOf wpX_kindOf
      rw [sw_first (by omega), sw_and3 (by omega)]
      have h4 : q % 4 = 0 ∨ q % 4 = 1 ∨ q % 4 = 2 ∨ q % 4 = 3 := by omega
      unfold sw_ev at h1 h0
      rcases h4 with k | k | k | k
      · rw [k]
        exact br_f (by decide) (br_f (by decide) (br_t rfl (h1 (by omega))))
      · rw [k]
        refine br_f (by decide) (br_f (by decide) (br_f (by decide) (br_t rfl ?_)))
        rw [sw_xThing, sw_I_nI (by omega) (by decide)]
        exact ⟨fun c => ⟨sw_nb1, h1 (by omega)⟩, fun c => ⟨sw_nb0, h0 (by omega)⟩⟩
      · rw [k]
        refine br_f (by decide) (br_f (by decide) (br_f (by decide) (br_f (by decide) (br_t rfl ?_))))
        rw [sw_xCtr, sw_I_nI (by omega) (by decide)]
        exact ⟨fun c => ⟨sw_nb1, h1 (by omega)⟩, fun c => ⟨sw_nb0, h0 (by omega)⟩⟩
      · rw [k]
        refine br_f (by decide) (br_t (by decide) ?_)
        rw [sw_xRoom, sw_I_nI (by omega) (by decide)]
        exact ⟨fun c => ⟨sw_nb1, h1 (by omega)⟩, fun c => ⟨sw_nb0, h0 (by omega)⟩⟩
    · refine br_f (nI_ge (a := 2047) (by omega) hq) (h0 ?_)
      intro z
      have := z.1
      omega
section
variable {pl wc rc tc sc : Int32} {dk ex tr ps ct wl wm rv rs rn re ty se sy ll : Nat → Int32}
theorem sw_ycond {post : Int32 → Prop} {x : Int32} (h1 : sw_Cd x → post 1) (h0 : ¬ sw_Cd x → post 0) : wpY_isCondition post (pl, rc, wc, tc, sc, dk, ex, tr, ps, ct, rv, rs, rn, re, ll, wm, ty, sy) x := by
  unfold wpY_isCondition
  dsimp only
  rw [sw_yin1023]
  constructor
  · rintro ⟨q, hq, rfl⟩
    rw [sw_Cd_nI (by omega)] at h1 h0
    refine br_f sw_n10 (nm_r (sw_and3 (by omega)) (nm_r (sw_first (by omega)) (nm_r (sw_shr6 (by omega)) ?_)))
    have h4 : q % 4 = 0 ∨ q % 4 = 1 ∨ q % 4 = 2 ∨ q % 4 = 3 := by omega
    unfold sw_cv at h1 h0
    rcases h4 with k | k | k | k
    · rw [k]
      exact br_t rfl (h1 (by omega))
    · rw [k]
      exact br_f (by decide) (br_t rfl (pk_lt (q / 4 % 16) 4 (fun c => h1 (by omega)) (fun c => br_f (by decide) (br_f (by decide) (h0 (by omega))))))
    · rw [k]
      exact br_f (by decide) (br_f (by decide) (br_t rfl (pk_lt (q / 4 % 16) 8 (fun c => h1 (by omega)) (fun c => br_f (by decide) (h0 (by omega))))))
    · rw [k]
      exact br_f (by decide) (br_f (by decide) (br_f (by decide) (br_t rfl (pk_le 8 (q / 4 % 16) (fun c => h0 (by omega)) (fun c => pk_le 4 (q / 64) (fun d => h0 (by omega)) (fun d => h1 (by omega)))))))
  · intro a
    refine br_t rfl (h0 ?_)
    rintro ⟨q, hq, rfl⟩
    exact a ⟨q, hq.1, rfl⟩
theorem sw_yeff {post : Int32 → Prop} {x : Int32} (h1 : sw_Ef x → post 1) (h0 : ¬ sw_Ef x → post 0) : wpY_isEffect post (pl, rc, wc, tc, sc, dk, ex, tr, ps, ct, rv, rs, rn, re, ll, wm, ty, sy) x := by
  unfold wpY_isEffect
  dsimp only
  rw [sw_yin2047]
  constructor
  · rintro ⟨q, hq, rfl⟩
    rw [sw_Ef_nI (by omega)] at h1 h0
    refine br_f sw_n10 (nm_r (sw_and3 (by omega)) (nm_r (sw_first (by omega)) ?_))
    have h4 : q % 4 = 0 ∨ q % 4 = 1 ∨ q % 4 = 2 ∨ q % 4 = 3 := by omega
    unfold sw_ev at h1 h0
    rcases h4 with k | k | k | k
    · rw [k]
      exact br_t rfl (h1 (by omega))
    · rw [k]
      exact br_f (by decide) (br_t rfl (pk_lt (q / 4 % 16) 8 (fun c => h1 (by omega)) (fun c => br_f (by decide) (br_f (by decide) (h0 (by omega))))))
    · rw [k]
      exact br_f (by decide) (br_f (by decide) (br_t rfl (pk_lt (q / 4 % 16) 4 (fun c => h1 (by omega)) (fun c => br_f (by decide) (h0 (by omega))))))
    · rw [k]
      exact br_f (by decide) (br_f (by decide) (br_f (by decide) (br_t rfl (pk_le 6 (q / 4 % 16) (fun c => h0 (by omega)) (fun c => h1 (by omega))))))
  · intro a
    refine br_t rfl (h0 ?_)
    rintro ⟨q, hq, rfl⟩
    exact a ⟨q, hq.1, rfl⟩
/-! link -/
theorem sw_lk {v1 v2 : Int32} (h1 : sw_I 6 v1) (h2 : sw_I 4 v2) : vp_in (v1 * 4 + v2) 24 := by
  obtain ⟨a, ha, rfl⟩ := h1
  obtain ⟨b, hb, rfl⟩ := h2
  have e1 : nI a * 4 + nI b = nI (a * 4 + b) := by
    rw [← nI_add, ← pk_mul]
    rfl
  rw [e1]
  exact vp_in_nI (by omega) (by decide)
theorem sw_xlink {post : Int32 → SX → Prop} {v1 v2 v3 : Int32} (h1 : sw_I 6 v1 ∧ sw_I 4 v2 ∧ (v3 = -1 ∨ sw_I 6 v3) → post 1 (pl, wc, rc, tc, sc, dk, upd ex (v1 * 4 + v2).toNatClampNeg v3, tr, ps, ct, wl, wm, rv, rs, rn, re, ty, se, sy)) (h0 : ¬ (sw_I 6 v1 ∧ sw_I 4 v2 ∧ (v3 = -1 ∨ sw_I 6 v3)) → post 0 (pl, wc, rc, tc, sc, dk, ex, tr, ps, ct, wl, wm, rv, rs, rn, re, ty, se, sy)) : wpX_link post (pl, wc, rc, tc, sc, dk, ex, tr, ps, ct, wl, wm, rv, rs, rn, re, ty, se, sy) v1 v2 v3 := by
  unfold wpX_link
  dsimp only
  rw [sw_xRoom]
  refine ⟨fun a => br_f sw_n10 ?_, fun a => br_t rfl (h0 (fun z => a z.1))⟩
  rw [sw_xDir]
  refine ⟨fun b => br_f sw_n10 (br_c (fun c => ⟨sw_lk a b, nm_e (h1 ⟨a, b, Or.inl c⟩)⟩) (fun c => ?_)), fun b => br_t rfl (h0 (fun z => b z.2.1))⟩
  rw [sw_xRoom]
  exact ⟨fun d => br_f sw_n10 ⟨sw_lk a b, nm_e (h1 ⟨a, b, Or.inr d⟩)⟩, fun d => br_t rfl (h0 (fun z => z.2.2.elim c d))⟩
theorem sw_ylink {post : Int32 → SY → Prop} {v1 v2 v3 : Int32} (h1 : sw_I 6 v1 ∧ sw_I 4 v2 ∧ (v3 = -1 ∨ sw_I 6 v3) → post 1 (pl, rc, wc, tc, sc, dk, upd ex (v1 * 4 + v2).toNatClampNeg v3, tr, ps, ct, rv, rs, rn, re, ll, wm, ty, sy)) (h0 : ¬ (sw_I 6 v1 ∧ sw_I 4 v2 ∧ (v3 = -1 ∨ sw_I 6 v3)) → post 0 (pl, rc, wc, tc, sc, dk, ex, tr, ps, ct, rv, rs, rn, re, ll, wm, ty, sy)) : wpY_link post (pl, rc, wc, tc, sc, dk, ex, tr, ps, ct, rv, rs, rn, re, ll, wm, ty, sy) v1 v2 v3 := by
  unfold wpY_link
  dsimp only
  rw [sw_yin5]
  refine ⟨fun a => br_f sw_n10 ?_, fun a => br_t rfl (h0 (fun z => a z.1))⟩
  rw [sw_yin3]
  refine ⟨fun b => br_f sw_n10 ?_, fun b => br_t rfl (h0 (fun z => b z.2.1))⟩
  rw [sw_yinm5, Int32.mul_comm 4 v1]
  exact ⟨fun d => br_f sw_n10 ⟨sw_lk a b, nm_e (h1 ⟨a, b, d⟩)⟩, fun d => br_t rfl (h0 (fun z => d z.2.2))⟩
/-! thing -/
def sw_Th (ps : Nat → Int32) (v1 v2 v3 : Int32) : Prop := sw_I 8 v1 ∧ sw_I 16 v2 ∧ sw_I 16 v3 ∧ sw_w (sw_n ps) v1.toNatClampNeg 8 v3.toNatClampNeg = false
theorem sw_xthing {post : Int32 → SX → Prop} {v1 v2 v3 : Int32} (hp : sw_R 16 ps) (h1 : sw_Th ps v1 v2 v3 → post 1 (pl, wc, rc, tc, sc, dk, ex, upd tr v1.toNatClampNeg v2, upd ps v1.toNatClampNeg v3, ct, wl, wm, rv, rs, rn, re, ty, se, sy)) (h0 : ¬ sw_Th ps v1 v2 v3 → post 0 (pl, wc, rc, tc, sc, dk, ex, tr, ps, ct, wl, wm, rv, rs, rn, re, ty, se, sy)) : wpX_thing post (pl, wc, rc, tc, sc, dk, ex, tr, ps, ct, wl, wm, rv, rs, rn, re, ty, se, sy) v1 v2 v3 := by
  unfold wpX_thing
  dsimp only
  rw [sw_xThing]
  refine ⟨fun a => br_f sw_n10 ?_, fun a => br_t rfl (h0 (fun z => a z.1))⟩
  refine br_c (fun b => h0 (fun z => sw_I_lt0 (by decide) b z.2.1)) (fun b => ?_)
  obtain ⟨m2, hm2, rfl⟩ := nI_of b
  refine pk_lt 15 m2 (fun c => h0 (fun z => ?_)) (fun c => ?_)
  · have := (sw_I_nI hm2 (by decide)).mp z.2.1
    omega
  · refine br_c (fun d => h0 (fun z => sw_I_lt0 (by decide) d z.2.2.1)) (fun d => ?_)
    obtain ⟨m3, hm3, rfl⟩ := nI_of d
    refine pk_le m3 15 (fun e => ?_) (fun e => h0 (fun z => ?_))
    · obtain ⟨t, ht, rfl⟩ := a
      have c1 : (nI t).toNatClampNeg = t := nI_clamp (by omega)
      have c3 : (nI m3).toNatClampNeg = m3 := nI_clamp (by omega)
      have hv : vp_in (nI t) 8 := vp_in_nI ht (by decide)
      refine sw_xw hp ht (by omega) ?_
      unfold sw_Th at h1 h0
      rw [c1, c3] at h1 h0
      rw [c1]
      cases hw : sw_w (sw_n ps) t 8 m3
      · exact br_t rfl ⟨hv, nm_e ⟨hv, nm_e (h1 ⟨⟨t, ht, rfl⟩, ⟨m2, by omega, rfl⟩, ⟨m3, by omega, rfl⟩, hw⟩)⟩⟩
      · refine br_f (by decide) (h0 (fun z => ?_))
        have := z.2.2.2
        rw [hw] at this
        exact absurd this (by decide)
    · have := (sw_I_nI hm3 (by decide)).mp z.2.2.1
      omega
theorem sw_ything {post : Int32 → SY → Prop} {v1 v2 v3 : Int32} (hp : sw_R 16 ps) (h1 : sw_Th ps v1 v2 v3 → post 1 (pl, rc, wc, tc, sc, dk, ex, upd tr v1.toNatClampNeg v2, upd ps v1.toNatClampNeg v3, ct, rv, rs, rn, re, ll, wm, ty, sy)) (h0 : ¬ sw_Th ps v1 v2 v3 → post 0 (pl, rc, wc, tc, sc, dk, ex, tr, ps, ct, rv, rs, rn, re, ll, wm, ty, sy)) : wpY_thing post (pl, rc, wc, tc, sc, dk, ex, tr, ps, ct, rv, rs, rn, re, ll, wm, ty, sy) v1 v2 v3 := by
  unfold wpY_thing
  dsimp only
  rw [sw_yThing]
  refine ⟨fun a => br_f sw_n10 ?_, fun a => br_t rfl (h0 (fun z => a z.1))⟩
  rw [sw_yin15]
  refine ⟨fun b => br_f sw_n10 ?_, fun b => br_t rfl (h0 (fun z => b z.2.1))⟩
  rw [sw_yin15]
  refine ⟨fun c => br_f sw_n10 ?_, fun c => br_t rfl (h0 (fun z => c z.2.2.1))⟩
  obtain ⟨t, ht, rfl⟩ := a
  obtain ⟨m3, hm3, rfl⟩ := c
  have c1 : (nI t).toNatClampNeg = t := nI_clamp (by omega)
  have c3 : (nI m3).toNatClampNeg = m3 := nI_clamp (by omega)
  have hv : vp_in (nI t) 8 := vp_in_nI ht (by decide)
  refine sw_ycb hp ht hm3 ?_
  unfold sw_Th at h1 h0
  rw [c1, c3] at h1 h0
  rw [c1]
  cases hw : sw_w (sw_n ps) t 8 m3
  · exact br_f (by decide) ⟨hv, nm_e ⟨hv, nm_e (h1 ⟨⟨t, ht, rfl⟩, b, ⟨m3, hm3, rfl⟩, hw⟩)⟩⟩
  · refine br_t rfl (h0 (fun z => ?_))
    have := z.2.2.2
    rw [hw] at this
    exact absurd this (by decide)
/-! rule -/
def sw_Ru (v1 v2 v3 v4 : Int32) : Prop := sw_I 6 v1 ∧ sw_Sb v1 v2 ∧ sw_Cd v3 ∧ sw_Ef v4
theorem sw_xrule {post : Int32 → SX → Prop} {v1 v2 v3 v4 : Int32} {r : Nat} (hr : r ≤ 16) (h2 : r = 16 → post (-2) (pl, wc, nI r, tc, sc, dk, ex, tr, ps, ct, wl, wm, rv, rs, rn, re, ty, se, sy)) (h1 : r < 16 → sw_Ru v1 v2 v3 v4 → post (nI (r + 1)) (pl, wc, nI (r + 1), tc, sc, dk, ex, tr, ps, ct, wl, wm, upd rv r v1, upd rs r v2, upd rn r v3, upd re r v4, ty, se, sy)) (h0 : r < 16 → ¬ sw_Ru v1 v2 v3 v4 → post (-1) (pl, wc, nI r, tc, sc, dk, ex, tr, ps, ct, wl, wm, rv, rs, rn, re, ty, se, sy)) : wpX_rule post (pl, wc, nI r, tc, sc, dk, ex, tr, ps, ct, wl, wm, rv, rs, rn, re, ty, se, sy) v1 v2 v3 v4 := by
  refine pk_lt r 16 (fun h => ?_) (fun h => h2 (by omega))
  have hv : vp_in (nI r) 16 := vp_in_nI h (by decide)
  have hc : (nI r).toNatClampNeg = r := nI_clamp (by omega)
  rw [sw_xVerb]
  refine ⟨fun a => br_f sw_n10 (sw_xsubj (fun b => br_f sw_n10 (sw_xcond (fun c => br_f sw_n10 (sw_xeff (fun d => br_f sw_n10 ?_) (fun d => br_t rfl (h0 h (fun z => d z.2.2.2))))) (fun c => br_t rfl (h0 h (fun z => c z.2.2.1))))) (fun b => br_t rfl (h0 h (fun z => b z.2.1)))), fun a => br_t rfl (h0 h (fun z => a z.1))⟩
  rw [hc]
  exact ⟨hv, nm_e ⟨hv, nm_e ⟨hv, nm_e ⟨hv, nm_e (nm_r (nI_1 r) (h1 h ⟨a, b, c, d⟩))⟩⟩⟩⟩
theorem sw_yrule {post : Int32 → SY → Prop} {v1 v2 v3 v4 : Int32} {r : Nat} (hr : r ≤ 16) (h2 : r = 16 → post (-2) (pl, nI r, wc, tc, sc, dk, ex, tr, ps, ct, rv, rs, rn, re, ll, wm, ty, sy)) (h1 : r < 16 → sw_Ru v1 v2 v3 v4 → post (nI (r + 1)) (pl, nI (r + 1), wc, tc, sc, dk, ex, tr, ps, ct, upd rv r v1, upd rs r v2, upd rn r v3, upd re r v4, ll, wm, ty, sy)) (h0 : r < 16 → ¬ sw_Ru v1 v2 v3 v4 → post (-1) (pl, nI r, wc, tc, sc, dk, ex, tr, ps, ct, rv, rs, rn, re, ll, wm, ty, sy)) : wpY_rule post (pl, nI r, wc, tc, sc, dk, ex, tr, ps, ct, rv, rs, rn, re, ll, wm, ty, sy) v1 v2 v3 v4 := by
  refine pk_eq r 16 (fun h => h2 h) (fun hne => ?_)
  have h : r < 16 := by omega
  have hv : vp_in (nI r) 16 := vp_in_nI h (by decide)
  have hc : (nI r).toNatClampNeg = r := nI_clamp (by omega)
  rw [sw_yin5]
  refine ⟨fun a => br_f sw_n10 (br_c (fun e => ?_) (fun e => ?_)), fun a => br_t rfl (h0 h (fun z => a z.1))⟩
  · unfold wY_rule_35
    rw [sw_yinm3]
    refine ⟨fun b => br_f sw_n10 (sw_ycond (fun c => br_f sw_n10 (sw_yeff (fun d => br_f sw_n10 ?_) (fun d => br_t rfl (h0 h (fun z => d z.2.2.2))))) (fun c => br_t rfl (h0 h (fun z => c z.2.2.1)))), fun b => br_t rfl (h0 h (fun z => b (z.2.1.elim Or.inl (fun y => y.elim (fun y => Or.inr y.2) (fun y => absurd e y.1)))))⟩
    rw [hc]
    exact ⟨hv, nm_e ⟨hv, nm_e ⟨hv, nm_e ⟨hv, nm_e (nm_r (nI_1 r) (h1 h ⟨a, b.elim Or.inl (fun y => Or.inr (Or.inl ⟨e, y⟩)), c, d⟩))⟩⟩⟩⟩
  · unfold wY_rule_35
    rw [sw_yinm7]
    refine ⟨fun b => br_f sw_n10 (sw_ycond (fun c => br_f sw_n10 (sw_yeff (fun d => br_f sw_n10 ?_) (fun d => br_t rfl (h0 h (fun z => d z.2.2.2))))) (fun c => br_t rfl (h0 h (fun z => c z.2.2.1)))), fun b => br_t rfl (h0 h (fun z => b (z.2.1.elim Or.inl (fun y => y.elim (fun y => absurd y.1 e) (fun y => Or.inr y.2)))))⟩
    rw [hc]
    exact ⟨hv, nm_e ⟨hv, nm_e ⟨hv, nm_e ⟨hv, nm_e (nm_r (nI_1 r) (h1 h ⟨a, b.elim Or.inl (fun y => Or.inr (Or.inr ⟨e, y⟩)), c, d⟩))⟩⟩⟩⟩
/-! type -/
def sw_Ch (v : Int32) : Prop := v = 32 ∨ sw_I 26 (v - 97)
theorem sw_xtype {post : Int32 → SX → Prop} {v : Int32} {t : Nat} (ht : t ≤ 30) (h1 : t < 30 → sw_Ch v → post 1 (pl, wc, rc, nI (t + 1), sc, dk, ex, tr, ps, ct, wl, wm, rv, rs, rn, re, upd ty t v, se, sy)) (h0 : ¬ (t < 30 ∧ sw_Ch v) → post 0 (pl, wc, rc, nI t, sc, dk, ex, tr, ps, ct, wl, wm, rv, rs, rn, re, ty, se, sy)) : wpX_type post (pl, wc, rc, nI t, sc, dk, ex, tr, ps, ct, wl, wm, rv, rs, rn, re, ty, se, sy) v := by
  have h30 : sw_Ch v → wX_type_30 post v pl wc rc (nI t) sc dk ex tr ps ct wl wm rv rs rn re ty se sy := by
    intro hv
    refine pk_lt t 30 (fun h => ⟨vp_in_nI h (by decide), nm_r (e' := upd ty t v) (by rw [nI_clamp (by omega)]) (nm_r (nI_1 t) (h1 h hv))⟩) (fun h => h0 (fun z => by omega))
  have h16 : ¬ sw_I 26 (v - 97) → wX_type_16 post v pl wc rc (nI t) sc dk ex tr ps ct wl wm rv rs rn re ty se sy := by
    intro hn
    exact br_t rfl (br_c (fun e => h30 (Or.inl e)) (fun e => h0 (fun z => z.2.elim e hn)))
  refine br_c (fun a => h16 (fun z => ?_)) (fun a => br_c (fun b => h16 (fun z => ?_)) (fun b => br_f sw_n10 (h30 (Or.inr ?_))))
  · obtain ⟨j, hj, rfl⟩ := (sw_sub (a := 97)).mp z
    have := (nI_ltI (b := 97) (by omega) (by decide)).mp a
    omega
  · obtain ⟨j, hj, rfl⟩ := (sw_sub (a := 97)).mp z
    have := (nI_ltI (a := 122) (by decide) (by omega)).mp b
    omega
  · have hx0 : ¬ v < 0 := fun z => a (Int32.lt_trans z (by decide))
    obtain ⟨m, hm, rfl⟩ := nI_of hx0
    have a' : ¬ m < 97 := fun z => a (nI_lt (b := 97) z (by decide))
    have b' : ¬ 122 < m := fun z => b (nI_lt (a := 122) z hm)
    exact (sw_sub (a := 97)).mpr ⟨m - 97, by omega, by rw [show 97 + (m - 97) = m by omega]⟩
theorem sw_ytype {post : Int32 → SY → Prop} {v : Int32} {t : Nat} (ht : t ≤ 30) (h1 : t < 30 → sw_Ch v → post 1 (pl, rc, wc, nI (t + 1), sc, dk, ex, tr, ps, ct, rv, rs, rn, re, ll, wm, upd ty t v, sy)) (h0 : ¬ (t < 30 ∧ sw_Ch v) → post 0 (pl, rc, wc, nI t, sc, dk, ex, tr, ps, ct, rv, rs, rn, re, ll, wm, ty, sy)) : wpY_type post (pl, rc, wc, nI t, sc, dk, ex, tr, ps, ct, rv, rs, rn, re, ll, wm, ty, sy) v := by
  refine pk_eq t 30 (fun h => h0 (fun z => by omega)) (fun h => ?_)
  have h29 : sw_Ch v → wY_type_29 post v pl rc wc (nI t) sc dk ex tr ps ct rv rs rn re ll wm ty sy := fun hv => ⟨vp_in_nI (by omega) (by decide), nm_r (e' := upd ty t v) (by rw [nI_clamp (by omega)]) (nm_r (nI_1 t) (h1 (by omega) hv))⟩
  refine br_c (fun a => h29 (Or.inl a)) (fun a => ?_)
  rw [sw_yin122]
  exact ⟨fun b => br_f sw_n10 (h29 (Or.inr b)), fun b => br_t rfl (h0 (fun z => z.2.elim a b))⟩
/-! command -/
def sw_Cm (v1 v2 v3 : Int32) : Prop := sw_I 6 v1 ∧ ((v1 = 0 ∧ sw_I 4 v2) ∨ (¬ v1 = 0 ∧ sw_I 8 v2)) ∧ (v1 = 3 → sw_I 8 v3)
theorem sw_xcmd {post : Int32 → SX → Prop} {v1 v2 v3 : Int32} (h1 : sw_Cm v1 v2 v3 → wpX_perform post (pl, wc, rc, tc, sc, dk, ex, tr, ps, ct, wl, wm, rv, rs, rn, re, ty, se, sy) v1 v2 v3) (h0 : ¬ sw_Cm v1 v2 v3 → post (-1) (pl, wc, rc, tc, sc, dk, ex, tr, ps, ct, wl, wm, rv, rs, rn, re, ty, se, sy)) : wpX_command post (pl, wc, rc, tc, sc, dk, ex, tr, ps, ct, wl, wm, rv, rs, rn, re, ty, se, sy) v1 v2 v3 := by
  unfold wpX_command
  dsimp only
  rw [sw_xVerb]
  refine ⟨fun a => br_f sw_n10 (br_c (fun e => ?_) (fun e => ?_)), fun a => br_t rfl (h0 (fun z => a z.1))⟩
  · rw [sw_xDir]
    refine ⟨fun b => br_f sw_n10 (br_c (fun c => ?_) (fun c => h1 ⟨a, Or.inl ⟨e, b⟩, fun z => absurd z c⟩)), fun b => br_t rfl (h0 (fun z => z.2.1.elim (fun y => b y.2) (fun y => y.1 e)))⟩
    exact absurd (e.symm.trans c) (by decide)
  · rw [sw_xThing]
    refine ⟨fun b => br_f sw_n10 (br_c (fun c => ?_) (fun c => h1 ⟨a, Or.inr ⟨e, b⟩, fun z => absurd z c⟩)), fun b => br_t rfl (h0 (fun z => z.2.1.elim (fun y => e y.1) (fun y => b y.2)))⟩
    rw [sw_xThing]
    exact ⟨fun d => br_f sw_n10 (h1 ⟨a, Or.inr ⟨e, b⟩, fun _ => d⟩), fun d => br_t rfl (h0 (fun z => d (z.2.2 c)))⟩
theorem sw_ycmd {post : Int32 → SY → Prop} {v1 v2 v3 : Int32} (h1 : sw_Cm v1 v2 v3 → wpY_carryOut post (pl, rc, wc, tc, sc, dk, ex, tr, ps, ct, rv, rs, rn, re, ll, wm, ty, sy) v1 v2 v3) (h0 : ¬ sw_Cm v1 v2 v3 → post (-1) (pl, rc, wc, tc, sc, dk, ex, tr, ps, ct, rv, rs, rn, re, ll, wm, ty, sy)) : wpY_command post (pl, rc, wc, tc, sc, dk, ex, tr, ps, ct, rv, rs, rn, re, ll, wm, ty, sy) v1 v2 v3 := by
  unfold wpY_command
  dsimp only
  rw [sw_yin5]
  refine ⟨fun a => br_f sw_n10 (br_c (fun e => ?_) (fun e => ?_)), fun a => br_t rfl (h0 (fun z => a z.1))⟩
  · unfold wY_command_23
    rw [sw_yin3]
    refine ⟨fun b => br_f sw_n10 (br_c (fun c => ?_) (fun c => h1 ⟨a, Or.inl ⟨e, b⟩, fun z => absurd z c⟩)), fun b => br_t rfl (h0 (fun z => z.2.1.elim (fun y => b y.2) (fun y => y.1 e)))⟩
    exact absurd (e.symm.trans c) (by decide)
  · unfold wY_command_23
    rw [sw_yin7]
    refine ⟨fun b => br_f sw_n10 (br_c (fun c => ?_) (fun c => h1 ⟨a, Or.inr ⟨e, b⟩, fun z => absurd z c⟩)), fun b => br_t rfl (h0 (fun z => z.2.1.elim (fun y => e y.1) (fun y => b y.2)))⟩
    rw [sw_yThing]
    exact ⟨fun d => br_f sw_n10 (h1 ⟨a, Or.inr ⟨e, b⟩, fun _ => d⟩), fun d => br_t rfl (h0 (fun z => d (z.2.2 c)))⟩
end
