/-! ranges, and the small methods of both sides -/
def sw_I (n : Nat) (x : Int32) : Prop := ∃ j : Nat, j < n ∧ x = nI j
def sw_R (n : Nat) (a : Nat → Int32) : Prop := ∀ j, sw_I n (a j)
def sw_n (a : Nat → Int32) : Nat → Nat := fun j => (a j).toNatClampNeg
def sw_b (b : Bool) : Int32 := if b = true then 1 else 0
theorem sw_R_n {n : Nat} {a : Nat → Int32} (h : sw_R n a) (hn : n ≤ 2 ^ 31) (j : Nat) : a j = nI (sw_n a j) ∧ sw_n a j < n := by
  obtain ⟨m, hm, e⟩ := h j
  unfold sw_n
  rw [e, nI_clamp (by omega)]
  exact ⟨rfl, hm⟩
theorem sw_R_u {n m : Nat} {a : Nat → Int32} (h : sw_R n a) (i : Nat) (hm : m < n) : sw_R n (upd a i (nI m)) := by
  intro j
  by_cases e : j = i
  · subst e
    rw [pk_us]
    exact ⟨m, hm, rfl⟩
  · rw [pk_un e]
    exact h j
theorem sw_R_0 {n : Nat} (h : 0 < n) : sw_R n (fun _ => 0) := fun _ => ⟨0, h, rfl⟩
theorem sw_nb0 : narrow .boolean (.int (0 : Int32)) = .int 0 := rfl
theorem sw_nb1 : narrow .boolean (.int (1 : Int32)) = .int 1 := rfl
theorem sw_nbb (b : Bool) : narrow .boolean (.int (sw_b b)) = .int (sw_b b) := by cases b <;> rfl
theorem sw_n10 : ¬ (1 : Int32) = 0 := by decide
theorem sw_b0 (b : Bool) : sw_b b = 0 ↔ b = false := by cases b <;> decide
/-- a range from 0, by its own end -/
theorem sw_xr {post : Int32 → Prop} {x c : Int32} {n : Nat} (hc : c = nI n) (hn : n < 2 ^ 31) : ((x < 0 → post 0) ∧ (¬ x < 0 → ((c ≤ x → post 0) ∧ (¬ c ≤ x → post 1)))) ↔ ((sw_I n x → post 1) ∧ (¬ sw_I n x → post 0)) := by
  subst hc
  rcases pk_ix x hn with h | h | ⟨j, hj, rfl⟩
  · have hI : ¬ sw_I n x := by
      rintro ⟨j, hj, rfl⟩
      exact nI_pos (by omega) h
    exact ⟨fun H => ⟨fun z => absurd z hI, fun _ => H.1 h⟩, fun H => ⟨fun _ => H.2 hI, fun z => absurd h z⟩⟩
  · have hI : ¬ sw_I n x := by
      rintro ⟨j, hj, rfl⟩
      exact nI_ge hj hn h
    have h0 : ¬ x < 0 := Int32.not_lt.mpr (Int32.le_trans (nI_pos' hn) h)
    exact ⟨fun H => ⟨fun z => absurd z hI, fun _ => (H.2 h0).1 h⟩, fun H => ⟨fun z => absurd z h0, fun _ => ⟨fun _ => H.2 hI, fun z => absurd h z⟩⟩⟩
  · have hI : sw_I n (nI j) := ⟨j, hj, rfl⟩
    have h0 : ¬ nI j < 0 := nI_pos (by omega)
    have h1 : ¬ nI n ≤ nI j := nI_ge hj hn
    exact ⟨fun H => ⟨fun _ => (H.2 h0).2 h1, fun z => absurd hI z⟩, fun H => ⟨fun z => absurd z h0, fun _ => ⟨fun z => absurd z h1, fun _ => H.1 hI⟩⟩⟩
/-- the same range, by its last number -/
theorem sw_yr {post : Int32 → Prop} {x c : Int32} {n : Nat} (hc : c = nI n) (hn : n + 1 < 2 ^ 31) : ((x < 0 → post 0) ∧ (¬ x < 0 → ((c < x → post 0) ∧ (¬ c < x → post 1)))) ↔ ((sw_I (n + 1) x → post 1) ∧ (¬ sw_I (n + 1) x → post 0)) := by
  rw [← sw_xr (x := x) (n := n + 1) rfl hn]
  have e : ¬ x < 0 → ((c < x) ↔ (nI (n + 1) ≤ x)) := by
    intro h
    obtain ⟨j, hj, rfl⟩ := nI_of h
    subst hc
    rw [nI_ltI (by omega) hj, nI_leI hn hj]
    omega
  constructor
  · exact fun H => ⟨H.1, fun h => ⟨fun z => (H.2 h).1 ((e h).mpr z), fun z => (H.2 h).2 (fun y => z ((e h).mp y))⟩⟩
  · exact fun H => ⟨H.1, fun h => ⟨fun z => (H.2 h).1 ((e h).mp z), fun z => (H.2 h).2 (fun y => z ((e h).mpr y))⟩⟩
section
variable {pl wc rc tc sc : Int32} {dk ex tr ps ct wl wm rv rs rn re ty se sy ll : Nat → Int32}
theorem sw_xRoom (post : Int32 → Prop) (x : Int32) : wpX_isRoom post x ↔ ((sw_I 6 x → post 1) ∧ (¬ sw_I 6 x → post 0)) := sw_xr (n := 6) rfl (by decide)
theorem sw_xDir (post : Int32 → Prop) (x : Int32) : wpX_isDirection post x ↔ ((sw_I 4 x → post 1) ∧ (¬ sw_I 4 x → post 0)) := sw_xr (n := 4) rfl (by decide)
theorem sw_xThing (post : Int32 → Prop) (x : Int32) : wpX_isThing post x ↔ ((sw_I 8 x → post 1) ∧ (¬ sw_I 8 x → post 0)) := sw_xr (n := 8) rfl (by decide)
theorem sw_xCtr (post : Int32 → Prop) (x : Int32) : wpX_isCounter post x ↔ ((sw_I 4 x → post 1) ∧ (¬ sw_I 4 x → post 0)) := sw_xr (n := 4) rfl (by decide)
theorem sw_xVerb (post : Int32 → Prop) (x : Int32) : wpX_isVerb post x ↔ ((sw_I 6 x → post 1) ∧ (¬ sw_I 6 x → post 0)) := sw_yr (n := 5) rfl (by decide)
theorem sw_xMD (post : Int32 → Prop) (x : Int32) : wpX_meansDirection post x ↔ ((sw_I 4 (x - 10) → post 1) ∧ (¬ sw_I 4 (x - 10) → post 0)) := by
  unfold wpX_meansDirection
  rw [sw_xDir]
  simp only [sw_nb0, sw_nb1, true_and]
theorem sw_xMT (post : Int32 → Prop) (x : Int32) : wpX_meansThing post x ↔ ((sw_I 8 (x - 20) → post 1) ∧ (¬ sw_I 8 (x - 20) → post 0)) := by
  unfold wpX_meansThing
  rw [sw_xThing]
  simp only [sw_nb0, sw_nb1, true_and]
theorem sw_yin5 (post : Int32 → Prop) (x : Int32) : wpY_in post (pl, rc, wc, tc, sc, dk, ex, tr, ps, ct, rv, rs, rn, re, ll, wm, ty, sy) x 0 5 ↔ ((sw_I 6 x → post 1) ∧ (¬ sw_I 6 x → post 0)) := sw_yr (n := 5) rfl (by decide)
theorem sw_yin3 (post : Int32 → Prop) (x : Int32) : wpY_in post (pl, rc, wc, tc, sc, dk, ex, tr, ps, ct, rv, rs, rn, re, ll, wm, ty, sy) x 0 3 ↔ ((sw_I 4 x → post 1) ∧ (¬ sw_I 4 x → post 0)) := sw_yr (n := 3) rfl (by decide)
theorem sw_yin7 (post : Int32 → Prop) (x : Int32) : wpY_in post (pl, rc, wc, tc, sc, dk, ex, tr, ps, ct, rv, rs, rn, re, ll, wm, ty, sy) x 0 7 ↔ ((sw_I 8 x → post 1) ∧ (¬ sw_I 8 x → post 0)) := sw_yr (n := 7) rfl (by decide)
theorem sw_yin15 (post : Int32 → Prop) (x : Int32) : wpY_in post (pl, rc, wc, tc, sc, dk, ex, tr, ps, ct, rv, rs, rn, re, ll, wm, ty, sy) x 0 15 ↔ ((sw_I 16 x → post 1) ∧ (¬ sw_I 16 x → post 0)) := sw_yr (n := 15) rfl (by decide)
theorem sw_yin39 (post : Int32 → Prop) (x : Int32) : wpY_in post (pl, rc, wc, tc, sc, dk, ex, tr, ps, ct, rv, rs, rn, re, ll, wm, ty, sy) x 0 39 ↔ ((sw_I 40 x → post 1) ∧ (¬ sw_I 40 x → post 0)) := sw_yr (n := 39) rfl (by decide)
theorem sw_yin1023 (post : Int32 → Prop) (x : Int32) : wpY_in post (pl, rc, wc, tc, sc, dk, ex, tr, ps, ct, rv, rs, rn, re, ll, wm, ty, sy) x 0 1023 ↔ ((sw_I 1024 x → post 1) ∧ (¬ sw_I 1024 x → post 0)) := sw_yr (n := 1023) rfl (by decide)
theorem sw_yin2047 (post : Int32 → Prop) (x : Int32) : wpY_in post (pl, rc, wc, tc, sc, dk, ex, tr, ps, ct, rv, rs, rn, re, ll, wm, ty, sy) x 0 2047 ↔ ((sw_I 2048 x → post 1) ∧ (¬ sw_I 2048 x → post 0)) := sw_yr (n := 2047) rfl (by decide)
theorem sw_yThing (post : Int32 → Prop) (x : Int32) : wpY_isThing post (pl, rc, wc, tc, sc, dk, ex, tr, ps, ct, rv, rs, rn, re, ll, wm, ty, sy) x ↔ ((sw_I 8 x → post 1) ∧ (¬ sw_I 8 x → post 0)) := by
  unfold wpY_isThing
  dsimp only
  rw [sw_yin7]
  simp only [sw_nb0, sw_nb1, true_and]
/-- a range that begins higher -/
theorem sw_sub {x : Int32} {n a : Nat} : sw_I n (x - nI a) ↔ ∃ j, j < n ∧ x = nI (a + j) := by
  constructor
  · rintro ⟨j, hj, e⟩
    refine ⟨j, hj, ?_⟩
    have : x - nI a + nI a = nI j + nI a := by rw [e]
    rw [Int32.sub_add_cancel] at this
    rw [this, nI_add, Nat.add_comm]
  · rintro ⟨j, hj, rfl⟩
    refine ⟨j, hj, ?_⟩
    rw [pk_sub (by omega), Nat.add_sub_cancel_left]
theorem sw_yrg {post : Int32 → Prop} {x c d : Int32} {a n : Nat} (hc : c = nI a) (hd : d = nI (a + n)) (ha : a + n + 1 < 2 ^ 31) : ((x < c → post 0) ∧ (¬ x < c → ((d < x → post 0) ∧ (¬ d < x → post 1)))) ↔ ((sw_I (n + 1) (x - c) → post 1) ∧ (¬ sw_I (n + 1) (x - c) → post 0)) := by
  subst hc hd
  rw [sw_sub]
  by_cases hx : x < nI a
  · have hI : ¬ ∃ j, j < n + 1 ∧ x = nI (a + j) := by
      rintro ⟨j, hj, rfl⟩
      rw [nI_ltI (by omega) (by omega)] at hx
      omega
    exact ⟨fun H => ⟨fun z => absurd z hI, fun _ => H.1 hx⟩, fun H => ⟨fun _ => H.2 hI, fun z => absurd hx z⟩⟩
  · have h0 : ¬ x < 0 := fun z => hx (Int32.lt_of_lt_of_le z (nI_pos' (by omega)))
    obtain ⟨m, hm, rfl⟩ := nI_of h0
    rw [nI_ltI (by omega) (by omega)] at hx
    by_cases hd : nI (a + n) < nI m
    · have hI : ¬ ∃ j, j < n + 1 ∧ nI m = nI (a + j) := by
        rintro ⟨j, hj, e⟩
        rw [nI_eq (by omega) (by omega)] at e
        rw [nI_ltI (by omega) (by omega)] at hd
        omega
      have hx' : ¬ nI m < nI a := by rw [nI_ltI (by omega) (by omega)]; exact hx
      exact ⟨fun H => ⟨fun z => absurd z hI, fun _ => (H.2 hx').1 hd⟩, fun H => ⟨fun z => absurd z hx', fun _ => ⟨fun _ => H.2 hI, fun z => absurd hd z⟩⟩⟩
    · have hx' : ¬ nI m < nI a := by rw [nI_ltI (by omega) (by omega)]; exact hx
      have hd' := hd
      rw [nI_ltI (by omega) (by omega)] at hd'
      have hI : ∃ j, j < n + 1 ∧ nI m = nI (a + j) := ⟨m - a, by omega, by rw [show a + (m - a) = m by omega]⟩
      exact ⟨fun H => ⟨fun _ => (H.2 hx').2 hd, fun z => absurd hI z⟩, fun H => ⟨fun z => absurd z hx', fun _ => ⟨fun z => absurd z hd, fun _ => H.1 hI⟩⟩⟩
theorem sw_yin13 (post : Int32 → Prop) (x : Int32) : wpY_in post (pl, rc, wc, tc, sc, dk, ex, tr, ps, ct, rv, rs, rn, re, ll, wm, ty, sy) x 10 13 ↔ ((sw_I 4 (x - 10) → post 1) ∧ (¬ sw_I 4 (x - 10) → post 0)) := sw_yrg (a := 10) (n := 3) rfl rfl (by decide)
theorem sw_yin27 (post : Int32 → Prop) (x : Int32) : wpY_in post (pl, rc, wc, tc, sc, dk, ex, tr, ps, ct, rv, rs, rn, re, ll, wm, ty, sy) x 20 27 ↔ ((sw_I 8 (x - 20) → post 1) ∧ (¬ sw_I 8 (x - 20) → post 0)) := sw_yrg (a := 20) (n := 7) rfl rfl (by decide)
theorem sw_yin122 (post : Int32 → Prop) (x : Int32) : wpY_in post (pl, rc, wc, tc, sc, dk, ex, tr, ps, ct, rv, rs, rn, re, ll, wm, ty, sy) x 97 122 ↔ ((sw_I 26 (x - 97) → post 1) ∧ (¬ sw_I 26 (x - 97) → post 0)) := sw_yrg (a := 97) (n := 25) rfl rfl (by decide)
theorem sw_yinW (post : Int32 → Prop) (x : Int32) : wpY_in post (pl, rc, wc, tc, sc, dk, ex, tr, ps, ct, rv, rs, rn, re, ll, wm, ty, sy) x 1 531440 ↔ ((sw_I 531440 (x - 1) → post 1) ∧ (¬ sw_I 531440 (x - 1) → post 0)) := sw_yrg (a := 1) (n := 531439) rfl rfl (by decide)
/-- a range from -1 -/
theorem sw_yrm {post : Int32 → Prop} {x c : Int32} {n : Nat} (hc : c = nI n) (hn : n + 1 < 2 ^ 31) : ((x < -1 → post 0) ∧ (¬ x < -1 → ((c < x → post 0) ∧ (¬ c < x → post 1)))) ↔ (((x = -1 ∨ sw_I (n + 1) x) → post 1) ∧ (¬ (x = -1 ∨ sw_I (n + 1) x) → post 0)) := by
  by_cases h0 : x < 0
  · have hI : ¬ sw_I (n + 1) x := by
      rintro ⟨j, hj, rfl⟩
      exact nI_pos (by omega) h0
    have hcx : ¬ c < x := by
      intro z
      have : c < 0 := Int32.lt_trans z h0
      subst hc
      exact nI_pos (by omega) this
    by_cases e : x = -1
    · subst e
      exact ⟨fun H => ⟨fun _ => (H.2 (by decide)).2 hcx, fun z => absurd (Or.inl rfl) z⟩, fun H => ⟨fun z => absurd z (by decide), fun _ => ⟨fun z => absurd z hcx, fun _ => H.1 (Or.inl rfl)⟩⟩⟩
    · have h1 : x < -1 := by
        rw [Int32.lt_iff_toInt_lt] at h0 ⊢
        have e2 : x.toInt ≠ (-1 : Int32).toInt := fun z => e (Int32.toInt_inj.mp z)
        have e3 : (-1 : Int32).toInt = -1 := by decide
        have e4 : (0 : Int32).toInt = 0 := by decide
        omega
      have hI2 : ¬ (x = -1 ∨ sw_I (n + 1) x) := fun z => z.elim e hI
      exact ⟨fun H => ⟨fun z => absurd z hI2, fun _ => H.1 h1⟩, fun H => ⟨fun _ => H.2 hI2, fun z => absurd h1 z⟩⟩
  · have h1 : ¬ x < -1 := fun z => h0 (Int32.lt_trans z (by decide))
    have e : ¬ x = -1 := fun z => h0 (by rw [z]; decide)
    have H0 := sw_yr (post := post) (x := x) hc hn
    constructor
    · intro H
      have H1 := H0.mp ⟨fun z => absurd z h0, fun _ => H.2 h1⟩
      exact ⟨fun z => H1.1 (z.elim (fun y => absurd y e) id), fun z => H1.2 (fun y => z (Or.inr y))⟩
    · intro H
      have H1 := H0.mpr ⟨fun z => H.1 (Or.inr z), fun z => H.2 (fun y => y.elim e z)⟩
      exact ⟨fun z => absurd z h1, fun _ => H1.2 h0⟩
theorem sw_yinm5 (post : Int32 → Prop) (x : Int32) : wpY_in post (pl, rc, wc, tc, sc, dk, ex, tr, ps, ct, rv, rs, rn, re, ll, wm, ty, sy) x (-1) 5 ↔ (((x = -1 ∨ sw_I 6 x) → post 1) ∧ (¬ (x = -1 ∨ sw_I 6 x) → post 0)) := sw_yrm (n := 5) rfl (by decide)
theorem sw_yinm3 (post : Int32 → Prop) (x : Int32) : wpY_in post (pl, rc, wc, tc, sc, dk, ex, tr, ps, ct, rv, rs, rn, re, ll, wm, ty, sy) x (-1) 3 ↔ (((x = -1 ∨ sw_I 4 x) → post 1) ∧ (¬ (x = -1 ∨ sw_I 4 x) → post 0)) := sw_yrm (n := 3) rfl (by decide)
theorem sw_yinm7 (post : Int32 → Prop) (x : Int32) : wpY_in post (pl, rc, wc, tc, sc, dk, ex, tr, ps, ct, rv, rs, rn, re, ll, wm, ty, sy) x (-1) 7 ↔ (((x = -1 ∨ sw_I 8 x) → post 1) ∧ (¬ (x = -1 ∨ sw_I 8 x) → post 0)) := sw_yrm (n := 7) rfl (by decide)
end
