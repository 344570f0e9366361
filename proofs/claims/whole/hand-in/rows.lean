section
theorem pk_us {f : Nat → Int32} {k : Nat} {x : Int32} : upd f k x k = x := if_pos rfl
theorem pk_un {f : Nat → Int32} {k j : Nat} {x : Int32} (h : j ≠ k) : upd f k x j = f j := if_neg h
theorem pk_sub {a b : Nat} (h : b ≤ a) : nI a - nI b = nI (a - b) := by
  obtain ⟨c, rfl⟩ : ∃ c, a = c + b := ⟨a - b, by omega⟩
  rw [← nI_add, Int32.add_sub_cancel, Nat.add_sub_cancel]
theorem pk_m1 (n : Nat) : nI (n + 1) + (-1) = nI n := by
  rw [← nI_1, Int32.add_assoc, show (1 : Int32) + (-1) = 0 from rfl, Int32.add_zero]
theorem pk_mul (a b : Nat) : nI a * nI b = nI (a * b) := (Int32.ofNat_mul a b).symm
theorem pk_div {a d : Nat} (ha : a < 2 ^ 31) (h0 : 0 < d) (hd : d < 2 ^ 31) : nI a / nI d = nI (a / d) := by
  apply Int32.toInt_inj.mp
  rw [lg_idiv_nonneg (by rw [nI_toInt ha]; omega) (by rw [nI_toInt hd]; omega), nI_toInt ha, nI_toInt hd, nI_toInt (Nat.lt_of_le_of_lt (Nat.div_le_self a d) ha)]
  first | rfl | exact (Int.natCast_ediv _ _).symm
theorem pk_rem {a d : Nat} (ha : a < 2 ^ 31) (h0 : 0 < d) (hd : d < 2 ^ 31) : nI a - nI a / nI d * nI d = nI (a % d) := by
  rw [pk_div ha h0 hd, pk_mul, pk_sub (Nat.div_mul_le_self a d)]
  exact congrArg nI (by have := Nat.div_add_mod' a d; omega)
theorem pk_ix (x : Int32) {n : Nat} (hn : n < 2 ^ 31) : x < 0 ∨ nI n ≤ x ∨ ∃ j : Nat, j < n ∧ x = nI j := by
  by_cases h : x < 0
  · exact Or.inl h
  · obtain ⟨j, hj, rfl⟩ := nI_of h
    by_cases h2 : j < n
    · exact Or.inr (Or.inr ⟨j, h2, rfl⟩)
    · exact Or.inr (Or.inl (nI_le (by omega) hj))
theorem pk_le {x y : Int32} {A B : Prop} (a b : Nat) (f : a ≤ b → A) (g : b < a → B) (hx : x = nI a := by rfl) (hy : y = nI b := by rfl) (ha : a < 2 ^ 31 := by omega) (hb : b < 2 ^ 31 := by omega) : (x ≤ y → A) ∧ (¬ x ≤ y → B) := by
  subst hx hy
  rw [nI_leI ha hb]
  exact ⟨f, fun z => g (by omega)⟩
theorem pk_lt {x y : Int32} {A B : Prop} (a b : Nat) (f : a < b → A) (g : b ≤ a → B) (hx : x = nI a := by rfl) (hy : y = nI b := by rfl) (ha : a < 2 ^ 31 := by omega) (hb : b < 2 ^ 31 := by omega) : (x < y → A) ∧ (¬ x < y → B) := by
  subst hx hy
  rw [nI_ltI ha hb]
  exact ⟨f, fun z => g (by omega)⟩
theorem pk_eq {x y : Int32} {A B : Prop} (a b : Nat) (f : a = b → A) (g : a ≠ b → B) (hx : x = nI a := by rfl) (hy : y = nI b := by rfl) (ha : a < 2 ^ 31 := by omega) (hb : b < 2 ^ 31 := by omega) : (x = y → A) ∧ (¬ x = y → B) := by
  subst hx hy
  rw [nI_eq ha hb]
  exact ⟨f, g⟩
theorem pk_in {x : Int32} (n N : Nat) (h : n < N) (hx : x = nI n := by rfl) (hN : N < 2 ^ 31 := by omega) : vp_in x N := by
  subst hx
  exact vp_in_nI h hN
theorem pk_cl {x : Int32} (n : Nat) (hx : x = nI n := by rfl) (h : n < 2 ^ 31 := by omega) : x.toNatClampNeg = n := by
  subst hx
  exact nI_clamp h
theorem pk_tn {n : Nat} (h : n < 2 ^ 32) : (nI n).toBitVec.toNat = n := Nat.mod_eq_of_lt h
theorem pk_and (x : Int32) {m : Int32} (k : Nat) (hm : m.toBitVec.toNat = 2 ^ k - 1) : x &&& m = nI (x.toBitVec.toNat % 2 ^ k) := by
  apply Int32.toBitVec_inj.mp
  apply BitVec.eq_of_toNat_eq
  rw [Int32.toBitVec_and, BitVec.toNat_and, hm, Nat.and_two_pow_sub_one_eq_mod]
  show _ = (BitVec.ofNat 32 _).toNat
  rw [BitVec.toNat_ofNat]
  exact (Nat.mod_eq_of_lt (Nat.lt_of_le_of_lt (Nat.mod_le _ _) x.toBitVec.isLt)).symm
theorem pk_andN {n : Nat} (h : n < 2 ^ 32) {m : Int32} (k : Nat) (hm : m.toBitVec.toNat = 2 ^ k - 1) : nI n &&& m = nI (n % 2 ^ k) := by
  rw [pk_and _ k hm, pk_tn h]
theorem pk_andE (x : Int32) {m : Int32} (k : Nat) (hm : m.toBitVec.toNat = 2 ^ k - 1) : ∃ j : Nat, j < 2 ^ k ∧ x &&& m = nI j := ⟨_, Nat.mod_lt _ (Nat.two_pow_pos k), pk_and x k hm⟩
theorem pk_andIn (x : Int32) {m : Int32} (k : Nat) (hm : m.toBitVec.toNat = 2 ^ k - 1) (hk : k ≤ 30) : vp_in (x &&& m) (2 ^ k) := by
  obtain ⟨j, hj, e⟩ := pk_andE x k hm
  rw [e]
  exact vp_in_nI hj (Nat.lt_of_le_of_lt (Nat.pow_le_pow_right (by decide) hk) (by decide))
theorem pk_shl (a s : Int32) (k : Nat) (hs : (s.toBitVec.smod 32).toNat = k) : (a <<< s).toBitVec.toNat = a.toBitVec.toNat * 2 ^ k % 2 ^ 32 := by
  show (a.toBitVec <<< (s.toBitVec.smod 32).toNat).toNat = _
  rw [hs, BitVec.toNat_shiftLeft, Nat.shiftLeft_eq]
theorem pk_shlN {n : Nat} (s : Int32) (k : Nat) (hs : (s.toBitVec.smod 32).toNat = k) (h : n * 2 ^ k < 2 ^ 32) : nI n <<< s = nI (n * 2 ^ k) := by
  apply Int32.toBitVec_inj.mp
  apply BitVec.eq_of_toNat_eq
  have hn : n < 2 ^ 32 := Nat.lt_of_le_of_lt (Nat.le_mul_of_pos_right n (Nat.two_pow_pos k)) h
  rw [pk_shl _ _ k hs, pk_tn hn, pk_tn h, Nat.mod_eq_of_lt h]
theorem pk_shr (a s : Int32) (k : Nat) (hs : (s.toBitVec.smod 32).toNat = k) : (a >>> s).toInt = a.toInt >>> k := by
  show (a.toBitVec.sshiftRight (s.toBitVec.smod 32).toNat).toInt = _
  rw [hs, BitVec.toInt_sshiftRight]
  rfl
theorem pk_shrN {n : Nat} (h : n < 2 ^ 31) (s : Int32) (k : Nat) (hs : (s.toBitVec.smod 32).toNat = k) : nI n >>> s = nI (n / 2 ^ k) := by
  apply Int32.toInt_inj.mp
  have h2 : n / 2 ^ k ≤ n := Nat.div_le_self _ _
  rw [pk_shr _ _ k hs, nI_toInt h, nI_toInt (by omega), Int.shiftRight_eq_div_pow]
  rfl
theorem nx_and (a b : Nat) : nI a &&& nI b = nI (a &&& b) := by
  apply Int32.toBitVec_inj.1
  show BitVec.ofNat 32 a &&& BitVec.ofNat 32 b = BitVec.ofNat 32 (a &&& b)
  apply BitVec.eq_of_getLsbD_eq
  intro i hi
  simp [hi]
theorem nx_xor (a b : Nat) : nI a ^^^ nI b = nI (a ^^^ b) := by
  apply Int32.toBitVec_inj.1
  show BitVec.ofNat 32 a ^^^ BitVec.ofNat 32 b = BitVec.ofNat 32 (a ^^^ b)
  apply BitVec.eq_of_getLsbD_eq
  intro i hi
  simp [hi]
/-! the pigeonhole, and the chain of holders -/
theorem sw_pig : ∀ (n : Nat) (f : Nat → Nat), (∀ i, i ≤ n → f i < n) → ∃ i j, i < j ∧ j ≤ n ∧ f i = f j := by
  intro n
  induction n with
  | zero =>
    intro f h
    have := h 0 (Nat.le_refl 0)
    omega
  | succ n ih =>
    intro f h
    by_cases hx : ∃ i, i ≤ n ∧ f i = f (n + 1)
    · obtain ⟨i, hi, e⟩ := hx
      exact ⟨i, n + 1, by omega, by omega, e⟩
    · have hne : ∀ i, i ≤ n → f i ≠ f (n + 1) := fun i hi e => hx ⟨i, hi, e⟩
      have hl := h (n + 1) (by omega)
      obtain ⟨i, j, hij, hj, e⟩ := ih (fun i => if f i = n then f (n + 1) else f i) (by
        intro i hi
        have h1 := h i (by omega)
        have h2 := hne i hi
        show (if f i = n then f (n + 1) else f i) < n
        split <;> omega)
      have h1 := hne i (by omega)
      have h2 := hne j (by omega)
      refine ⟨i, j, hij, by omega, ?_⟩
      have e' : (if f i = n then f (n + 1) else f i) = (if f j = n then f (n + 1) else f j) := e
      split at e' <;> split at e' <;> omega
def sw_ch (p : Nat → Nat) (m : Nat) : Nat → Nat
  | 0 => m
  | n + 1 => p (sw_ch p m n - 8)
def sw_w (p : Nat → Nat) (t : Nat) : Nat → Nat → Bool
  | 0, _ => false
  | n + 1, m => if m < 8 then false else if m - 8 = t then true else sw_w p t n (p (m - 8))
theorem sw_ch_s (p : Nat → Nat) (m : Nat) : ∀ n, sw_ch p m (n + 1) = sw_ch p (p (m - 8)) n := by
  intro n
  induction n with
  | zero => rfl
  | succ n ih =>
    show p (sw_ch p m (n + 1) - 8) = p (sw_ch p (p (m - 8)) n - 8)
    rw [ih]
theorem sw_w_iff (p : Nat → Nat) (t : Nat) : ∀ n m, sw_w p t n m = true ↔ ∃ i, i < n ∧ (∀ j, j ≤ i → 8 ≤ sw_ch p m j) ∧ sw_ch p m i = t + 8 := by
  intro n
  induction n with
  | zero =>
    intro m
    constructor
    · intro h
      exact absurd h (by show ¬ (false = true); decide)
    · rintro ⟨i, hi, _⟩
      omega
  | succ n ih =>
    intro m
    by_cases h8 : m < 8
    · have e : sw_w p t (n + 1) m = false := by
        show (if m < 8 then false else _) = false
        rw [if_pos h8]
      rw [e]
      constructor
      · intro h
        exact absurd h (by decide)
      · rintro ⟨i, hi, ha, _⟩
        have : 8 ≤ m := ha 0 (by omega)
        omega
    · by_cases ht : m - 8 = t
      · have e : sw_w p t (n + 1) m = true := by
          show (if m < 8 then false else if m - 8 = t then true else _) = true
          rw [if_neg h8, if_pos ht]
        rw [e]
        refine ⟨fun _ => ⟨0, by omega, ?_, ?_⟩, fun _ => rfl⟩
        · intro j hj
          obtain rfl : j = 0 := by omega
          show 8 ≤ m
          omega
        · show m = t + 8
          omega
      · have e : sw_w p t (n + 1) m = sw_w p t n (p (m - 8)) := by
          show (if m < 8 then false else if m - 8 = t then true else _) = _
          rw [if_neg h8, if_neg ht]
        rw [e, ih]
        constructor
        · rintro ⟨i, hi, ha, he⟩
          refine ⟨i + 1, by omega, ?_, by rw [sw_ch_s]; exact he⟩
          intro j hj
          cases j with
          | zero => show 8 ≤ m; omega
          | succ j => rw [sw_ch_s]; exact ha j (by omega)
        · rintro ⟨i, hi, ha, he⟩
          cases i with
          | zero =>
            have : m = t + 8 := he
            omega
          | succ i =>
            refine ⟨i, by omega, ?_, by rw [← sw_ch_s]; exact he⟩
            intro j hj
            rw [← sw_ch_s]
            exact ha (j + 1) (by omega)
theorem sw_per (p : Nat → Nat) (m i j : Nat) (e : sw_ch p m i = sw_ch p m j) : ∀ k, sw_ch p m (i + k) = sw_ch p m (j + k) := by
  intro k
  induction k with
  | zero => exact e
  | succ k ih =>
    show p (sw_ch p m (i + k) - 8) = p (sw_ch p m (j + k) - 8)
    rw [ih]
theorem sw_98 (p : Nat → Nat) (t m : Nat) (hp : ∀ j, p j < 16) (hm : m < 16) : sw_w p t 9 m = sw_w p t 8 m := by
  have hb : ∀ j, sw_ch p m j < 16 := by
    intro j
    cases j with
    | zero => exact hm
    | succ j => exact hp _
  apply Bool.eq_iff_iff.mpr
  rw [sw_w_iff, sw_w_iff]
  constructor
  · rintro ⟨i, hi, ha, he⟩
    by_cases h8 : i < 8
    · exact ⟨i, h8, ha, he⟩
    · obtain rfl : i = 8 := by omega
      obtain ⟨a, b, hab, hb8, e⟩ := sw_pig 8 (fun j => sw_ch p m j - 8) (by
        intro j hj
        have h1 := ha j hj
        have h2 := hb j
        show sw_ch p m j - 8 < 8
        omega)
      have e' : sw_ch p m a - 8 = sw_ch p m b - 8 := e
      have h1 := ha a (by omega)
      have h2 := ha b (by omega)
      have e2 : sw_ch p m a = sw_ch p m b := by omega
      have e3 := sw_per p m a b e2 (8 - b)
      have e4 : b + (8 - b) = 8 := by omega
      rw [e4] at e3
      exact ⟨a + (8 - b), by omega, fun j hj => ha j (by omega), by rw [e3]; exact he⟩
  · rintro ⟨i, hi, ha, he⟩
    exact ⟨i, by omega, ha, he⟩
def sw_nr (p tr : Nat → Int32) (pr : Int32) : Nat → Nat → Bool
  | 0, m => decide (nI m = pr ∨ m = 6)
  | n + 1, m => if m < 8 then decide (nI m = pr ∨ m = 6) else if tr (m - 8) &&& 6 = 6 then sw_nr p tr pr n (p (m - 8)).toNatClampNeg else false
/-! numbers -/
theorem sw_and3 {q : Nat} (h : q < 2048) : nI q &&& 3 = nI (q % 4) := pk_andN (by omega) 2 (by decide)
theorem sw_and15 {q : Nat} (h : q < 2048) : nI q &&& 15 = nI (q % 16) := pk_andN (by omega) 4 (by decide)
theorem sw_shr2 {q : Nat} (h : q < 2048) : nI q >>> ((2 : Int32) &&& 31) = nI (q / 4) := pk_shrN (by omega) _ 2 (by decide)
theorem sw_shr6 {q : Nat} (h : q < 2048) : nI q >>> ((6 : Int32) &&& 31) = nI (q / 64) := pk_shrN (by omega) _ 6 (by decide)
theorem sw_stop : ∀ q, q < 2048 → (nI q &&& 1024 = 0 ↔ ¬ (1024 : Int32) ≤ nI q) := by decide +kernel
theorem sw_bit : ∀ q, q < 16 → ∀ b, b < 4 → (nI q &&& ((1 : Int32) <<< (nI b &&& 31)) = 0 ↔ ¬ (nI q >>> (nI b &&& 31)) &&& 1 = 1) := by decide +kernel
theorem sw_x4 : ∀ q, q < 16 → nI q ^^^ 4 = nI (q ^^^ 4) ∧ q ^^^ 4 < 16 := by decide +kernel
theorem sw_and1 (x : Int32) : x &&& 1 = 0 ∨ x &&& 1 = 1 := by
  obtain ⟨j, hj, e⟩ := pk_andE x (m := 1) 1 (by decide)
  rw [e]
  have : j = 0 ∨ j = 1 := by omega
  rcases this with rfl | rfl
  · exact Or.inl rfl
  · exact Or.inr rfl
def sw_cv (q : Nat) : Prop := q < 1024 ∧ (q % 4 = 0 ∨ (q % 4 = 1 ∧ q / 4 % 16 < 4) ∨ (q % 4 = 2 ∧ q / 4 % 16 < 8) ∨ (q % 4 = 3 ∧ q / 4 % 16 < 8 ∧ q / 64 < 4))
def sw_ev (q : Nat) : Prop := q < 2048 ∧ (q % 4 = 0 ∨ (q % 4 = 1 ∧ q / 4 % 16 < 8) ∨ (q % 4 = 2 ∧ q / 4 % 16 < 4) ∨ (q % 4 = 3 ∧ q / 4 % 16 < 6))
/-- four letters in one number -/
def sw_ok (n : Nat) : Prop := n % 27 ≠ 0 ∧ (n / 27 % 27 = 0 → n / 729 % 27 = 0) ∧ (n / 729 % 27 = 0 → n / 19683 % 27 = 0)
theorem sw_ok_iff {n : Nat} (h : n < 531441) : sw_ok n ↔ n % 27 ≠ 0 ∧ (0 < n / 27 → n / 27 % 27 ≠ 0) ∧ (0 < n / 729 → n / 729 % 27 ≠ 0) := by
  unfold sw_ok
  omega
theorem sw_dig {m n : Nat} (hm : m < 531441) (hn : n < 531441) : m = n ↔ (m % 27 = n % 27 ∧ m / 27 % 27 = n / 27 % 27 ∧ m / 729 % 27 = n / 729 % 27 ∧ m / 19683 % 27 = n / 19683 % 27) := by
  omega
theorem sw_dig4 {a b c d : Nat} (ha : a < 27) (hb : b < 27) (hc : c < 27) (hd : d < 27) (n : Nat) (e : n = a + 27 * b + 729 * c + 19683 * d) : n < 531441 ∧ n % 27 = a ∧ n / 27 % 27 = b ∧ n / 729 % 27 = c ∧ n / 19683 % 27 = d := by
  omega
/-! the letters of a typed word, added up -/
def sw_tl (c : Nat → Nat) (j i : Nat) : Nat := if j < i then c j else 0
def sw_enc (c : Nat → Nat) (s i : Nat) : Nat := sw_tl c s i + 27 * sw_tl c (s + 1) i + 729 * sw_tl c (s + 2) i + 19683 * sw_tl c (s + 3) i
def sw_wt (d : Nat) : Nat := if d = 0 then 1 else if d = 1 then 27 else if d = 2 then 729 else if d = 3 then 19683 else 0
theorem sw_wt_s (d : Nat) : sw_wt (d + 1) = if sw_wt d < 19683 then sw_wt d * 27 else 0 := by
  match d with
  | 0 => rfl
  | 1 => rfl
  | 2 => rfl
  | 3 => rfl
  | n + 4 =>
    have h1 : sw_wt (n + 4) = 0 := by
      unfold sw_wt
      rw [if_neg (by omega), if_neg (by omega), if_neg (by omega), if_neg (by omega)]
    have h2 : sw_wt (n + 4 + 1) = 0 := by
      unfold sw_wt
      rw [if_neg (by omega), if_neg (by omega), if_neg (by omega), if_neg (by omega)]
    rw [h1, h2]
    rfl
theorem sw_wt_le (d : Nat) : sw_wt d ≤ 19683 := by
  unfold sw_wt
  split
  · omega
  · split
    · omega
    · split
      · omega
      · split <;> omega
theorem sw_tl_t {c : Nat → Nat} {j i : Nat} (h : j < i) : sw_tl c j i = c j := if_pos h
theorem sw_tl_f {c : Nat → Nat} {j i : Nat} (h : i ≤ j) : sw_tl c j i = 0 := if_neg (by omega)
theorem sw_enc_0 (c : Nat → Nat) (s : Nat) : sw_enc c s s = 0 := by
  unfold sw_enc
  rw [sw_tl_f (by omega), sw_tl_f (by omega), sw_tl_f (by omega), sw_tl_f (by omega)]
theorem sw_enc_s (c : Nat → Nat) {s i : Nat} (h : s ≤ i) : sw_enc c s (i + 1) = sw_enc c s i + c i * sw_wt (i - s) := by
  have hc : i = s ∨ i = s + 1 ∨ i = s + 2 ∨ i = s + 3 ∨ s + 4 ≤ i := by omega
  rcases hc with h | h | h | h | h
  · subst h
    have w : sw_wt (i - i) = 1 := by rw [Nat.sub_self]; rfl
    unfold sw_enc
    rw [w, sw_tl_t (show i < i + 1 by omega), sw_tl_f (show i + 1 ≤ i + 1 by omega), sw_tl_f (show i + 1 ≤ i + 2 by omega), sw_tl_f (show i + 1 ≤ i + 3 by omega), sw_tl_f (show i ≤ i by omega), sw_tl_f (show i ≤ i + 1 by omega), sw_tl_f (show i ≤ i + 2 by omega), sw_tl_f (show i ≤ i + 3 by omega)]
    omega
  · subst h
    have w : sw_wt (s + 1 - s) = 27 := by rw [Nat.add_sub_cancel_left]; rfl
    unfold sw_enc
    rw [w, sw_tl_t (show s < s + 1 + 1 by omega), sw_tl_t (show s + 1 < s + 1 + 1 by omega), sw_tl_f (show s + 1 + 1 ≤ s + 2 by omega), sw_tl_f (show s + 1 + 1 ≤ s + 3 by omega), sw_tl_t (show s < s + 1 by omega), sw_tl_f (show s + 1 ≤ s + 1 by omega), sw_tl_f (show s + 1 ≤ s + 2 by omega), sw_tl_f (show s + 1 ≤ s + 3 by omega)]
    omega
  · subst h
    have w : sw_wt (s + 2 - s) = 729 := by rw [Nat.add_sub_cancel_left]; rfl
    unfold sw_enc
    rw [w, sw_tl_t (show s < s + 2 + 1 by omega), sw_tl_t (show s + 1 < s + 2 + 1 by omega), sw_tl_t (show s + 2 < s + 2 + 1 by omega), sw_tl_f (show s + 2 + 1 ≤ s + 3 by omega), sw_tl_t (show s < s + 2 by omega), sw_tl_t (show s + 1 < s + 2 by omega), sw_tl_f (show s + 2 ≤ s + 2 by omega), sw_tl_f (show s + 2 ≤ s + 3 by omega)]
    omega
  · subst h
    have w : sw_wt (s + 3 - s) = 19683 := by rw [Nat.add_sub_cancel_left]; rfl
    unfold sw_enc
    rw [w, sw_tl_t (show s < s + 3 + 1 by omega), sw_tl_t (show s + 1 < s + 3 + 1 by omega), sw_tl_t (show s + 2 < s + 3 + 1 by omega), sw_tl_t (show s + 3 < s + 3 + 1 by omega), sw_tl_t (show s < s + 3 by omega), sw_tl_t (show s + 1 < s + 3 by omega), sw_tl_t (show s + 2 < s + 3 by omega), sw_tl_f (show s + 3 ≤ s + 3 by omega)]
    omega
  · have w : sw_wt (i - s) = 0 := by
      unfold sw_wt
      rw [if_neg (by omega), if_neg (by omega), if_neg (by omega), if_neg (by omega)]
    unfold sw_enc
    rw [w, sw_tl_t (show s < i + 1 by omega), sw_tl_t (show s + 1 < i + 1 by omega), sw_tl_t (show s + 2 < i + 1 by omega), sw_tl_t (show s + 3 < i + 1 by omega), sw_tl_t (show s < i by omega), sw_tl_t (show s + 1 < i by omega), sw_tl_t (show s + 2 < i by omega), sw_tl_t (show s + 3 < i by omega)]
    omega
theorem sw_tl_lt {c : Nat → Nat} {i : Nat} (h : ∀ j, j < i → c j < 27) (j : Nat) : sw_tl c j i < 27 := by
  unfold sw_tl
  split
  · exact h j (by assumption)
  · omega
theorem sw_enc_d {c : Nat → Nat} {i : Nat} (h : ∀ j, j < i → c j < 27) (s : Nat) : sw_enc c s i < 531441 ∧ sw_enc c s i % 27 = sw_tl c s i ∧ sw_enc c s i / 27 % 27 = sw_tl c (s + 1) i ∧ sw_enc c s i / 729 % 27 = sw_tl c (s + 2) i ∧ sw_enc c s i / 19683 % 27 = sw_tl c (s + 3) i :=
  sw_dig4 (sw_tl_lt h _) (sw_tl_lt h _) (sw_tl_lt h _) (sw_tl_lt h _) _ rfl
theorem sw_enc_p {c : Nat → Nat} {s i : Nat} (h : ∀ j, j < i → 0 < c j) (hs : s < i) : 0 < sw_enc c s i := by
  have h1 := h s hs
  have h2 := sw_tl_t (c := c) hs
  unfold sw_enc
  omega
/-! literals against nI (written by wip/whole/lits.py) -/
theorem sw_lt_0 {j : Nat} (h : j < 2 ^ 31) : (nI j < 0) ↔ False := ⟨fun z => nI_pos h z, False.elim⟩
theorem sw_ge_0 {j : Nat} (h : j < 2 ^ 31) : (0 ≤ nI j) ↔ True := ⟨fun _ => trivial, fun _ => nI_pos' h⟩
theorem sw_gt_0 {j : Nat} (h : j < 2 ^ 31) : (0 < nI j) ↔ 0 < j := nI_ltI (a := 0) (by decide) h
theorem sw_le_0 {j : Nat} (h : j < 2 ^ 31) : (nI j ≤ 0) ↔ j ≤ 0 := nI_leI (b := 0) h (by decide)
theorem sw_eq_0 {j : Nat} (h : j < 2 ^ 31) : (nI j = 0) ↔ j = 0 := nI_eq (b := 0) h (by decide)
theorem sw_lt_1 {j : Nat} (h : j < 2 ^ 31) : (nI j < 1) ↔ j < 1 := nI_ltI (b := 1) h (by decide)
theorem sw_gt_1 {j : Nat} (h : j < 2 ^ 31) : (1 < nI j) ↔ 1 < j := nI_ltI (a := 1) (by decide) h
theorem sw_le_1 {j : Nat} (h : j < 2 ^ 31) : (nI j ≤ 1) ↔ j ≤ 1 := nI_leI (b := 1) h (by decide)
theorem sw_ge_1 {j : Nat} (h : j < 2 ^ 31) : (1 ≤ nI j) ↔ 1 ≤ j := nI_leI (a := 1) (by decide) h
theorem sw_eq_1 {j : Nat} (h : j < 2 ^ 31) : (nI j = 1) ↔ j = 1 := nI_eq (b := 1) h (by decide)
theorem sw_lt_2 {j : Nat} (h : j < 2 ^ 31) : (nI j < 2) ↔ j < 2 := nI_ltI (b := 2) h (by decide)
theorem sw_gt_2 {j : Nat} (h : j < 2 ^ 31) : (2 < nI j) ↔ 2 < j := nI_ltI (a := 2) (by decide) h
theorem sw_le_2 {j : Nat} (h : j < 2 ^ 31) : (nI j ≤ 2) ↔ j ≤ 2 := nI_leI (b := 2) h (by decide)
theorem sw_ge_2 {j : Nat} (h : j < 2 ^ 31) : (2 ≤ nI j) ↔ 2 ≤ j := nI_leI (a := 2) (by decide) h
theorem sw_eq_2 {j : Nat} (h : j < 2 ^ 31) : (nI j = 2) ↔ j = 2 := nI_eq (b := 2) h (by decide)
theorem sw_lt_3 {j : Nat} (h : j < 2 ^ 31) : (nI j < 3) ↔ j < 3 := nI_ltI (b := 3) h (by decide)
theorem sw_gt_3 {j : Nat} (h : j < 2 ^ 31) : (3 < nI j) ↔ 3 < j := nI_ltI (a := 3) (by decide) h
theorem sw_le_3 {j : Nat} (h : j < 2 ^ 31) : (nI j ≤ 3) ↔ j ≤ 3 := nI_leI (b := 3) h (by decide)
theorem sw_ge_3 {j : Nat} (h : j < 2 ^ 31) : (3 ≤ nI j) ↔ 3 ≤ j := nI_leI (a := 3) (by decide) h
theorem sw_eq_3 {j : Nat} (h : j < 2 ^ 31) : (nI j = 3) ↔ j = 3 := nI_eq (b := 3) h (by decide)
theorem sw_lt_4 {j : Nat} (h : j < 2 ^ 31) : (nI j < 4) ↔ j < 4 := nI_ltI (b := 4) h (by decide)
theorem sw_gt_4 {j : Nat} (h : j < 2 ^ 31) : (4 < nI j) ↔ 4 < j := nI_ltI (a := 4) (by decide) h
theorem sw_le_4 {j : Nat} (h : j < 2 ^ 31) : (nI j ≤ 4) ↔ j ≤ 4 := nI_leI (b := 4) h (by decide)
theorem sw_ge_4 {j : Nat} (h : j < 2 ^ 31) : (4 ≤ nI j) ↔ 4 ≤ j := nI_leI (a := 4) (by decide) h
theorem sw_eq_4 {j : Nat} (h : j < 2 ^ 31) : (nI j = 4) ↔ j = 4 := nI_eq (b := 4) h (by decide)
theorem sw_lt_5 {j : Nat} (h : j < 2 ^ 31) : (nI j < 5) ↔ j < 5 := nI_ltI (b := 5) h (by decide)
theorem sw_gt_5 {j : Nat} (h : j < 2 ^ 31) : (5 < nI j) ↔ 5 < j := nI_ltI (a := 5) (by decide) h
theorem sw_le_5 {j : Nat} (h : j < 2 ^ 31) : (nI j ≤ 5) ↔ j ≤ 5 := nI_leI (b := 5) h (by decide)
theorem sw_ge_5 {j : Nat} (h : j < 2 ^ 31) : (5 ≤ nI j) ↔ 5 ≤ j := nI_leI (a := 5) (by decide) h
theorem sw_eq_5 {j : Nat} (h : j < 2 ^ 31) : (nI j = 5) ↔ j = 5 := nI_eq (b := 5) h (by decide)
theorem sw_lt_6 {j : Nat} (h : j < 2 ^ 31) : (nI j < 6) ↔ j < 6 := nI_ltI (b := 6) h (by decide)
theorem sw_gt_6 {j : Nat} (h : j < 2 ^ 31) : (6 < nI j) ↔ 6 < j := nI_ltI (a := 6) (by decide) h
theorem sw_le_6 {j : Nat} (h : j < 2 ^ 31) : (nI j ≤ 6) ↔ j ≤ 6 := nI_leI (b := 6) h (by decide)
theorem sw_ge_6 {j : Nat} (h : j < 2 ^ 31) : (6 ≤ nI j) ↔ 6 ≤ j := nI_leI (a := 6) (by decide) h
theorem sw_eq_6 {j : Nat} (h : j < 2 ^ 31) : (nI j = 6) ↔ j = 6 := nI_eq (b := 6) h (by decide)
theorem sw_lt_7 {j : Nat} (h : j < 2 ^ 31) : (nI j < 7) ↔ j < 7 := nI_ltI (b := 7) h (by decide)
theorem sw_gt_7 {j : Nat} (h : j < 2 ^ 31) : (7 < nI j) ↔ 7 < j := nI_ltI (a := 7) (by decide) h
theorem sw_le_7 {j : Nat} (h : j < 2 ^ 31) : (nI j ≤ 7) ↔ j ≤ 7 := nI_leI (b := 7) h (by decide)
theorem sw_ge_7 {j : Nat} (h : j < 2 ^ 31) : (7 ≤ nI j) ↔ 7 ≤ j := nI_leI (a := 7) (by decide) h
theorem sw_eq_7 {j : Nat} (h : j < 2 ^ 31) : (nI j = 7) ↔ j = 7 := nI_eq (b := 7) h (by decide)
theorem sw_lt_8 {j : Nat} (h : j < 2 ^ 31) : (nI j < 8) ↔ j < 8 := nI_ltI (b := 8) h (by decide)
theorem sw_gt_8 {j : Nat} (h : j < 2 ^ 31) : (8 < nI j) ↔ 8 < j := nI_ltI (a := 8) (by decide) h
theorem sw_le_8 {j : Nat} (h : j < 2 ^ 31) : (nI j ≤ 8) ↔ j ≤ 8 := nI_leI (b := 8) h (by decide)
theorem sw_ge_8 {j : Nat} (h : j < 2 ^ 31) : (8 ≤ nI j) ↔ 8 ≤ j := nI_leI (a := 8) (by decide) h
theorem sw_eq_8 {j : Nat} (h : j < 2 ^ 31) : (nI j = 8) ↔ j = 8 := nI_eq (b := 8) h (by decide)
theorem sw_lt_9 {j : Nat} (h : j < 2 ^ 31) : (nI j < 9) ↔ j < 9 := nI_ltI (b := 9) h (by decide)
theorem sw_gt_9 {j : Nat} (h : j < 2 ^ 31) : (9 < nI j) ↔ 9 < j := nI_ltI (a := 9) (by decide) h
theorem sw_le_9 {j : Nat} (h : j < 2 ^ 31) : (nI j ≤ 9) ↔ j ≤ 9 := nI_leI (b := 9) h (by decide)
theorem sw_ge_9 {j : Nat} (h : j < 2 ^ 31) : (9 ≤ nI j) ↔ 9 ≤ j := nI_leI (a := 9) (by decide) h
theorem sw_eq_9 {j : Nat} (h : j < 2 ^ 31) : (nI j = 9) ↔ j = 9 := nI_eq (b := 9) h (by decide)
theorem sw_lt_10 {j : Nat} (h : j < 2 ^ 31) : (nI j < 10) ↔ j < 10 := nI_ltI (b := 10) h (by decide)
theorem sw_gt_10 {j : Nat} (h : j < 2 ^ 31) : (10 < nI j) ↔ 10 < j := nI_ltI (a := 10) (by decide) h
theorem sw_le_10 {j : Nat} (h : j < 2 ^ 31) : (nI j ≤ 10) ↔ j ≤ 10 := nI_leI (b := 10) h (by decide)
theorem sw_ge_10 {j : Nat} (h : j < 2 ^ 31) : (10 ≤ nI j) ↔ 10 ≤ j := nI_leI (a := 10) (by decide) h
theorem sw_eq_10 {j : Nat} (h : j < 2 ^ 31) : (nI j = 10) ↔ j = 10 := nI_eq (b := 10) h (by decide)
theorem sw_lt_11 {j : Nat} (h : j < 2 ^ 31) : (nI j < 11) ↔ j < 11 := nI_ltI (b := 11) h (by decide)
theorem sw_gt_11 {j : Nat} (h : j < 2 ^ 31) : (11 < nI j) ↔ 11 < j := nI_ltI (a := 11) (by decide) h
theorem sw_le_11 {j : Nat} (h : j < 2 ^ 31) : (nI j ≤ 11) ↔ j ≤ 11 := nI_leI (b := 11) h (by decide)
theorem sw_ge_11 {j : Nat} (h : j < 2 ^ 31) : (11 ≤ nI j) ↔ 11 ≤ j := nI_leI (a := 11) (by decide) h
theorem sw_eq_11 {j : Nat} (h : j < 2 ^ 31) : (nI j = 11) ↔ j = 11 := nI_eq (b := 11) h (by decide)
theorem sw_lt_12 {j : Nat} (h : j < 2 ^ 31) : (nI j < 12) ↔ j < 12 := nI_ltI (b := 12) h (by decide)
theorem sw_gt_12 {j : Nat} (h : j < 2 ^ 31) : (12 < nI j) ↔ 12 < j := nI_ltI (a := 12) (by decide) h
theorem sw_le_12 {j : Nat} (h : j < 2 ^ 31) : (nI j ≤ 12) ↔ j ≤ 12 := nI_leI (b := 12) h (by decide)
theorem sw_ge_12 {j : Nat} (h : j < 2 ^ 31) : (12 ≤ nI j) ↔ 12 ≤ j := nI_leI (a := 12) (by decide) h
theorem sw_eq_12 {j : Nat} (h : j < 2 ^ 31) : (nI j = 12) ↔ j = 12 := nI_eq (b := 12) h (by decide)
theorem sw_lt_13 {j : Nat} (h : j < 2 ^ 31) : (nI j < 13) ↔ j < 13 := nI_ltI (b := 13) h (by decide)
theorem sw_gt_13 {j : Nat} (h : j < 2 ^ 31) : (13 < nI j) ↔ 13 < j := nI_ltI (a := 13) (by decide) h
theorem sw_le_13 {j : Nat} (h : j < 2 ^ 31) : (nI j ≤ 13) ↔ j ≤ 13 := nI_leI (b := 13) h (by decide)
theorem sw_ge_13 {j : Nat} (h : j < 2 ^ 31) : (13 ≤ nI j) ↔ 13 ≤ j := nI_leI (a := 13) (by decide) h
theorem sw_eq_13 {j : Nat} (h : j < 2 ^ 31) : (nI j = 13) ↔ j = 13 := nI_eq (b := 13) h (by decide)
theorem sw_lt_15 {j : Nat} (h : j < 2 ^ 31) : (nI j < 15) ↔ j < 15 := nI_ltI (b := 15) h (by decide)
theorem sw_gt_15 {j : Nat} (h : j < 2 ^ 31) : (15 < nI j) ↔ 15 < j := nI_ltI (a := 15) (by decide) h
theorem sw_le_15 {j : Nat} (h : j < 2 ^ 31) : (nI j ≤ 15) ↔ j ≤ 15 := nI_leI (b := 15) h (by decide)
theorem sw_ge_15 {j : Nat} (h : j < 2 ^ 31) : (15 ≤ nI j) ↔ 15 ≤ j := nI_leI (a := 15) (by decide) h
theorem sw_eq_15 {j : Nat} (h : j < 2 ^ 31) : (nI j = 15) ↔ j = 15 := nI_eq (b := 15) h (by decide)
theorem sw_lt_16 {j : Nat} (h : j < 2 ^ 31) : (nI j < 16) ↔ j < 16 := nI_ltI (b := 16) h (by decide)
theorem sw_gt_16 {j : Nat} (h : j < 2 ^ 31) : (16 < nI j) ↔ 16 < j := nI_ltI (a := 16) (by decide) h
theorem sw_le_16 {j : Nat} (h : j < 2 ^ 31) : (nI j ≤ 16) ↔ j ≤ 16 := nI_leI (b := 16) h (by decide)
theorem sw_ge_16 {j : Nat} (h : j < 2 ^ 31) : (16 ≤ nI j) ↔ 16 ≤ j := nI_leI (a := 16) (by decide) h
theorem sw_eq_16 {j : Nat} (h : j < 2 ^ 31) : (nI j = 16) ↔ j = 16 := nI_eq (b := 16) h (by decide)
theorem sw_lt_20 {j : Nat} (h : j < 2 ^ 31) : (nI j < 20) ↔ j < 20 := nI_ltI (b := 20) h (by decide)
theorem sw_gt_20 {j : Nat} (h : j < 2 ^ 31) : (20 < nI j) ↔ 20 < j := nI_ltI (a := 20) (by decide) h
theorem sw_le_20 {j : Nat} (h : j < 2 ^ 31) : (nI j ≤ 20) ↔ j ≤ 20 := nI_leI (b := 20) h (by decide)
theorem sw_ge_20 {j : Nat} (h : j < 2 ^ 31) : (20 ≤ nI j) ↔ 20 ≤ j := nI_leI (a := 20) (by decide) h
theorem sw_eq_20 {j : Nat} (h : j < 2 ^ 31) : (nI j = 20) ↔ j = 20 := nI_eq (b := 20) h (by decide)
theorem sw_lt_24 {j : Nat} (h : j < 2 ^ 31) : (nI j < 24) ↔ j < 24 := nI_ltI (b := 24) h (by decide)
theorem sw_gt_24 {j : Nat} (h : j < 2 ^ 31) : (24 < nI j) ↔ 24 < j := nI_ltI (a := 24) (by decide) h
theorem sw_le_24 {j : Nat} (h : j < 2 ^ 31) : (nI j ≤ 24) ↔ j ≤ 24 := nI_leI (b := 24) h (by decide)
theorem sw_ge_24 {j : Nat} (h : j < 2 ^ 31) : (24 ≤ nI j) ↔ 24 ≤ j := nI_leI (a := 24) (by decide) h
theorem sw_eq_24 {j : Nat} (h : j < 2 ^ 31) : (nI j = 24) ↔ j = 24 := nI_eq (b := 24) h (by decide)
theorem sw_lt_26 {j : Nat} (h : j < 2 ^ 31) : (nI j < 26) ↔ j < 26 := nI_ltI (b := 26) h (by decide)
theorem sw_gt_26 {j : Nat} (h : j < 2 ^ 31) : (26 < nI j) ↔ 26 < j := nI_ltI (a := 26) (by decide) h
theorem sw_le_26 {j : Nat} (h : j < 2 ^ 31) : (nI j ≤ 26) ↔ j ≤ 26 := nI_leI (b := 26) h (by decide)
theorem sw_ge_26 {j : Nat} (h : j < 2 ^ 31) : (26 ≤ nI j) ↔ 26 ≤ j := nI_leI (a := 26) (by decide) h
theorem sw_eq_26 {j : Nat} (h : j < 2 ^ 31) : (nI j = 26) ↔ j = 26 := nI_eq (b := 26) h (by decide)
theorem sw_lt_27 {j : Nat} (h : j < 2 ^ 31) : (nI j < 27) ↔ j < 27 := nI_ltI (b := 27) h (by decide)
theorem sw_gt_27 {j : Nat} (h : j < 2 ^ 31) : (27 < nI j) ↔ 27 < j := nI_ltI (a := 27) (by decide) h
theorem sw_le_27 {j : Nat} (h : j < 2 ^ 31) : (nI j ≤ 27) ↔ j ≤ 27 := nI_leI (b := 27) h (by decide)
theorem sw_ge_27 {j : Nat} (h : j < 2 ^ 31) : (27 ≤ nI j) ↔ 27 ≤ j := nI_leI (a := 27) (by decide) h
theorem sw_eq_27 {j : Nat} (h : j < 2 ^ 31) : (nI j = 27) ↔ j = 27 := nI_eq (b := 27) h (by decide)
theorem sw_lt_30 {j : Nat} (h : j < 2 ^ 31) : (nI j < 30) ↔ j < 30 := nI_ltI (b := 30) h (by decide)
theorem sw_gt_30 {j : Nat} (h : j < 2 ^ 31) : (30 < nI j) ↔ 30 < j := nI_ltI (a := 30) (by decide) h
theorem sw_le_30 {j : Nat} (h : j < 2 ^ 31) : (nI j ≤ 30) ↔ j ≤ 30 := nI_leI (b := 30) h (by decide)
theorem sw_ge_30 {j : Nat} (h : j < 2 ^ 31) : (30 ≤ nI j) ↔ 30 ≤ j := nI_leI (a := 30) (by decide) h
theorem sw_eq_30 {j : Nat} (h : j < 2 ^ 31) : (nI j = 30) ↔ j = 30 := nI_eq (b := 30) h (by decide)
theorem sw_lt_31 {j : Nat} (h : j < 2 ^ 31) : (nI j < 31) ↔ j < 31 := nI_ltI (b := 31) h (by decide)
theorem sw_gt_31 {j : Nat} (h : j < 2 ^ 31) : (31 < nI j) ↔ 31 < j := nI_ltI (a := 31) (by decide) h
theorem sw_le_31 {j : Nat} (h : j < 2 ^ 31) : (nI j ≤ 31) ↔ j ≤ 31 := nI_leI (b := 31) h (by decide)
theorem sw_ge_31 {j : Nat} (h : j < 2 ^ 31) : (31 ≤ nI j) ↔ 31 ≤ j := nI_leI (a := 31) (by decide) h
theorem sw_eq_31 {j : Nat} (h : j < 2 ^ 31) : (nI j = 31) ↔ j = 31 := nI_eq (b := 31) h (by decide)
theorem sw_lt_32 {j : Nat} (h : j < 2 ^ 31) : (nI j < 32) ↔ j < 32 := nI_ltI (b := 32) h (by decide)
theorem sw_gt_32 {j : Nat} (h : j < 2 ^ 31) : (32 < nI j) ↔ 32 < j := nI_ltI (a := 32) (by decide) h
theorem sw_le_32 {j : Nat} (h : j < 2 ^ 31) : (nI j ≤ 32) ↔ j ≤ 32 := nI_leI (b := 32) h (by decide)
theorem sw_ge_32 {j : Nat} (h : j < 2 ^ 31) : (32 ≤ nI j) ↔ 32 ≤ j := nI_leI (a := 32) (by decide) h
theorem sw_eq_32 {j : Nat} (h : j < 2 ^ 31) : (nI j = 32) ↔ j = 32 := nI_eq (b := 32) h (by decide)
theorem sw_lt_39 {j : Nat} (h : j < 2 ^ 31) : (nI j < 39) ↔ j < 39 := nI_ltI (b := 39) h (by decide)
theorem sw_gt_39 {j : Nat} (h : j < 2 ^ 31) : (39 < nI j) ↔ 39 < j := nI_ltI (a := 39) (by decide) h
theorem sw_le_39 {j : Nat} (h : j < 2 ^ 31) : (nI j ≤ 39) ↔ j ≤ 39 := nI_leI (b := 39) h (by decide)
theorem sw_ge_39 {j : Nat} (h : j < 2 ^ 31) : (39 ≤ nI j) ↔ 39 ≤ j := nI_leI (a := 39) (by decide) h
theorem sw_eq_39 {j : Nat} (h : j < 2 ^ 31) : (nI j = 39) ↔ j = 39 := nI_eq (b := 39) h (by decide)
theorem sw_lt_40 {j : Nat} (h : j < 2 ^ 31) : (nI j < 40) ↔ j < 40 := nI_ltI (b := 40) h (by decide)
theorem sw_gt_40 {j : Nat} (h : j < 2 ^ 31) : (40 < nI j) ↔ 40 < j := nI_ltI (a := 40) (by decide) h
theorem sw_le_40 {j : Nat} (h : j < 2 ^ 31) : (nI j ≤ 40) ↔ j ≤ 40 := nI_leI (b := 40) h (by decide)
theorem sw_ge_40 {j : Nat} (h : j < 2 ^ 31) : (40 ≤ nI j) ↔ 40 ≤ j := nI_leI (a := 40) (by decide) h
theorem sw_eq_40 {j : Nat} (h : j < 2 ^ 31) : (nI j = 40) ↔ j = 40 := nI_eq (b := 40) h (by decide)
theorem sw_lt_96 {j : Nat} (h : j < 2 ^ 31) : (nI j < 96) ↔ j < 96 := nI_ltI (b := 96) h (by decide)
theorem sw_gt_96 {j : Nat} (h : j < 2 ^ 31) : (96 < nI j) ↔ 96 < j := nI_ltI (a := 96) (by decide) h
theorem sw_le_96 {j : Nat} (h : j < 2 ^ 31) : (nI j ≤ 96) ↔ j ≤ 96 := nI_leI (b := 96) h (by decide)
theorem sw_ge_96 {j : Nat} (h : j < 2 ^ 31) : (96 ≤ nI j) ↔ 96 ≤ j := nI_leI (a := 96) (by decide) h
theorem sw_eq_96 {j : Nat} (h : j < 2 ^ 31) : (nI j = 96) ↔ j = 96 := nI_eq (b := 96) h (by decide)
theorem sw_lt_97 {j : Nat} (h : j < 2 ^ 31) : (nI j < 97) ↔ j < 97 := nI_ltI (b := 97) h (by decide)
theorem sw_gt_97 {j : Nat} (h : j < 2 ^ 31) : (97 < nI j) ↔ 97 < j := nI_ltI (a := 97) (by decide) h
theorem sw_le_97 {j : Nat} (h : j < 2 ^ 31) : (nI j ≤ 97) ↔ j ≤ 97 := nI_leI (b := 97) h (by decide)
theorem sw_ge_97 {j : Nat} (h : j < 2 ^ 31) : (97 ≤ nI j) ↔ 97 ≤ j := nI_leI (a := 97) (by decide) h
theorem sw_eq_97 {j : Nat} (h : j < 2 ^ 31) : (nI j = 97) ↔ j = 97 := nI_eq (b := 97) h (by decide)
theorem sw_lt_122 {j : Nat} (h : j < 2 ^ 31) : (nI j < 122) ↔ j < 122 := nI_ltI (b := 122) h (by decide)
theorem sw_gt_122 {j : Nat} (h : j < 2 ^ 31) : (122 < nI j) ↔ 122 < j := nI_ltI (a := 122) (by decide) h
theorem sw_le_122 {j : Nat} (h : j < 2 ^ 31) : (nI j ≤ 122) ↔ j ≤ 122 := nI_leI (b := 122) h (by decide)
theorem sw_ge_122 {j : Nat} (h : j < 2 ^ 31) : (122 ≤ nI j) ↔ 122 ≤ j := nI_leI (a := 122) (by decide) h
theorem sw_eq_122 {j : Nat} (h : j < 2 ^ 31) : (nI j = 122) ↔ j = 122 := nI_eq (b := 122) h (by decide)
theorem sw_lt_729 {j : Nat} (h : j < 2 ^ 31) : (nI j < 729) ↔ j < 729 := nI_ltI (b := 729) h (by decide)
theorem sw_gt_729 {j : Nat} (h : j < 2 ^ 31) : (729 < nI j) ↔ 729 < j := nI_ltI (a := 729) (by decide) h
theorem sw_le_729 {j : Nat} (h : j < 2 ^ 31) : (nI j ≤ 729) ↔ j ≤ 729 := nI_leI (b := 729) h (by decide)
theorem sw_ge_729 {j : Nat} (h : j < 2 ^ 31) : (729 ≤ nI j) ↔ 729 ≤ j := nI_leI (a := 729) (by decide) h
theorem sw_eq_729 {j : Nat} (h : j < 2 ^ 31) : (nI j = 729) ↔ j = 729 := nI_eq (b := 729) h (by decide)
theorem sw_lt_1023 {j : Nat} (h : j < 2 ^ 31) : (nI j < 1023) ↔ j < 1023 := nI_ltI (b := 1023) h (by decide)
theorem sw_gt_1023 {j : Nat} (h : j < 2 ^ 31) : (1023 < nI j) ↔ 1023 < j := nI_ltI (a := 1023) (by decide) h
theorem sw_le_1023 {j : Nat} (h : j < 2 ^ 31) : (nI j ≤ 1023) ↔ j ≤ 1023 := nI_leI (b := 1023) h (by decide)
theorem sw_ge_1023 {j : Nat} (h : j < 2 ^ 31) : (1023 ≤ nI j) ↔ 1023 ≤ j := nI_leI (a := 1023) (by decide) h
theorem sw_eq_1023 {j : Nat} (h : j < 2 ^ 31) : (nI j = 1023) ↔ j = 1023 := nI_eq (b := 1023) h (by decide)
theorem sw_lt_1024 {j : Nat} (h : j < 2 ^ 31) : (nI j < 1024) ↔ j < 1024 := nI_ltI (b := 1024) h (by decide)
theorem sw_gt_1024 {j : Nat} (h : j < 2 ^ 31) : (1024 < nI j) ↔ 1024 < j := nI_ltI (a := 1024) (by decide) h
theorem sw_le_1024 {j : Nat} (h : j < 2 ^ 31) : (nI j ≤ 1024) ↔ j ≤ 1024 := nI_leI (b := 1024) h (by decide)
theorem sw_ge_1024 {j : Nat} (h : j < 2 ^ 31) : (1024 ≤ nI j) ↔ 1024 ≤ j := nI_leI (a := 1024) (by decide) h
theorem sw_eq_1024 {j : Nat} (h : j < 2 ^ 31) : (nI j = 1024) ↔ j = 1024 := nI_eq (b := 1024) h (by decide)
theorem sw_lt_2047 {j : Nat} (h : j < 2 ^ 31) : (nI j < 2047) ↔ j < 2047 := nI_ltI (b := 2047) h (by decide)
theorem sw_gt_2047 {j : Nat} (h : j < 2 ^ 31) : (2047 < nI j) ↔ 2047 < j := nI_ltI (a := 2047) (by decide) h
theorem sw_le_2047 {j : Nat} (h : j < 2 ^ 31) : (nI j ≤ 2047) ↔ j ≤ 2047 := nI_leI (b := 2047) h (by decide)
theorem sw_ge_2047 {j : Nat} (h : j < 2 ^ 31) : (2047 ≤ nI j) ↔ 2047 ≤ j := nI_leI (a := 2047) (by decide) h
theorem sw_eq_2047 {j : Nat} (h : j < 2 ^ 31) : (nI j = 2047) ↔ j = 2047 := nI_eq (b := 2047) h (by decide)
theorem sw_lt_19683 {j : Nat} (h : j < 2 ^ 31) : (nI j < 19683) ↔ j < 19683 := nI_ltI (b := 19683) h (by decide)
theorem sw_gt_19683 {j : Nat} (h : j < 2 ^ 31) : (19683 < nI j) ↔ 19683 < j := nI_ltI (a := 19683) (by decide) h
theorem sw_le_19683 {j : Nat} (h : j < 2 ^ 31) : (nI j ≤ 19683) ↔ j ≤ 19683 := nI_leI (b := 19683) h (by decide)
theorem sw_ge_19683 {j : Nat} (h : j < 2 ^ 31) : (19683 ≤ nI j) ↔ 19683 ≤ j := nI_leI (a := 19683) (by decide) h
theorem sw_eq_19683 {j : Nat} (h : j < 2 ^ 31) : (nI j = 19683) ↔ j = 19683 := nI_eq (b := 19683) h (by decide)
theorem sw_lt_531440 {j : Nat} (h : j < 2 ^ 31) : (nI j < 531440) ↔ j < 531440 := nI_ltI (b := 531440) h (by decide)
theorem sw_gt_531440 {j : Nat} (h : j < 2 ^ 31) : (531440 < nI j) ↔ 531440 < j := nI_ltI (a := 531440) (by decide) h
theorem sw_le_531440 {j : Nat} (h : j < 2 ^ 31) : (nI j ≤ 531440) ↔ j ≤ 531440 := nI_leI (b := 531440) h (by decide)
theorem sw_ge_531440 {j : Nat} (h : j < 2 ^ 31) : (531440 ≤ nI j) ↔ 531440 ≤ j := nI_leI (a := 531440) (by decide) h
theorem sw_eq_531440 {j : Nat} (h : j < 2 ^ 31) : (nI j = 531440) ↔ j = 531440 := nI_eq (b := 531440) h (by decide)
end
section
/-! ranges, and the small methods of both sides -/
def sw_I (n : Nat) (x : Int32) : Prop := ∃ j : Nat, j < n ∧ x = nI j
def sw_R (n : Nat) (a : Nat → Int32) : Prop := ∀ j, sw_I n (a j)
def sw_n (a : Nat → Int32) : Nat → Nat := fun j => (a j).toNatClampNeg
def sw_b (b : Bool) : Int32 := if b = true then 1 else 0
theorem sw_R_n {n : Nat} {a : Nat → Int32} (h : sw_R n a) (hn : n ≤ 2 ^ 31) (j : Nat) : a j = nI (sw_n a j) ∧ sw_n a j < n := by
  obtain ⟨m, hm, e⟩ := h j
  unfold sw_n
  rw [e, nI_clamp (by omega)]
  exact ⟨rfl, hm⟩
theorem sw_R_u {n m : Nat} {a : Nat → Int32} (h : sw_R n a) (i : Nat) (hm : m < n) : sw_R n (upd a i (nI m)) := by
  intro j
  by_cases e : j = i
  · subst e
    rw [pk_us]
    exact ⟨m, hm, rfl⟩
  · rw [pk_un e]
    exact h j
theorem sw_R_0 {n : Nat} (h : 0 < n) : sw_R n (fun _ => 0) := fun _ => ⟨0, h, rfl⟩
theorem sw_nb0 : narrow .boolean (.int (0 : Int32)) = .int 0 := rfl
theorem sw_nb1 : narrow .boolean (.int (1 : Int32)) = .int 1 := rfl
theorem sw_nbb (b : Bool) : narrow .boolean (.int (sw_b b)) = .int (sw_b b) := by cases b <;> rfl
theorem sw_n10 : ¬ (1 : Int32) = 0 := by decide
theorem sw_b0 (b : Bool) : sw_b b = 0 ↔ b = false := by cases b <;> decide
/-- a range from 0, by its own end -/
theorem sw_xr {post : Int32 → Prop} {x c : Int32} {n : Nat} (hc : c = nI n) (hn : n < 2 ^ 31) : ((x < 0 → post 0) ∧ (¬ x < 0 → ((c ≤ x → post 0) ∧ (¬ c ≤ x → post 1)))) ↔ ((sw_I n x → post 1) ∧ (¬ sw_I n x → post 0)) := by
  subst hc
  rcases pk_ix x hn with h | h | ⟨j, hj, rfl⟩
  · have hI : ¬ sw_I n x := by
      rintro ⟨j, hj, rfl⟩
      exact nI_pos (by omega) h
    exact ⟨fun H => ⟨fun z => absurd z hI, fun _ => H.1 h⟩, fun H => ⟨fun _ => H.2 hI, fun z => absurd h z⟩⟩
  · have hI : ¬ sw_I n x := by
      rintro ⟨j, hj, rfl⟩
      exact nI_ge hj hn h
    have h0 : ¬ x < 0 := Int32.not_lt.mpr (Int32.le_trans (nI_pos' hn) h)
    exact ⟨fun H => ⟨fun z => absurd z hI, fun _ => (H.2 h0).1 h⟩, fun H => ⟨fun z => absurd z h0, fun _ => ⟨fun _ => H.2 hI, fun z => absurd h z⟩⟩⟩
  · have hI : sw_I n (nI j) := ⟨j, hj, rfl⟩
    have h0 : ¬ nI j < 0 := nI_pos (by omega)
    have h1 : ¬ nI n ≤ nI j := nI_ge hj hn
    exact ⟨fun H => ⟨fun _ => (H.2 h0).2 h1, fun z => absurd hI z⟩, fun H => ⟨fun z => absurd z h0, fun _ => ⟨fun z => absurd z h1, fun _ => H.1 hI⟩⟩⟩
/-- the same range, by its last number -/
theorem sw_yr {post : Int32 → Prop} {x c : Int32} {n : Nat} (hc : c = nI n) (hn : n + 1 < 2 ^ 31) : ((x < 0 → post 0) ∧ (¬ x < 0 → ((c < x → post 0) ∧ (¬ c < x → post 1)))) ↔ ((sw_I (n + 1) x → post 1) ∧ (¬ sw_I (n + 1) x → post 0)) := by
  rw [← sw_xr (x := x) (n := n + 1) rfl hn]
  have e : ¬ x < 0 → ((c < x) ↔ (nI (n + 1) ≤ x)) := by
    intro h
    obtain ⟨j, hj, rfl⟩ := nI_of h
    subst hc
    rw [nI_ltI (by omega) hj, nI_leI hn hj]
    omega
  constructor
  · exact fun H => ⟨H.1, fun h => ⟨fun z => (H.2 h).1 ((e h).mpr z), fun z => (H.2 h).2 (fun y => z ((e h).mp y))⟩⟩
  · exact fun H => ⟨H.1, fun h => ⟨fun z => (H.2 h).1 ((e h).mp z), fun z => (H.2 h).2 (fun y => z ((e h).mpr y))⟩⟩
section
variable {pl wc rc tc sc : Int32} {dk ex tr ps ct wl wm rv rs rn re ty se sy ll : Nat → Int32}
theorem sw_xRoom (post : Int32 → Prop) (x : Int32) : wpX_isRoom post x ↔ ((sw_I 6 x → post 1) ∧ (¬ sw_I 6 x → post 0)) := sw_xr (n := 6) rfl (by decide)
theorem sw_xDir (post : Int32 → Prop) (x : Int32) : wpX_isDirection post x ↔ ((sw_I 4 x → post 1) ∧ (¬ sw_I 4 x → post 0)) := sw_xr (n := 4) rfl (by decide)
theorem sw_xThing (post : Int32 → Prop) (x : Int32) : wpX_isThing post x ↔ ((sw_I 8 x → post 1) ∧ (¬ sw_I 8 x → post 0)) := sw_xr (n := 8) rfl (by decide)
theorem sw_xCtr (post : Int32 → Prop) (x : Int32) : wpX_isCounter post x ↔ ((sw_I 4 x → post 1) ∧ (¬ sw_I 4 x → post 0)) := sw_xr (n := 4) rfl (by decide)
theorem sw_xVerb (post : Int32 → Prop) (x : Int32) : wpX_isVerb post x ↔ ((sw_I 6 x → post 1) ∧ (¬ sw_I 6 x → post 0)) := sw_yr (n := 5) rfl (by decide)
theorem sw_xMD (post : Int32 → Prop) (x : Int32) : wpX_meansDirection post x ↔ ((sw_I 4 (x - 10) → post 1) ∧ (¬ sw_I 4 (x - 10) → post 0)) := by
  unfold wpX_meansDirection
  rw [sw_xDir]
  simp only [sw_nb0, sw_nb1, true_and]
theorem sw_xMT (post : Int32 → Prop) (x : Int32) : wpX_meansThing post x ↔ ((sw_I 8 (x - 20) → post 1) ∧ (¬ sw_I 8 (x - 20) → post 0)) := by
  unfold wpX_meansThing
  rw [sw_xThing]
  simp only [sw_nb0, sw_nb1, true_and]
theorem sw_yin5 (post : Int32 → Prop) (x : Int32) : wpY_in post (pl, rc, wc, tc, sc, dk, ex, tr, ps, ct, rv, rs, rn, re, ll, wm, ty, sy) x 0 5 ↔ ((sw_I 6 x → post 1) ∧ (¬ sw_I 6 x → post 0)) := sw_yr (n := 5) rfl (by decide)
theorem sw_yin3 (post : Int32 → Prop) (x : Int32) : wpY_in post (pl, rc, wc, tc, sc, dk, ex, tr, ps, ct, rv, rs, rn, re, ll, wm, ty, sy) x 0 3 ↔ ((sw_I 4 x → post 1) ∧ (¬ sw_I 4 x → post 0)) := sw_yr (n := 3) rfl (by decide)
theorem sw_yin7 (post : Int32 → Prop) (x : Int32) : wpY_in post (pl, rc, wc, tc, sc, dk, ex, tr, ps, ct, rv, rs, rn, re, ll, wm, ty, sy) x 0 7 ↔ ((sw_I 8 x → post 1) ∧ (¬ sw_I 8 x → post 0)) := sw_yr (n := 7) rfl (by decide)
theorem sw_yin15 (post : Int32 → Prop) (x : Int32) : wpY_in post (pl, rc, wc, tc, sc, dk, ex, tr, ps, ct, rv, rs, rn, re, ll, wm, ty, sy) x 0 15 ↔ ((sw_I 16 x → post 1) ∧ (¬ sw_I 16 x → post 0)) := sw_yr (n := 15) rfl (by decide)
theorem sw_yin39 (post : Int32 → Prop) (x : Int32) : wpY_in post (pl, rc, wc, tc, sc, dk, ex, tr, ps, ct, rv, rs, rn, re, ll, wm, ty, sy) x 0 39 ↔ ((sw_I 40 x → post 1) ∧ (¬ sw_I 40 x → post 0)) := sw_yr (n := 39) rfl (by decide)
theorem sw_yin1023 (post : Int32 → Prop) (x : Int32) : wpY_in post (pl, rc, wc, tc, sc, dk, ex, tr, ps, ct, rv, rs, rn, re, ll, wm, ty, sy) x 0 1023 ↔ ((sw_I 1024 x → post 1) ∧ (¬ sw_I 1024 x → post 0)) := sw_yr (n := 1023) rfl (by decide)
theorem sw_yin2047 (post : Int32 → Prop) (x : Int32) : wpY_in post (pl, rc, wc, tc, sc, dk, ex, tr, ps, ct, rv, rs, rn, re, ll, wm, ty, sy) x 0 2047 ↔ ((sw_I 2048 x → post 1) ∧ (¬ sw_I 2048 x → post 0)) := sw_yr (n := 2047) rfl (by decide)
theorem sw_yThing (post : Int32 → Prop) (x : Int32) : wpY_isThing post (pl, rc, wc, tc, sc, dk, ex, tr, ps, ct, rv, rs, rn, re, ll, wm, ty, sy) x ↔ ((sw_I 8 x → post 1) ∧ (¬ sw_I 8 x → post 0)) := by
  unfold wpY_isThing
  dsimp only
  rw [sw_yin7]
  simp only [sw_nb0, sw_nb1, true_and]
/-- a range that begins higher -/
theorem sw_sub {x : Int32} {n a : Nat} : sw_I n (x - nI a) ↔ ∃ j, j < n ∧ x = nI (a + j) := by
  constructor
  · rintro ⟨j, hj, e⟩
    refine ⟨j, hj, ?_⟩
    have : x - nI a + nI a = nI j + nI a := by rw [e]
    rw [Int32.sub_add_cancel] at this
    rw [this, nI_add, Nat.add_comm]
  · rintro ⟨j, hj, rfl⟩
    refine ⟨j, hj, ?_⟩
    rw [pk_sub (by omega), Nat.add_sub_cancel_left]
theorem sw_yrg {post : Int32 → Prop} {x c d : Int32} {a n : Nat} (hc : c = nI a) (hd : d = nI (a + n)) (ha : a + n + 1 < 2 ^ 31) : ((x < c → post 0) ∧ (¬ x < c → ((d < x → post 0) ∧ (¬ d < x → post 1)))) ↔ ((sw_I (n + 1) (x - c) → post 1) ∧ (¬ sw_I (n + 1) (x - c) → post 0)) := by
  subst hc hd
  rw [sw_sub]
  by_cases hx : x < nI a
  · have hI : ¬ ∃ j, j < n + 1 ∧ x = nI (a + j) := by
      rintro ⟨j, hj, rfl⟩
      rw [nI_ltI (by omega) (by omega)] at hx
      omega
    exact ⟨fun H => ⟨fun z => absurd z hI, fun _ => H.1 hx⟩, fun H => ⟨fun _ => H.2 hI, fun z => absurd hx z⟩⟩
  · have h0 : ¬ x < 0 := fun z => hx (Int32.lt_of_lt_of_le z (nI_pos' (by omega)))
    obtain ⟨m, hm, rfl⟩ := nI_of h0
    rw [nI_ltI (by omega) (by omega)] at hx
    by_cases hd : nI (a + n) < nI m
    · have hI : ¬ ∃ j, j < n + 1 ∧ nI m = nI (a + j) := by
        rintro ⟨j, hj, e⟩
        rw [nI_eq (by omega) (by omega)] at e
        rw [nI_ltI (by omega) (by omega)] at hd
        omega
      have hx' : ¬ nI m < nI a := by rw [nI_ltI (by omega) (by omega)]; exact hx
      exact ⟨fun H => ⟨fun z => absurd z hI, fun _ => (H.2 hx').1 hd⟩, fun H => ⟨fun z => absurd z hx', fun _ => ⟨fun _ => H.2 hI, fun z => absurd hd z⟩⟩⟩
    · have hx' : ¬ nI m < nI a := by rw [nI_ltI (by omega) (by omega)]; exact hx
      have hd' := hd
      rw [nI_ltI (by omega) (by omega)] at hd'
      have hI : ∃ j, j < n + 1 ∧ nI m = nI (a + j) := ⟨m - a, by omega, by rw [show a + (m - a) = m by omega]⟩
      exact ⟨fun H => ⟨fun _ => (H.2 hx').2 hd, fun z => absurd hI z⟩, fun H => ⟨fun z => absurd z hx', fun _ => ⟨fun z => absurd z hd, fun _ => H.1 hI⟩⟩⟩
theorem sw_yin13 (post : Int32 → Prop) (x : Int32) : wpY_in post (pl, rc, wc, tc, sc, dk, ex, tr, ps, ct, rv, rs, rn, re, ll, wm, ty, sy) x 10 13 ↔ ((sw_I 4 (x - 10) → post 1) ∧ (¬ sw_I 4 (x - 10) → post 0)) := sw_yrg (a := 10) (n := 3) rfl rfl (by decide)
theorem sw_yin27 (post : Int32 → Prop) (x : Int32) : wpY_in post (pl, rc, wc, tc, sc, dk, ex, tr, ps, ct, rv, rs, rn, re, ll, wm, ty, sy) x 20 27 ↔ ((sw_I 8 (x - 20) → post 1) ∧ (¬ sw_I 8 (x - 20) → post 0)) := sw_yrg (a := 20) (n := 7) rfl rfl (by decide)
theorem sw_yin122 (post : Int32 → Prop) (x : Int32) : wpY_in post (pl, rc, wc, tc, sc, dk, ex, tr, ps, ct, rv, rs, rn, re, ll, wm, ty, sy) x 97 122 ↔ ((sw_I 26 (x - 97) → post 1) ∧ (¬ sw_I 26 (x - 97) → post 0)) := sw_yrg (a := 97) (n := 25) rfl rfl (by decide)
theorem sw_yinW (post : Int32 → Prop) (x : Int32) : wpY_in post (pl, rc, wc, tc, sc, dk, ex, tr, ps, ct, rv, rs, rn, re, ll, wm, ty, sy) x 1 531440 ↔ ((sw_I 531440 (x - 1) → post 1) ∧ (¬ sw_I 531440 (x - 1) → post 0)) := sw_yrg (a := 1) (n := 531439) rfl rfl (by decide)
/-- a range from -1 -/
theorem sw_yrm {post : Int32 → Prop} {x c : Int32} {n : Nat} (hc : c = nI n) (hn : n + 1 < 2 ^ 31) : ((x < -1 → post 0) ∧ (¬ x < -1 → ((c < x → post 0) ∧ (¬ c < x → post 1)))) ↔ (((x = -1 ∨ sw_I (n + 1) x) → post 1) ∧ (¬ (x = -1 ∨ sw_I (n + 1) x) → post 0)) := by
  by_cases h0 : x < 0
  · have hI : ¬ sw_I (n + 1) x := by
      rintro ⟨j, hj, rfl⟩
      exact nI_pos (by omega) h0
    have hcx : ¬ c < x := by
      intro z
      have : c < 0 := Int32.lt_trans z h0
      subst hc
      exact nI_pos (by omega) this
    by_cases e : x = -1
    · subst e
      exact ⟨fun H => ⟨fun _ => (H.2 (by decide)).2 hcx, fun z => absurd (Or.inl rfl) z⟩, fun H => ⟨fun z => absurd z (by decide), fun _ => ⟨fun z => absurd z hcx, fun _ => H.1 (Or.inl rfl)⟩⟩⟩
    · have h1 : x < -1 := by
        rw [Int32.lt_iff_toInt_lt] at h0 ⊢
        have e2 : x.toInt ≠ (-1 : Int32).toInt := fun z => e (Int32.toInt_inj.mp z)
        have e3 : (-1 : Int32).toInt = -1 := by decide
        have e4 : (0 : Int32).toInt = 0 := by decide
        omega
      have hI2 : ¬ (x = -1 ∨ sw_I (n + 1) x) := fun z => z.elim e hI
      exact ⟨fun H => ⟨fun z => absurd z hI2, fun _ => H.1 h1⟩, fun H => ⟨fun _ => H.2 hI2, fun z => absurd h1 z⟩⟩
  · have h1 : ¬ x < -1 := fun z => h0 (Int32.lt_trans z (by decide))
    have e : ¬ x = -1 := fun z => h0 (by rw [z]; decide)
    have H0 := sw_yr (post := post) (x := x) hc hn
    constructor
    · intro H
      have H1 := H0.mp ⟨fun z => absurd z h0, fun _ => H.2 h1⟩
      exact ⟨fun z => H1.1 (z.elim (fun y => absurd y e) id), fun z => H1.2 (fun y => z (Or.inr y))⟩
    · intro H
      have H1 := H0.mpr ⟨fun z => H.1 (Or.inr z), fun z => H.2 (fun y => y.elim e z)⟩
      exact ⟨fun z => absurd z h1, fun _ => H1.2 h0⟩
theorem sw_yinm5 (post : Int32 → Prop) (x : Int32) : wpY_in post (pl, rc, wc, tc, sc, dk, ex, tr, ps, ct, rv, rs, rn, re, ll, wm, ty, sy) x (-1) 5 ↔ (((x = -1 ∨ sw_I 6 x) → post 1) ∧ (¬ (x = -1 ∨ sw_I 6 x) → post 0)) := sw_yrm (n := 5) rfl (by decide)
theorem sw_yinm3 (post : Int32 → Prop) (x : Int32) : wpY_in post (pl, rc, wc, tc, sc, dk, ex, tr, ps, ct, rv, rs, rn, re, ll, wm, ty, sy) x (-1) 3 ↔ (((x = -1 ∨ sw_I 4 x) → post 1) ∧ (¬ (x = -1 ∨ sw_I 4 x) → post 0)) := sw_yrm (n := 3) rfl (by decide)
theorem sw_yinm7 (post : Int32 → Prop) (x : Int32) : wpY_in post (pl, rc, wc, tc, sc, dk, ex, tr, ps, ct, rv, rs, rn, re, ll, wm, ty, sy) x (-1) 7 ↔ (((x = -1 ∨ sw_I 8 x) → post 1) ∧ (¬ (x = -1 ∨ sw_I 8 x) → post 0)) := sw_yrm (n := 7) rfl (by decide)
end
end
section
/-! within, near, seen, counted: both sides against pure values -/
theorem sw_w_lt {p : Nat → Nat} {t m : Nat} (h : m < 8) (d : Nat) : sw_w p t d m = false := by
  cases d with
  | zero => rfl
  | succ d =>
    show (if m < 8 then false else _) = false
    rw [if_pos h]
theorem sw_w_t {p : Nat → Nat} {t m : Nat} (h : ¬ m < 8) (e : m - 8 = t) (d : Nat) : sw_w p t (d + 1) m = true := by
  show (if m < 8 then false else if m - 8 = t then true else _) = true
  rw [if_neg h, if_pos e]
theorem sw_w_s {p : Nat → Nat} {t m : Nat} (h : ¬ m < 8) (e : ¬ m - 8 = t) (d : Nat) : sw_w p t (d + 1) m = sw_w p t d (p (m - 8)) := by
  show (if m < 8 then false else if m - 8 = t then true else _) = _
  rw [if_neg h, if_neg e]
section
variable {pl wc rc tc sc : Int32} {dk ex tr ps ct wl wm rv rs rn re ty se sy ll : Nat → Int32}
theorem sw_xw5 {post : Int32 → Prop} (hp : sw_R 16 ps) {t : Nat} (ht : t < 8) : ∀ d i m : Nat, i + d = 8 → m < 16 → post (sw_b (sw_w (sw_n ps) t d m)) → wX_isWithin_5 post (nI t) pl wc rc tc sc dk ex tr ps ct wl wm rv rs rn re ty se sy (d + 1) (nI m) (nI i) := by
  intro d
  induction d with
  | zero =>
    intro i m hi hm h
    exact br_t (nI_le (a := 8) (b := i) (by omega) (by omega)) h
  | succ d ih =>
    intro i m hi hm h
    refine br_f (nI_ge (b := 8) (by omega) (by decide)) ?_
    by_cases h8 : m < 8
    · rw [sw_w_lt h8] at h
      exact br_t (nI_lt (b := 8) h8 (by decide)) h
    · refine br_f (nI_nlt (b := 8) (by omega) (by omega)) (nm_r (pk_sub (b := 8) (by omega)) ?_)
      by_cases e : m - 8 = t
      · rw [sw_w_t h8 e] at h
        exact br_t ((nI_eq (by omega) (by omega)).mpr e) h
      · rw [sw_w_s h8 e] at h
        have hr := sw_R_n hp (by decide) (m - 8)
        refine br_f (fun z => e ((nI_eq (by omega) (by omega)).mp z)) ⟨vp_in_nI (by omega) (by decide), nm_r (e' := nI (sw_n ps (m - 8))) (by rw [nI_clamp (by omega)]; exact hr.1) (nm_r (nI_1 i) (ih (i + 1) _ (by omega) hr.2 h))⟩
theorem sw_xw {post : Int32 → Prop} (hp : sw_R 16 ps) {t m : Nat} (ht : t < 8) (hm : m < 16) (h : post (sw_b (sw_w (sw_n ps) t 8 m))) : wpX_isWithin post (pl, wc, rc, tc, sc, dk, ex, tr, ps, ct, wl, wm, rv, rs, rn, re, ty, se, sy) (nI m) (nI t) :=
  ⟨9, sw_xw5 hp ht 8 0 m rfl hm h⟩
theorem sw_yw5 {post : Int32 → Prop} (hp : sw_R 16 ps) {t : Nat} (ht : t < 8) : ∀ d i m : Nat, i + d = 9 → m < 8 → post (sw_b (sw_w (sw_n ps) t d (m + 8))) → wY_isWithin_5 post (nI t) pl rc wc tc sc dk ex tr ps ct rv rs rn re ll wm ty sy (d + 1) (nI m) (nI i) := by
  intro d
  induction d with
  | zero =>
    intro i m hi hm h
    exact br_t (nI_le (a := 9) (b := i) (by omega) (by omega)) h
  | succ d ih =>
    intro i m hi hm h
    refine br_f (nI_ge (b := 9) (by omega) (by decide)) ?_
    by_cases e : m = t
    · rw [sw_w_t (by omega) (by omega)] at h
      exact br_t ((nI_eq (by omega) (by omega)).mpr e) h
    · rw [sw_w_s (by omega) (by omega), Nat.add_sub_cancel] at h
      have hr := sw_R_n hp (by decide) m
      have hc : ps (nI m).toNatClampNeg = nI (sw_n ps m) := by rw [nI_clamp (by omega)]; exact hr.1
      refine br_f (fun z => e ((nI_eq (by omega) (by omega)).mp z)) ⟨vp_in_nI (by omega) (by decide), ?_⟩
      rw [hc]
      by_cases h8 : sw_n ps m < 8
      · rw [sw_w_lt h8] at h
        exact br_f (nI_ge (b := 8) h8 (by decide)) h
      · refine br_t (nI_le (a := 8) (by omega) (by omega)) ⟨vp_in_nI (by omega) (by decide), nm_r (pk_sub (b := 8) (by omega)) (nm_r (nI_1 i) (ih (i + 1) _ (by omega) (by omega) ?_))⟩
        rw [show sw_n ps m - 8 + 8 = sw_n ps m by omega]
        exact h
theorem sw_n_lt {n : Nat} {a : Nat → Int32} (h : sw_R n a) (hn : n ≤ 2 ^ 31) : ∀ j, sw_n a j < n := fun j => (sw_R_n h hn j).2
theorem sw_yw {post : Int32 → Prop} (hp : sw_R 16 ps) {t m : Nat} (ht : t < 8) (hm : m < 8) (h : post (sw_b (sw_w (sw_n ps) t 8 (m + 8)))) : wpY_isWithin post (pl, rc, wc, tc, sc, dk, ex, tr, ps, ct, rv, rs, rn, re, ll, wm, ty, sy) (nI m) (nI t) := by
  rw [← sw_98 _ _ _ (sw_n_lt hp (by decide)) (by omega)] at h
  exact ⟨10, sw_yw5 hp ht 9 0 m rfl hm h⟩
theorem sw_ycb {post : Int32 → Prop} (hp : sw_R 16 ps) {t m : Nat} (ht : t < 8) (hm : m < 16) (h : post (sw_b (!(sw_w (sw_n ps) t 8 m)))) : wpY_canBe post (pl, rc, wc, tc, sc, dk, ex, tr, ps, ct, rv, rs, rn, re, ll, wm, ty, sy) (nI t) (nI m) := by
  by_cases h8 : m < 8
  · rw [sw_w_lt h8] at h
    exact br_t (nI_lt (b := 8) h8 (by decide)) h
  · refine br_f (nI_nlt (b := 8) (by omega) (by omega)) ?_
    have e : nI m - 8 = nI (m - 8) := pk_sub (b := 8) (by omega)
    rw [e]
    refine sw_yw hp ht (by omega) ?_
    rw [show m - 8 + 8 = m by omega]
    cases hb : sw_w (sw_n ps) t 8 m
    · rw [hb] at h
      exact br_t rfl h
    · rw [hb] at h
      exact br_f (by decide) h
/-! near -/
theorem sw_nr_lt {p tr : Nat → Int32} {pr : Int32} {m : Nat} (h : m < 8) (d : Nat) : sw_nr p tr pr d m = decide (nI m = pr ∨ m = 6) := by
  cases d with
  | zero => rfl
  | succ d =>
    show (if m < 8 then _ else _) = _
    rw [if_pos h]
theorem sw_nr_s {p tr : Nat → Int32} {pr : Int32} {m : Nat} (h : ¬ m < 8) (e : tr (m - 8) &&& 6 = 6) (d : Nat) : sw_nr p tr pr (d + 1) m = sw_nr p tr pr d (sw_n p (m - 8)) := by
  show (if m < 8 then _ else if tr (m - 8) &&& 6 = 6 then _ else false) = _
  rw [if_neg h, if_pos e]
  rfl
theorem sw_nr_f {p tr : Nat → Int32} {pr : Int32} {m : Nat} (h : ¬ m < 8) (e : ¬ tr (m - 8) &&& 6 = 6) (d : Nat) : sw_nr p tr pr (d + 1) m = false := by
  show (if m < 8 then _ else if tr (m - 8) &&& 6 = 6 then _ else false) = _
  rw [if_neg h, if_neg e]
theorem sw_x58 {post : Int32 → Prop} {m : Nat} (hm : m < 16) (h : post (sw_b (decide (nI m = pl ∨ m = 6)))) : wX_isNear_58 post (nI m) pl wc rc tc sc dk ex tr ps ct wl wm rv rs rn re ty se sy := by
  by_cases e : nI m = pl
  · rw [decide_eq_true (Or.inl e)] at h
    exact br_t e h
  · by_cases e6 : m = 6
    · rw [decide_eq_true (Or.inr e6)] at h
      exact br_f e (br_t ((nI_eq (b := 6) (by omega) (by decide)).mpr e6) h)
    · rw [decide_eq_false (fun z => z.elim e e6)] at h
      exact br_f e (br_f (fun z => e6 ((nI_eq (b := 6) (by omega) (by decide)).mp z)) h)
theorem sw_xn9 {post : Int32 → Prop} (hp : sw_R 16 ps) : ∀ d i m : Nat, i + d = 8 → m < 16 → post (sw_b (sw_nr ps tr pl d m)) → wX_isNear_9 post pl wc rc tc sc dk ex tr ps ct wl wm rv rs rn re ty se sy (d + 1) (nI m) (nI i) := by
  intro d
  induction d with
  | zero =>
    intro i m hi hm h
    exact br_t (nI_le (a := 8) (b := i) (by omega) (by omega)) (sw_x58 hm h)
  | succ d ih =>
    intro i m hi hm h
    refine br_f (nI_ge (b := 8) (by omega) (by decide)) ?_
    by_cases h8 : m < 8
    · rw [sw_nr_lt h8] at h
      exact br_t (nI_lt (b := 8) h8 (by decide)) (sw_x58 hm h)
    · refine br_f (nI_nlt (b := 8) (by omega) (by omega)) (nm_r (pk_sub (b := 8) (by omega)) ⟨vp_in_nI (by omega) (by decide), ?_⟩)
      rw [nI_clamp (by omega)]
      by_cases e : tr (m - 8) &&& 6 = 6
      · rw [sw_nr_s h8 e] at h
        have hr := sw_R_n hp (by decide) (m - 8)
        exact br_t e ⟨vp_in_nI (by omega) (by decide), nm_r hr.1 (nm_r (nI_1 i) (ih (i + 1) _ (by omega) hr.2 h))⟩
      · rw [sw_nr_f h8 e] at h
        exact br_f e h
theorem sw_xn {post : Int32 → Prop} (hp : sw_R 16 ps) {j : Nat} (hj : j < 8) (h : post (sw_b (sw_nr ps tr pl 8 (sw_n ps j)))) : wpX_isNear post (pl, wc, rc, tc, sc, dk, ex, tr, ps, ct, wl, wm, rv, rs, rn, re, ty, se, sy) (nI j) := by
  have hr := sw_R_n hp (by decide) j
  refine ⟨vp_in_nI hj (by decide), nm_r (e' := nI (sw_n ps j)) (by rw [nI_clamp (by omega)]; exact hr.1) ⟨9, sw_xn9 hp 8 0 _ rfl hr.2 h⟩⟩
theorem sw_yn4 {post : Int32 → Prop} (hp : sw_R 16 ps) (hl : sw_I 6 pl) : ∀ d i j : Nat, i + d = 8 → j < 8 → post (sw_b (sw_nr ps tr pl d (sw_n ps j))) → wY_isNear_4 post pl rc wc tc sc dk ex tr ps ct rv rs rn re ll wm ty sy (d + 2) (nI j) (nI i) := by
  intro d
  induction d with
  | zero =>
    intro i j hi hj h
    have hr := sw_R_n hp (by decide) j
    have hc : ps (nI j).toNatClampNeg = nI (sw_n ps j) := by rw [nI_clamp (by omega)]; exact hr.1
    have hv : vp_in (nI j) 8 := vp_in_nI hj (by decide)
    have h' : post (sw_b (decide (nI (sw_n ps j) = pl ∨ sw_n ps j = 6))) := h
    refine br_f (nI_ge (b := 9) (by omega) (by decide)) ⟨hv, ?_⟩
    rw [hc]
    by_cases e : nI (sw_n ps j) = pl
    · rw [decide_eq_true (Or.inl e)] at h'
      exact br_t e h'
    · refine br_f e ⟨hv, ?_⟩
      by_cases e6 : sw_n ps j = 6
      · rw [decide_eq_true (Or.inr e6)] at h'
        exact br_t ((nI_eq (b := 6) (by omega) (by decide)).mpr e6) h'
      · rw [decide_eq_false (fun z => z.elim e e6)] at h'
        refine br_f (fun z => e6 ((nI_eq (b := 6) (by omega) (by decide)).mp z)) ⟨hv, ?_⟩
        by_cases h8 : sw_n ps j < 8
        · exact br_f (nI_ge (b := 8) h8 (by decide)) h'
        · refine br_t (nI_le (a := 8) (by omega) (by omega)) ⟨hv, nm_r (pk_sub (b := 8) (by omega)) ⟨vp_in_nI (by omega) (by decide), br_c (fun _ => nm_r (nI_1 i) (br_t (nI_le (a := 9) (by omega) (by omega)) h')) (fun _ => h')⟩⟩
  | succ d ih =>
    intro i j hi hj h
    have hr := sw_R_n hp (by decide) j
    have hc : ps (nI j).toNatClampNeg = nI (sw_n ps j) := by rw [nI_clamp (by omega)]; exact hr.1
    have hv : vp_in (nI j) 8 := vp_in_nI hj (by decide)
    have hpl : nI (sw_n ps j) = pl → sw_n ps j < 8 := by
      obtain ⟨q, hq, rfl⟩ := hl
      intro z
      rw [nI_eq (by omega) (by omega)] at z
      omega
    refine br_f (nI_ge (b := 9) (by omega) (by decide)) ⟨hv, ?_⟩
    rw [hc]
    by_cases e : nI (sw_n ps j) = pl
    · rw [sw_nr_lt (hpl e), decide_eq_true (Or.inl e)] at h
      exact br_t e h
    · refine br_f e ⟨hv, ?_⟩
      by_cases e6 : sw_n ps j = 6
      · rw [sw_nr_lt (by omega), decide_eq_true (Or.inr e6)] at h
        exact br_t ((nI_eq (b := 6) (by omega) (by decide)).mpr e6) h
      · refine br_f (fun z => e6 ((nI_eq (b := 6) (by omega) (by decide)).mp z)) ⟨hv, ?_⟩
        by_cases h8 : sw_n ps j < 8
        · rw [sw_nr_lt h8, decide_eq_false (fun z => z.elim e e6)] at h
          exact br_f (nI_ge (b := 8) h8 (by decide)) h
        · refine br_t (nI_le (a := 8) (by omega) (by omega)) ⟨hv, nm_r (pk_sub (b := 8) (by omega)) ⟨vp_in_nI (by omega) (by decide), ?_⟩⟩
          rw [nI_clamp (by omega)]
          by_cases e2 : tr (sw_n ps j - 8) &&& 6 = 6
          · rw [sw_nr_s h8 e2] at h
            exact br_t e2 (nm_r (nI_1 i) (ih (i + 1) _ (by omega) (by omega) h))
          · rw [sw_nr_f h8 e2] at h
            exact br_f e2 h
theorem sw_yn {post : Int32 → Prop} (hp : sw_R 16 ps) (hl : sw_I 6 pl) {j : Nat} (hj : j < 8) (h : post (sw_b (sw_nr ps tr pl 8 (sw_n ps j)))) : wpY_isNear post (pl, rc, wc, tc, sc, dk, ex, tr, ps, ct, rv, rs, rn, re, ll, wm, ty, sy) (nI j) :=
  ⟨10, sw_yn4 hp hl 8 0 j rfl hj h⟩
/-! seen -/
def sw_lp (ps tr : Nat → Int32) (pl : Int32) : Nat → Nat → Bool
  | 0, _ => false
  | d + 1, j => if tr j &&& 8 = 0 then sw_lp ps tr pl d (j + 1) else if sw_nr ps tr pl 8 (sw_n ps j) = true then true else sw_lp ps tr pl d (j + 1)
def sw_see (ps tr dk : Nat → Int32) (pl : Int32) (j : Nat) : Bool := if sw_nr ps tr pl 8 (sw_n ps j) = true then (if dk pl.toNatClampNeg = 0 then true else sw_lp ps tr pl 8 0) else false
theorem sw_xht {post : Int32 → Prop} {j : Nat} (hj : j < 8) (q : Int32) (h : post (sw_b (decide (¬ tr j &&& q = 0)))) : wpX_hasTrait post (pl, wc, rc, tc, sc, dk, ex, tr, ps, ct, wl, wm, rv, rs, rn, re, ty, se, sy) (nI j) q := by
  refine ⟨vp_in_nI hj (by decide), ?_⟩
  rw [nI_clamp (by omega)]
  by_cases e : tr j &&& q = 0
  · rw [decide_eq_false (fun z => z e)] at h
    exact br_t e h
  · rw [decide_eq_true e] at h
    exact br_f e h
theorem sw_xlp {post : Int32 → Prop} (hp : sw_R 16 ps) : ∀ d j : Nat, j + d = 8 → post (sw_b (sw_lp ps tr pl d j)) → wX_canSee_26 post pl wc rc tc sc dk ex tr ps ct wl wm rv rs rn re ty se sy (d + 1) (nI j) := by
  intro d
  induction d with
  | zero =>
    intro j hj h
    exact br_t (nI_le (a := 8) (by omega) (by omega)) h
  | succ d ih =>
    intro j hj h
    have h' : post (sw_b (if tr j &&& 8 = 0 then sw_lp ps tr pl d (j + 1) else if sw_nr ps tr pl 8 (sw_n ps j) = true then true else sw_lp ps tr pl d (j + 1))) := h
    refine br_f (nI_ge (b := 8) (by omega) (by decide)) (sw_xht (by omega) 8 ?_)
    by_cases e : tr j &&& 8 = 0
    · rw [if_pos e] at h'
      rw [decide_eq_false (fun z => z e)]
      exact br_t rfl (nm_r (nI_1 j) (ih (j + 1) (by omega) h'))
    · rw [if_neg e] at h'
      rw [decide_eq_true e]
      refine br_f (by decide) (sw_xn hp (by omega) ?_)
      cases hb : sw_nr ps tr pl 8 (sw_n ps j)
      · rw [hb] at h'
        exact br_t rfl (nm_r (nI_1 j) (ih (j + 1) (by omega) h'))
      · rw [hb] at h'
        exact br_f (by decide) h'
theorem sw_xsee {post : Int32 → Prop} (hp : sw_R 16 ps) (hl : sw_I 6 pl) {j : Nat} (hj : j < 8) (h : post (sw_b (sw_see ps tr dk pl j))) : wpX_canSee post (pl, wc, rc, tc, sc, dk, ex, tr, ps, ct, wl, wm, rv, rs, rn, re, ty, se, sy) (nI j) := by
  unfold sw_see at h
  refine sw_xn hp hj ?_
  cases hb : sw_nr ps tr pl 8 (sw_n ps j)
  · rw [hb] at h
    exact br_t rfl h
  · rw [hb, if_pos rfl] at h
    obtain ⟨q, hq, rfl⟩ := hl
    refine br_f (by decide) ⟨vp_in_nI hq (by decide), ?_⟩
    by_cases e : dk (nI q).toNatClampNeg = 0
    · rw [if_pos e] at h
      exact br_t e h
    · rw [if_neg e] at h
      exact br_f e ⟨9, sw_xlp hp 8 0 rfl h⟩
theorem sw_ylp {post : Int32 → Prop} (hp : sw_R 16 ps) (hl : sw_I 6 pl) : ∀ d j : Nat, j + d = 8 → post (sw_b (sw_lp ps tr pl d j)) → wY_visible_34 post pl rc wc tc sc dk ex tr ps ct rv rs rn re ll wm ty sy (d + 1) (nI j) := by
  intro d
  induction d with
  | zero =>
    intro j hj h
    exact br_t (nI_le (a := 8) (by omega) (by omega)) h
  | succ d ih =>
    intro j hj h
    have h' : post (sw_b (if tr j &&& 8 = 0 then sw_lp ps tr pl d (j + 1) else if sw_nr ps tr pl 8 (sw_n ps j) = true then true else sw_lp ps tr pl d (j + 1))) := h
    refine br_f (nI_ge (b := 8) (by omega) (by decide)) ⟨vp_in_nI (by omega) (by decide), ?_⟩
    rw [nI_clamp (by omega)]
    by_cases e : tr j &&& 8 = 0
    · rw [if_pos e] at h'
      exact br_t e (nm_r (nI_1 j) (ih (j + 1) (by omega) h'))
    · rw [if_neg e] at h'
      refine br_f e (sw_yn hp hl (by omega) ?_)
      cases hb : sw_nr ps tr pl 8 (sw_n ps j)
      · rw [hb] at h'
        exact br_t rfl (nm_r (nI_1 j) (ih (j + 1) (by omega) h'))
      · rw [hb] at h'
        exact br_f (by decide) h'
theorem sw_ysee {post : Int32 → Prop} (hp : sw_R 16 ps) (hl : sw_I 6 pl) {j : Nat} (hj : j < 8) (h : post (sw_b (sw_see ps tr dk pl j))) : wpY_visible post (pl, rc, wc, tc, sc, dk, ex, tr, ps, ct, rv, rs, rn, re, ll, wm, ty, sy) (nI j) := by
  unfold sw_see at h
  unfold wpY_visible
  dsimp only
  rw [sw_yThing]
  refine ⟨fun _ => br_f sw_n10 (sw_yn hp hl hj ?_), fun z => absurd ⟨j, hj, rfl⟩ z⟩
  cases hb : sw_nr ps tr pl 8 (sw_n ps j)
  · rw [hb] at h
    exact br_t rfl h
  · rw [hb, if_pos rfl] at h
    obtain ⟨q, hq, rfl⟩ := hl
    refine br_f (by decide) ⟨vp_in_nI hq (by decide), ?_⟩
    by_cases e : dk (nI q).toNatClampNeg = 0
    · rw [if_pos e] at h
      exact br_t e h
    · rw [if_neg e] at h
      exact br_f e ⟨9, sw_ylp hp ⟨q, hq, rfl⟩ 8 0 rfl h⟩
/-! counted -/
def sw_ci (ps : Nat → Int32) (x : Int32) : Nat → Nat → Nat → Nat
  | 0, _, c => c
  | d + 1, j, c => if ps j = x then sw_ci ps x d (j + 1) (c + 1) else sw_ci ps x d (j + 1) c
theorem sw_ci_le (ps : Nat → Int32) (x : Int32) : ∀ d j c, sw_ci ps x d j c ≤ c + d := by
  intro d
  induction d with
  | zero => intro j c; exact Nat.le_refl c
  | succ d ih =>
    intro j c
    show (if ps j = x then _ else _) ≤ _
    split
    · have := ih (j + 1) (c + 1); omega
    · have := ih (j + 1) c; omega
theorem sw_xc4 {post : Int32 → Prop} (x : Int32) : ∀ d j c : Nat, j + d = 8 → c + d ≤ 8 → post (nI (sw_ci ps x d j c)) → wX_countIn_4 post x pl wc rc tc sc dk ex tr ps ct wl wm rv rs rn re ty se sy (d + 1) (nI c) (nI j) := by
  intro d
  induction d with
  | zero =>
    intro j c hj hc h
    exact br_t (nI_le (a := 8) (by omega) (by omega)) h
  | succ d ih =>
    intro j c hj hc h
    have h' : post (nI (if ps j = x then sw_ci ps x d (j + 1) (c + 1) else sw_ci ps x d (j + 1) c)) := h
    refine br_f (nI_ge (b := 8) (by omega) (by decide)) ⟨vp_in_nI (by omega) (by decide), ?_⟩
    rw [nI_clamp (by omega)]
    by_cases e : ps j = x
    · rw [if_pos e] at h'
      exact br_t e (nm_r (nI_1 c) (nm_r (nI_1 j) (ih (j + 1) (c + 1) (by omega) (by omega) h')))
    · rw [if_neg e] at h'
      exact br_f e (nm_r (nI_1 j) (ih (j + 1) c (by omega) (by omega) h'))
theorem sw_xc {post : Int32 → Prop} (x : Int32) (h : post (nI (sw_ci ps x 8 0 0))) : wpX_countIn post (pl, wc, rc, tc, sc, dk, ex, tr, ps, ct, wl, wm, rv, rs, rn, re, ty, se, sy) x := ⟨9, sw_xc4 x 8 0 0 rfl (by decide) h⟩
theorem sw_yc4 {post : Int32 → Prop} (x : Int32) : ∀ d j c : Nat, j + d = 8 → c + d ≤ 8 → post (nI (sw_ci ps x d j c)) → wY_inside_4 post x pl rc wc tc sc dk ex tr ps ct rv rs rn re ll wm ty sy (d + 1) (nI c) (nI j) := by
  intro d
  induction d with
  | zero =>
    intro j c hj hc h
    exact br_t (nI_le (a := 8) (by omega) (by omega)) h
  | succ d ih =>
    intro j c hj hc h
    have h' : post (nI (if ps j = x then sw_ci ps x d (j + 1) (c + 1) else sw_ci ps x d (j + 1) c)) := h
    refine br_f (nI_ge (b := 8) (by omega) (by decide)) ⟨vp_in_nI (by omega) (by decide), ?_⟩
    rw [nI_clamp (by omega)]
    by_cases e : ps j = x
    · rw [if_pos e] at h'
      exact br_t e (nm_r (nI_1 c) (nm_r (nI_1 j) (ih (j + 1) (c + 1) (by omega) (by omega) h')))
    · rw [if_neg e] at h'
      exact br_f e (nm_r (nI_1 j) (ih (j + 1) c (by omega) (by omega) h'))
theorem sw_yc {post : Int32 → Prop} (x : Int32) (h : post (nI (sw_ci ps x 8 0 0))) : wpY_inside post (pl, rc, wc, tc, sc, dk, ex, tr, ps, ct, rv, rs, rn, re, ll, wm, ty, sy) x := ⟨9, sw_yc4 x 8 0 0 rfl (by decide) h⟩
end
end
section
/-! what the commands do, one answer for both sides -/
section
variable {pl wc rc tc sc : Int32} {dk ex tr ps ct wl wm rv rs rn re ty se sy ll : Nat → Int32}
theorem sw_xheld {post : Int32 → Prop} {j : Nat} (hj : j < 8) (h : post (sw_b (decide (ps j = 6)))) : wpX_isHeld post (pl, wc, rc, tc, sc, dk, ex, tr, ps, ct, wl, wm, rv, rs, rn, re, ty, se, sy) (nI j) := by
  refine ⟨vp_in_nI hj (by decide), ?_⟩
  rw [nI_clamp (by omega)]
  by_cases e : ps j = 6
  · rw [decide_eq_true e] at h
    exact br_t e h
  · rw [decide_eq_false e] at h
    exact br_f e h
theorem sw_take (hp : sw_R 16 ps) (hl : sw_I 6 pl) {x : Nat} (hx : x < 8) : ∃ (a : Int32) (ps' : Nat → Int32), sw_R 16 ps' ∧ (∀ post : Int32 → SX → Prop, post a (pl, wc, rc, tc, sc, dk, ex, tr, ps', ct, wl, wm, rv, rs, rn, re, ty, se, sy) → wpX_performTake post (pl, wc, rc, tc, sc, dk, ex, tr, ps, ct, wl, wm, rv, rs, rn, re, ty, se, sy) (nI x)) ∧ (∀ post : Int32 → SY → Prop, post a (pl, rc, wc, tc, sc, dk, ex, tr, ps', ct, rv, rs, rn, re, ll, wm, ty, sy) → wpY_take post (pl, rc, wc, tc, sc, dk, ex, tr, ps, ct, rv, rs, rn, re, ll, wm, ty, sy) (nI x)) := by
  have hv : vp_in (nI x) 8 := vp_in_nI hx (by decide)
  have hc : (nI x).toNatClampNeg = x := nI_clamp (by omega)
  cases hs : sw_see ps tr dk pl x
  · refine ⟨2, ps, hp, fun post h => ?_, fun post h => ?_⟩
    · unfold wpX_performTake
      refine sw_xsee hp hl hx ?_
      rw [hs]
      exact br_t rfl h
    · unfold wpY_take
      refine sw_ysee hp hl hx ?_
      rw [hs]
      exact br_t rfl h
  · by_cases h6 : ps x = 6
    · refine ⟨3, ps, hp, fun post h => ?_, fun post h => ?_⟩
      · unfold wpX_performTake
        refine sw_xsee hp hl hx ?_
        rw [hs]
        refine br_f (by decide) (sw_xheld hx ?_)
        rw [decide_eq_true h6]
        exact br_f (by decide) h
      · unfold wpY_take
        refine sw_ysee hp hl hx ?_
        rw [hs]
        refine br_f (by decide) ⟨hv, ?_⟩
        rw [hc]
        exact br_t h6 h
    · by_cases h1 : tr x &&& 1 = 0
      · have h1' : ¬ tr x &&& 1 = 1 := by rw [h1]; decide
        by_cases h4 : sw_ci ps 6 8 0 0 < 4
        · refine ⟨0, upd ps x 6, sw_R_u hp x (m := 6) (by decide), fun post h => ?_, fun post h => ?_⟩
          · unfold wpX_performTake
            refine sw_xsee hp hl hx ?_
            rw [hs]
            refine br_f (by decide) (sw_xheld hx ?_)
            rw [decide_eq_false h6]
            refine br_t rfl (sw_xht hx 1 ?_)
            rw [decide_eq_false (fun z => z h1)]
            exact br_t rfl (sw_xc 6 (br_t (nI_lt (b := 4) h4 (by decide)) ⟨hv, nm_r (by rw [hc]) h⟩))
          · unfold wpY_take
            refine sw_ysee hp hl hx ?_
            rw [hs]
            refine br_f (by decide) ⟨hv, ?_⟩
            rw [hc]
            exact br_f h6 ⟨hv, br_f h1' (sw_yc 6 (br_t (nI_lt (b := 4) h4 (by decide)) ⟨hv, nm_e h⟩))⟩
        · have h4' : ¬ nI (sw_ci ps 6 8 0 0) < 4 := nI_nlt (b := 4) (by omega) (by have := sw_ci_le ps 6 8 0 0; omega)
          refine ⟨5, ps, hp, fun post h => ?_, fun post h => ?_⟩
          · unfold wpX_performTake
            refine sw_xsee hp hl hx ?_
            rw [hs]
            refine br_f (by decide) (sw_xheld hx ?_)
            rw [decide_eq_false h6]
            refine br_t rfl (sw_xht hx 1 ?_)
            rw [decide_eq_false (fun z => z h1)]
            exact br_t rfl (sw_xc 6 (br_f h4' h))
          · unfold wpY_take
            refine sw_ysee hp hl hx ?_
            rw [hs]
            refine br_f (by decide) ⟨hv, ?_⟩
            rw [hc]
            exact br_f h6 ⟨hv, br_f h1' (sw_yc 6 (br_f h4' h))⟩
      · have h1' : tr x &&& 1 = 1 := (sw_and1 (tr x)).resolve_left h1
        refine ⟨4, ps, hp, fun post h => ?_, fun post h => ?_⟩
        · unfold wpX_performTake
          refine sw_xsee hp hl hx ?_
          rw [hs]
          refine br_f (by decide) (sw_xheld hx ?_)
          rw [decide_eq_false h6]
          refine br_t rfl (sw_xht hx 1 ?_)
          rw [decide_eq_true h1]
          exact br_f (by decide) h
        · unfold wpY_take
          refine sw_ysee hp hl hx ?_
          rw [hs]
          refine br_f (by decide) ⟨hv, ?_⟩
          rw [hc]
          exact br_f h6 ⟨hv, br_t h1' h⟩
theorem sw_put (hp : sw_R 16 ps) (hl : sw_I 6 pl) {x y : Nat} (hx : x < 8) (hy : y < 8) : ∃ (a : Int32) (ps' : Nat → Int32), sw_R 16 ps' ∧ (∀ post : Int32 → SX → Prop, post a (pl, wc, rc, tc, sc, dk, ex, tr, ps', ct, wl, wm, rv, rs, rn, re, ty, se, sy) → wpX_performPut post (pl, wc, rc, tc, sc, dk, ex, tr, ps, ct, wl, wm, rv, rs, rn, re, ty, se, sy) (nI x) (nI y)) ∧ (∀ post : Int32 → SY → Prop, post a (pl, rc, wc, tc, sc, dk, ex, tr, ps', ct, rv, rs, rn, re, ll, wm, ty, sy) → wpY_put post (pl, rc, wc, tc, sc, dk, ex, tr, ps, ct, rv, rs, rn, re, ll, wm, ty, sy) (nI x) (nI y)) := by
  have hv : vp_in (nI x) 8 := vp_in_nI hx (by decide)
  have hc : (nI x).toNatClampNeg = x := nI_clamp (by omega)
  have hvy : vp_in (nI y) 8 := vp_in_nI hy (by decide)
  have hcy : (nI y).toNatClampNeg = y := nI_clamp (by omega)
  have h8y : (8 : Int32) + nI y = nI (8 + y) := nI_add 8 y
  by_cases h6 : ps x = 6
  · cases hs : sw_see ps tr dk pl y
    · refine ⟨2, ps, hp, fun post h => ?_, fun post h => ?_⟩
      · unfold wpX_performPut
        refine sw_xheld hx ?_
        rw [decide_eq_true h6]
        refine br_f (by decide) (sw_xsee hp hl hy ?_)
        rw [hs]
        exact br_t rfl h
      · unfold wpY_put
        refine ⟨hv, ?_⟩
        rw [hc]
        refine br_t h6 (sw_ysee hp hl hy ?_)
        rw [hs]
        exact br_t rfl h
    · by_cases h2 : tr y &&& 2 = 0
      · refine ⟨7, ps, hp, fun post h => ?_, fun post h => ?_⟩
        · unfold wpX_performPut
          refine sw_xheld hx ?_
          rw [decide_eq_true h6]
          refine br_f (by decide) (sw_xsee hp hl hy ?_)
          rw [hs]
          refine br_f (by decide) (nm_r h8y (sw_xht hy 2 ?_))
          rw [decide_eq_false (fun z => z h2)]
          exact br_t rfl h
        · unfold wpY_put
          refine ⟨hv, ?_⟩
          rw [hc]
          refine br_t h6 (sw_ysee hp hl hy ?_)
          rw [hs]
          refine br_f (by decide) ⟨hvy, ?_⟩
          rw [hcy]
          exact br_t h2 h
      · cases hw : sw_w (sw_n ps) x 8 (8 + y)
        · have hw' : sw_w (sw_n ps) x 8 (y + 8) = false := by rw [Nat.add_comm]; exact hw
          by_cases h4 : tr y &&& 4 = 0
          · refine ⟨8, ps, hp, fun post h => ?_, fun post h => ?_⟩
            · unfold wpX_performPut
              refine sw_xheld hx ?_
              rw [decide_eq_true h6]
              refine br_f (by decide) (sw_xsee hp hl hy ?_)
              rw [hs]
              refine br_f (by decide) (nm_r h8y (sw_xht hy 2 ?_))
              rw [decide_eq_true h2]
              refine br_f (by decide) (sw_xw hp hx (by omega) ?_)
              rw [hw]
              refine br_t rfl (sw_xht hy 4 ?_)
              rw [decide_eq_false (fun z => z h4)]
              exact br_t rfl h
            · unfold wpY_put
              refine ⟨hv, ?_⟩
              rw [hc]
              refine br_t h6 (sw_ysee hp hl hy ?_)
              rw [hs]
              refine br_f (by decide) ⟨hvy, ?_⟩
              rw [hcy]
              refine br_f h2 (sw_yw hp hx hy ?_)
              rw [hw']
              exact br_t rfl ⟨hvy, br_t h4 h⟩
          · by_cases h3 : sw_ci ps (nI (8 + y)) 8 0 0 < 3
            · refine ⟨0, upd ps x (nI (8 + y)), sw_R_u hp x (by omega), fun post h => ?_, fun post h => ?_⟩
              · unfold wpX_performPut
                refine sw_xheld hx ?_
                rw [decide_eq_true h6]
                refine br_f (by decide) (sw_xsee hp hl hy ?_)
                rw [hs]
                refine br_f (by decide) (nm_r h8y (sw_xht hy 2 ?_))
                rw [decide_eq_true h2]
                refine br_f (by decide) (sw_xw hp hx (by omega) ?_)
                rw [hw]
                refine br_t rfl (sw_xht hy 4 ?_)
                rw [decide_eq_true h4]
                exact br_f (by decide) (sw_xc _ (br_t (nI_lt (b := 3) h3 (by decide)) ⟨hv, nm_r (by rw [hc]) h⟩))
              · unfold wpY_put
                refine ⟨hv, ?_⟩
                rw [hc]
                refine br_t h6 (sw_ysee hp hl hy ?_)
                rw [hs]
                refine br_f (by decide) ⟨hvy, ?_⟩
                rw [hcy]
                refine br_f h2 (sw_yw hp hx hy ?_)
                rw [hw']
                refine br_t rfl ⟨hvy, br_f h4 ?_⟩
                rw [h8y]
                exact sw_yc _ (br_t (nI_lt (b := 3) h3 (by decide)) ⟨hv, nm_e h⟩)
            · have h3' : ¬ nI (sw_ci ps (nI (8 + y)) 8 0 0) < 3 := nI_nlt (b := 3) (by omega) (by have := sw_ci_le ps (nI (8 + y)) 8 0 0; omega)
              refine ⟨5, ps, hp, fun post h => ?_, fun post h => ?_⟩
              · unfold wpX_performPut
                refine sw_xheld hx ?_
                rw [decide_eq_true h6]
                refine br_f (by decide) (sw_xsee hp hl hy ?_)
                rw [hs]
                refine br_f (by decide) (nm_r h8y (sw_xht hy 2 ?_))
                rw [decide_eq_true h2]
                refine br_f (by decide) (sw_xw hp hx (by omega) ?_)
                rw [hw]
                refine br_t rfl (sw_xht hy 4 ?_)
                rw [decide_eq_true h4]
                exact br_f (by decide) (sw_xc _ (br_f h3' h))
              · unfold wpY_put
                refine ⟨hv, ?_⟩
                rw [hc]
                refine br_t h6 (sw_ysee hp hl hy ?_)
                rw [hs]
                refine br_f (by decide) ⟨hvy, ?_⟩
                rw [hcy]
                refine br_f h2 (sw_yw hp hx hy ?_)
                rw [hw']
                refine br_t rfl ⟨hvy, br_f h4 ?_⟩
                rw [h8y]
                exact sw_yc _ (br_f h3' h)
        · have hw' : sw_w (sw_n ps) x 8 (y + 8) = true := by rw [Nat.add_comm]; exact hw
          refine ⟨7, ps, hp, fun post h => ?_, fun post h => ?_⟩
          · unfold wpX_performPut
            refine sw_xheld hx ?_
            rw [decide_eq_true h6]
            refine br_f (by decide) (sw_xsee hp hl hy ?_)
            rw [hs]
            refine br_f (by decide) (nm_r h8y (sw_xht hy 2 ?_))
            rw [decide_eq_true h2]
            refine br_f (by decide) (sw_xw hp hx (by omega) ?_)
            rw [hw]
            exact br_f (by decide) h
          · unfold wpY_put
            refine ⟨hv, ?_⟩
            rw [hc]
            refine br_t h6 (sw_ysee hp hl hy ?_)
            rw [hs]
            refine br_f (by decide) ⟨hvy, ?_⟩
            rw [hcy]
            refine br_f h2 (sw_yw hp hx hy ?_)
            rw [hw']
            exact br_f (by decide) h
  · refine ⟨6, ps, hp, fun post h => ?_, fun post h => ?_⟩
    · unfold wpX_performPut
      refine sw_xheld hx ?_
      rw [decide_eq_false h6]
      exact br_t rfl h
    · unfold wpY_put
      refine ⟨hv, ?_⟩
      rw [hc]
      exact br_f h6 h
theorem sw_turn (hp : sw_R 16 ps) (ht : sw_R 16 tr) (hl : sw_I 6 pl) {x : Nat} (hx : x < 8) (o : Int32) : ∃ (a : Int32) (tr' : Nat → Int32), sw_R 16 tr' ∧ (∀ post : Int32 → SX → Prop, post a (pl, wc, rc, tc, sc, dk, ex, tr', ps, ct, wl, wm, rv, rs, rn, re, ty, se, sy) → wpX_performTurn post (pl, wc, rc, tc, sc, dk, ex, tr, ps, ct, wl, wm, rv, rs, rn, re, ty, se, sy) (nI x) o) ∧ (∀ post : Int32 → SY → Prop, post a (pl, rc, wc, tc, sc, dk, ex, tr', ps, ct, rv, rs, rn, re, ll, wm, ty, sy) → wpY_open post (pl, rc, wc, tc, sc, dk, ex, tr, ps, ct, rv, rs, rn, re, ll, wm, ty, sy) (nI x) o) := by
  have hv : vp_in (nI x) 8 := vp_in_nI hx (by decide)
  have hc : (nI x).toNatClampNeg = x := nI_clamp (by omega)
  cases hs : sw_see ps tr dk pl x
  · refine ⟨2, tr, ht, fun post h => ?_, fun post h => ?_⟩
    · unfold wpX_performTurn
      refine sw_xsee hp hl hx ?_
      rw [hs]
      exact br_t rfl h
    · unfold wpY_open
      refine sw_ysee hp hl hx ?_
      rw [hs]
      exact br_t rfl h
  · by_cases h2 : tr x &&& 2 = 0
    · refine ⟨7, tr, ht, fun post h => ?_, fun post h => ?_⟩
      · unfold wpX_performTurn
        refine sw_xsee hp hl hx ?_
        rw [hs]
        refine br_f (by decide) (sw_xht hx 2 ?_)
        rw [decide_eq_false (fun z => z h2)]
        exact br_t rfl h
      · unfold wpY_open
        refine sw_ysee hp hl hx ?_
        rw [hs]
        refine br_f (by decide) ⟨hv, ?_⟩
        rw [hc]
        exact br_t h2 h
    · have hy : ∀ post : Int32 → SY → Prop, wY_open_40 post (nI x) o (sw_b (decide (¬ tr x &&& 4 = 0))) pl rc wc tc sc dk ex tr ps ct rv rs rn re ll wm ty sy → wpY_open post (pl, rc, wc, tc, sc, dk, ex, tr, ps, ct, rv, rs, rn, re, ll, wm, ty, sy) (nI x) o := by
        intro post h
        unfold wpY_open
        refine sw_ysee hp hl hx ?_
        rw [hs]
        refine br_f (by decide) ⟨hv, ?_⟩
        rw [hc]
        refine br_f h2 ⟨hv, ?_⟩
        by_cases h4 : tr x &&& 4 = 0
        · rw [decide_eq_false (fun z => z h4)] at h
          exact br_t h4 h
        · rw [decide_eq_true h4] at h
          exact br_f h4 h
      by_cases ho : sw_b (decide (¬ tr x &&& 4 = 0)) = o
      · refine ⟨10, tr, ht, fun post h => ?_, fun post h => hy post (br_t ho h)⟩
        unfold wpX_performTurn
        refine sw_xsee hp hl hx ?_
        rw [hs]
        refine br_f (by decide) (sw_xht hx 2 ?_)
        rw [decide_eq_true h2]
        exact br_f (by decide) (sw_xht hx 4 (br_t ho h))
      · obtain ⟨q, hq, eq⟩ := ht x
        have e4 : tr x ^^^ 4 = nI (q ^^^ 4) := by rw [eq]; exact (sw_x4 q hq).1
        refine ⟨0, upd tr x (nI (q ^^^ 4)), sw_R_u ht x (sw_x4 q hq).2, fun post h => ?_, fun post h => hy post (br_f ho ⟨hv, hv, nm_r (by rw [hc, e4]) h⟩)⟩
        unfold wpX_performTurn
        refine sw_xsee hp hl hx ?_
        rw [hs]
        refine br_f (by decide) (sw_xht hx 2 ?_)
        rw [decide_eq_true h2]
        exact br_f (by decide) (sw_xht hx 4 (br_f ho ⟨hv, hv, nm_r (by rw [hc, e4]) h⟩))
def sw_X (ex : Nat → Int32) : Prop := ∀ j, ex j = -1 ∨ sw_I 6 (ex j)
theorem sw_go (hl : sw_I 6 pl) (hx : sw_X ex) {x : Nat} (hd : x < 4) : ∃ (a pl' : Int32), sw_I 6 pl' ∧ (∀ post : Int32 → SX → Prop, post a (pl', wc, rc, tc, sc, dk, ex, tr, ps, ct, wl, wm, rv, rs, rn, re, ty, se, sy) → wpX_performGo post (pl, wc, rc, tc, sc, dk, ex, tr, ps, ct, wl, wm, rv, rs, rn, re, ty, se, sy) (nI x)) ∧ (∀ post : Int32 → SY → Prop, post a (pl', rc, wc, tc, sc, dk, ex, tr, ps, ct, rv, rs, rn, re, ll, wm, ty, sy) → wpY_go post (pl, rc, wc, tc, sc, dk, ex, tr, ps, ct, rv, rs, rn, re, ll, wm, ty, sy) (nI x)) := by
  obtain ⟨q, hq, rfl⟩ := hl
  have e1 : nI q * 4 + nI x = nI (q * 4 + x) := by
    rw [← nI_add, ← pk_mul]
    rfl
  have e2 : 4 * nI q + nI x = nI (q * 4 + x) := by
    rw [← nI_add, Nat.mul_comm, ← pk_mul]
    rfl
  have hv : vp_in (nI (q * 4 + x)) 24 := vp_in_nI (by omega) (by decide)
  have hc : (nI (q * 4 + x)).toNatClampNeg = q * 4 + x := nI_clamp (by omega)
  rcases hx (q * 4 + x) with e | ⟨m, hm, e⟩
  · refine ⟨9, nI q, ⟨q, hq, rfl⟩, fun post h => ?_, fun post h => ?_⟩
    · unfold wpX_performGo
      dsimp only
      rw [e1]
      exact ⟨hv, nm_r (e' := -1) (by rw [hc]; exact e) (br_t rfl h)⟩
    · unfold wpY_go
      dsimp only
      rw [e2]
      exact ⟨hv, nm_r (e' := -1) (by rw [hc]; exact e) (br_f (by decide) h)⟩
  · have hm1 : ¬ nI m = -1 := by
      intro z
      have : nI m < 0 := by rw [z]; decide
      exact nI_pos (by omega) this
    refine ⟨0, nI m, ⟨m, hm, rfl⟩, fun post h => ?_, fun post h => ?_⟩
    · unfold wpX_performGo
      dsimp only
      rw [e1]
      exact ⟨hv, nm_r (by rw [hc]; exact e) (br_f hm1 h)⟩
    · unfold wpY_go
      dsimp only
      rw [e2]
      exact ⟨hv, nm_r (by rw [hc]; exact e) (br_t (nI_pos' (by omega)) h)⟩
end
end
section
/-! conditions and effects, one value for both sides -/
theorem sw_and3' {a : Nat} (h : a < 4) : nI a &&& 3 = nI a := by rw [sw_and3 (by omega), Nat.mod_eq_of_lt h]
theorem sw_and7' {a : Nat} (h : a < 8) : nI a &&& 7 = nI a := by rw [pk_andN (n := a) (m := 7) (by omega) 3 (by decide), Nat.mod_eq_of_lt h]
theorem sw_first {q : Nat} (h : q < 2048) : (nI q >>> ((2 : Int32) &&& 31)) &&& 15 = nI (q / 4 % 16) := by rw [sw_shr2 h, sw_and15 (by omega)]
theorem sw_second {q : Nat} (h : q < 2048) : (nI q >>> ((6 : Int32) &&& 31)) &&& 15 = nI (q / 64 % 16) := by rw [sw_shr6 h, sw_and15 (by omega)]
section
variable {pl wc rc tc sc : Int32} {dk ex tr ps ct wl wm rv rs rn re ty se sy ll : Nat → Int32}
theorem sw_xho {post : Int32 → Prop} {q : Nat} (hq : q < 2048) {k : Int32} (hk : nI q &&& 3 = k) (h : ((k < 0 → (wpX_hasTrait (fun r_6 => (narrow .boolean (.int r_6) = .int r_6 ∧ (post r_6))) (pl, wc, rc, tc, sc, dk, ex, tr, ps, ct, wl, wm, rv, rs, rn, re, ty, se, sy) (nI (q / 4 % 16)) ((1 : Int32) <<< (nI (q / 64 % 16) &&& 31)))) ∧ (¬ k < 0 → (((2 < k → (wpX_hasTrait (fun r_27 => (narrow .boolean (.int r_27) = .int r_27 ∧ (post r_27))) (pl, wc, rc, tc, sc, dk, ex, tr, ps, ct, wl, wm, rv, rs, rn, re, ty, se, sy) (nI (q / 4 % 16)) ((1 : Int32) <<< (nI (q / 64 % 16) &&& 31)))) ∧ (¬ 2 < k → (((k = 0 → (post 1)) ∧ (¬ k = 0 → (((k = 1 → (vp_in (nI (q / 4 % 16)) 4 ∧ ((((ct (nI (q / 4 % 16)).toNatClampNeg) < nI (q / 64 % 16) → (post 0)) ∧ (¬ (ct (nI (q / 4 % 16)).toNatClampNeg) < nI (q / 64 % 16) → (post 1)))))) ∧ (¬ k = 1 → (((k = 2 → (vp_in (nI (q / 4 % 16)) 8 ∧ ((((ps (nI (q / 4 % 16)).toNatClampNeg) = nI (q / 64 % 16) → (post 1)) ∧ (¬ (ps (nI (q / 4 % 16)).toNatClampNeg) = nI (q / 64 % 16) → (post 0)))))) ∧ (¬ k = 2 → (True)))))))))))))))) : wpX_holds post (pl, wc, rc, tc, sc, dk, ex, tr, ps, ct, wl, wm, rv, rs, rn, re, ty, se, sy) (nI q) := by
  subst hk
  rw [← sw_first hq, ← sw_second hq] at h
  exact h
theorem sw_yho {post : Int32 → Prop} {q : Nat} (hq : q < 2048) {k : Int32} (hk : nI q &&& 3 = k) (h : (((k = 1 → (vp_in (nI (q / 4 % 16) &&& 3) 4 ∧ ((((ct (nI (q / 4 % 16) &&& 3).toNatClampNeg) < nI (q / 64) → (post 0)) ∧ (¬ (ct (nI (q / 4 % 16) &&& 3).toNatClampNeg) < nI (q / 64) → (post 1)))))) ∧ (¬ k = 1 → (((k = 2 → (vp_in (nI (q / 4 % 16) &&& 7) 8 ∧ ((((ps (nI (q / 4 % 16) &&& 7).toNatClampNeg) = nI (q / 64) → (post 1)) ∧ (¬ (ps (nI (q / 4 % 16) &&& 7).toNatClampNeg) = nI (q / 64) → (post 0)))))) ∧ (¬ k = 2 → (((k = 0 → (post 1)) ∧ (¬ k = 0 → (vp_in (nI (q / 4 % 16) &&& 7) 8 ∧ ((((((tr (nI (q / 4 % 16) &&& 7).toNatClampNeg) >>> (nI (q / 64) &&& 31)) &&& 1) = 1 → (post 1)) ∧ (¬ (((tr (nI (q / 4 % 16) &&& 7).toNatClampNeg) >>> (nI (q / 64) &&& 31)) &&& 1) = 1 → (post 0))))))))))))))) : wpY_holds post (pl, rc, wc, tc, sc, dk, ex, tr, ps, ct, rv, rs, rn, re, ll, wm, ty, sy) (nI q) :=
  nm_r hk (nm_r (sw_first hq) (nm_r (sw_shr6 hq) h))
theorem sw_holds {q : Nat} (hq : sw_cv q) (ht : sw_R 16 tr) : ∃ b : Bool, (∀ post : Int32 → Prop, post (sw_b b) → wpX_holds post (pl, wc, rc, tc, sc, dk, ex, tr, ps, ct, wl, wm, rv, rs, rn, re, ty, se, sy) (nI q)) ∧ (∀ post : Int32 → Prop, post (sw_b b) → wpY_holds post (pl, rc, wc, tc, sc, dk, ex, tr, ps, ct, rv, rs, rn, re, ll, wm, ty, sy) (nI q)) := by
  obtain ⟨hl, hk⟩ := hq
  have hB : q / 64 % 16 = q / 64 := by omega
  have hq2 : q < 2048 := by omega
  rcases hk with k0 | ⟨k1, ha⟩ | ⟨k2, ha⟩ | ⟨k3, ha, hb⟩
  · have e3 : nI q &&& 3 = 0 := by rw [sw_and3 hq2, k0]; rfl
    exact ⟨true, fun post h => sw_xho hq2 e3 (br_f (by decide) (br_f (by decide) (br_t rfl h))), fun post h => sw_yho hq2 e3 (br_f (by decide) (br_f (by decide) (br_t rfl h)))⟩
  · have e3 : nI q &&& 3 = 1 := by rw [sw_and3 hq2, k1]; rfl
    have hv : vp_in (nI (q / 4 % 16)) 4 := vp_in_nI ha (by decide)
    have hm := sw_and3' ha
    by_cases e : ct (nI (q / 4 % 16)).toNatClampNeg < nI (q / 64)
    · exact ⟨false, fun post h => sw_xho hq2 e3 (br_f (by decide) (br_f (by decide) (br_f (by decide) (br_t rfl ⟨hv, br_t (by rw [hB]; exact e) h⟩)))), fun post h => sw_yho hq2 e3 (br_t rfl (by rw [hm]; exact ⟨hv, br_t e h⟩))⟩
    · exact ⟨true, fun post h => sw_xho hq2 e3 (br_f (by decide) (br_f (by decide) (br_f (by decide) (br_t rfl ⟨hv, br_f (by rw [hB]; exact e) h⟩)))), fun post h => sw_yho hq2 e3 (br_t rfl (by rw [hm]; exact ⟨hv, br_f e h⟩))⟩
  · have e3 : nI q &&& 3 = 2 := by rw [sw_and3 hq2, k2]; rfl
    have hv : vp_in (nI (q / 4 % 16)) 8 := vp_in_nI ha (by decide)
    have hm := sw_and7' ha
    by_cases e : ps (nI (q / 4 % 16)).toNatClampNeg = nI (q / 64)
    · exact ⟨true, fun post h => sw_xho hq2 e3 (br_f (by decide) (br_f (by decide) (br_f (by decide) (br_f (by decide) (br_t rfl ⟨hv, br_t (by rw [hB]; exact e) h⟩))))), fun post h => sw_yho hq2 e3 (br_f (by decide) (br_t rfl (by rw [hm]; exact ⟨hv, br_t e h⟩)))⟩
    · exact ⟨false, fun post h => sw_xho hq2 e3 (br_f (by decide) (br_f (by decide) (br_f (by decide) (br_f (by decide) (br_t rfl ⟨hv, br_f (by rw [hB]; exact e) h⟩))))), fun post h => sw_yho hq2 e3 (br_f (by decide) (br_t rfl (by rw [hm]; exact ⟨hv, br_f e h⟩)))⟩
  · have e3 : nI q &&& 3 = 3 := by rw [sw_and3 hq2, k3]; rfl
    have hv : vp_in (nI (q / 4 % 16)) 8 := vp_in_nI ha (by decide)
    have hm := sw_and7' ha
    have hc : (nI (q / 4 % 16)).toNatClampNeg = q / 4 % 16 := nI_clamp (by omega)
    obtain ⟨m, hm16, em⟩ := ht (q / 4 % 16)
    have hbit := sw_bit m hm16 (q / 64) hb
    refine ⟨decide (¬ tr (q / 4 % 16) &&& ((1 : Int32) <<< (nI (q / 64) &&& 31)) = 0), fun post h => ?_, fun post h => ?_⟩
    · refine sw_xho hq2 e3 (br_f (by decide) (br_t (by decide) ?_))
      rw [hB]
      exact sw_xht ha _ ⟨sw_nbb _, h⟩
    · refine sw_yho hq2 e3 (br_f (by decide) (br_f (by decide) (br_f (by decide) ?_)))
      rw [hm, hc]
      refine ⟨hv, ?_⟩
      rw [em] at h ⊢
      by_cases e : nI m &&& ((1 : Int32) <<< (nI (q / 64) &&& 31)) = 0
      · rw [decide_eq_false (fun z => z e)] at h
        exact br_f (hbit.mp e) h
      · rw [decide_eq_true e] at h
        exact br_t (Classical.byContradiction (fun z => e (hbit.mpr z))) h
theorem sw_xef {post : SX → Prop} {q : Nat} (hq : q < 2048) {k : Int32} (hk : nI q &&& 3 = k) (h : ((k < 0 → (post (nI (q / 4 % 16), wc, rc, tc, sc, dk, ex, tr, ps, ct, wl, wm, rv, rs, rn, re, ty, se, sy))) ∧ (¬ k < 0 → (((2 < k → (post (nI (q / 4 % 16), wc, rc, tc, sc, dk, ex, tr, ps, ct, wl, wm, rv, rs, rn, re, ty, se, sy))) ∧ (¬ 2 < k → (((k = 0 → (wpX_say post (pl, wc, rc, tc, sc, dk, ex, tr, ps, ct, wl, wm, rv, rs, rn, re, ty, se, sy) (nI (q / 4 % 16) + (16 * nI (q / 64 % 16))))) ∧ (¬ k = 0 → (((k = 1 → (wpX_isWithin (fun r_28 => (((r_28 = 0 → (vp_in (nI (q / 4 % 16)) 8 ∧ ∀ a_50 : Nat → Int32, a_50 = upd ps (nI (q / 4 % 16)).toNatClampNeg (nI (q / 64 % 16)) → (post (pl, wc, rc, tc, sc, dk, ex, tr, a_50, ct, wl, wm, rv, rs, rn, re, ty, se, sy)))) ∧ (¬ r_28 = 0 → (post (pl, wc, rc, tc, sc, dk, ex, tr, ps, ct, wl, wm, rv, rs, rn, re, ty, se, sy)))))) (pl, wc, rc, tc, sc, dk, ex, tr, ps, ct, wl, wm, rv, rs, rn, re, ty, se, sy) (nI (q / 64 % 16)) (nI (q / 4 % 16)))) ∧ (¬ k = 1 → (((k = 2 → (vp_in (nI (q / 4 % 16)) 4 ∧ (vp_in (nI (q / 4 % 16)) 4 ∧ ∀ a_54 : Nat → Int32, a_54 = upd ct (nI (q / 4 % 16)).toNatClampNeg ((ct (nI (q / 4 % 16)).toNatClampNeg) + (nI (q / 64 % 16) - 8)) → (post (pl, wc, rc, tc, sc, dk, ex, tr, ps, a_54, wl, wm, rv, rs, rn, re, ty, se, sy))))) ∧ (¬ k = 2 → (True)))))))))))))))) : wpX_takeEffect post (pl, wc, rc, tc, sc, dk, ex, tr, ps, ct, wl, wm, rv, rs, rn, re, ty, se, sy) (nI q) := by
  subst hk
  rw [← sw_first hq, ← sw_second hq] at h
  exact h
theorem sw_say {s : Nat} (hs : s < 1000000) (z : Int32) : ∃ sy' : Nat → Int32, (∀ post : SX → Prop, post (pl, wc, rc, tc, nI (s + 1), dk, ex, tr, ps, ct, wl, wm, rv, rs, rn, re, ty, se, sy') → wpX_say post (pl, wc, rc, tc, nI s, dk, ex, tr, ps, ct, wl, wm, rv, rs, rn, re, ty, se, sy) z) ∧ (∀ (post : SY → Prop) (x2 x3 x4 : Int32), wY_act_59 post x2 x3 x4 pl rc wc tc (nI (s + 1)) dk ex tr ps ct rv rs rn re ll wm ty sy' → ((40 ≤ nI s → (wY_act_49 post x2 x3 x4 pl rc wc tc (nI s) dk ex tr ps ct rv rs rn re ll wm ty sy)) ∧ (¬ 40 ≤ nI s → (vp_in (nI s) 40 ∧ ∀ a_36 : Nat → Int32, a_36 = upd sy (nI s).toNatClampNeg z → (wY_act_49 post x2 x3 x4 pl rc wc tc (nI s) dk ex tr ps ct rv rs rn re ll wm ty a_36))))) := by
  have hb : ¬ (2147483647 : Int32) ≤ nI s := nI_ge (b := 2147483647) (by omega) (by decide)
  by_cases h4 : s < 40
  · have h4' : ¬ (40 : Int32) ≤ nI s := nI_ge (b := 40) h4 (by decide)
    have hv : vp_in (nI s) 40 := vp_in_nI h4 (by decide)
    refine ⟨upd sy (nI s).toNatClampNeg z, fun post h => br_f h4' ⟨hv, nm_e (br_f hb (nm_r (nI_1 s) h))⟩, fun post x2 x3 x4 h => br_f h4' ⟨hv, nm_e (nm_r (nI_1 s) h)⟩⟩
  · have h4' : (40 : Int32) ≤ nI s := nI_le (a := 40) (by omega) (by omega)
    exact ⟨sy, fun post h => br_t h4' (br_f hb (nm_r (nI_1 s) h)), fun post x2 x3 x4 h => br_t h4' (nm_r (nI_1 s) h)⟩
theorem sw_eff {q s : Nat} (hq : sw_ev q) (hp : sw_R 16 ps) (hl : sw_I 6 pl) (hs : s < 1000000) : ∃ (pl' : Int32) (ps' ct' sy' : Nat → Int32) (s' : Nat), sw_I 6 pl' ∧ sw_R 16 ps' ∧ s' ≤ s + 1 ∧ (∀ post : SX → Prop, post (pl', wc, rc, tc, nI s', dk, ex, tr, ps', ct', wl, wm, rv, rs, rn, re, ty, se, sy') → wpX_takeEffect post (pl, wc, rc, tc, nI s, dk, ex, tr, ps, ct, wl, wm, rv, rs, rn, re, ty, se, sy) (nI q)) ∧ (∀ post : SY → Prop, post (pl', rc, wc, tc, nI s', dk, ex, tr, ps', ct', rv, rs, rn, re, ll, wm, ty, sy') → wpY_act post (pl, rc, wc, tc, nI s, dk, ex, tr, ps, ct, rv, rs, rn, re, ll, wm, ty, sy) (nI q)) := by
  obtain ⟨hq2, hk⟩ := hq
  rcases hk with k0 | ⟨k1, ha⟩ | ⟨k2, ha⟩ | ⟨k3, ha⟩
  · have e3 : nI q &&& 3 = 0 := by rw [sw_and3 hq2, k0]; rfl
    obtain ⟨sy', hX, hY⟩ := sw_say (pl := pl) (wc := wc) (rc := rc) (tc := tc) (dk := dk) (ex := ex) (tr := tr) (ps := ps) (ct := ct) (wl := wl) (wm := wm) (rv := rv) (rs := rs) (rn := rn) (re := re) (ty := ty) (se := se) (sy := sy) (ll := ll) hs (nI (q / 4 % 16) + (16 * nI (q / 64 % 16)))
    refine ⟨pl, ps, ct, sy', s + 1, hl, hp, Nat.le_refl _, fun post h => sw_xef hq2 e3 (br_f (by decide) (br_f (by decide) (br_t rfl (hX post h)))), fun post h => nm_r e3 (nm_r (sw_first hq2) (nm_r (sw_second hq2) (br_t rfl (hY post _ _ _ ?_))))⟩
    exact br_f (by decide) (br_f (by decide) (br_f (by decide) h))
  · have e3 : nI q &&& 3 = 1 := by rw [sw_and3 hq2, k1]; rfl
    have hv : vp_in (nI (q / 4 % 16)) 8 := vp_in_nI ha (by decide)
    have hm := sw_and7' ha
    cases hw : sw_w (sw_n ps) (q / 4 % 16) 8 (q / 64 % 16)
    · refine ⟨pl, upd ps (nI (q / 4 % 16)).toNatClampNeg (nI (q / 64 % 16)), ct, sy, s, hl, sw_R_u hp _ (by omega), by omega, fun post h => sw_xef hq2 e3 (br_f (by decide) (br_f (by decide) (br_f (by decide) (br_t rfl (sw_xw hp ha (by omega) ?_))))), fun post h => nm_r e3 (nm_r (sw_first hq2) (nm_r (sw_second hq2) (br_f (by decide) (br_t rfl ?_))))⟩
      · rw [hw]
        exact br_t rfl ⟨hv, nm_e h⟩
      · rw [hm]
        refine sw_ycb hp ha (by omega) ?_
        rw [hw]
        exact br_f (by decide) ⟨hv, nm_e (br_f (by decide) (br_f (by decide) h))⟩
    · refine ⟨pl, ps, ct, sy, s, hl, hp, by omega, fun post h => sw_xef hq2 e3 (br_f (by decide) (br_f (by decide) (br_f (by decide) (br_t rfl (sw_xw hp ha (by omega) ?_))))), fun post h => nm_r e3 (nm_r (sw_first hq2) (nm_r (sw_second hq2) (br_f (by decide) (br_t rfl ?_))))⟩
      · rw [hw]
        exact br_f (by decide) h
      · rw [hm]
        refine sw_ycb hp ha (by omega) ?_
        rw [hw]
        exact br_t rfl (br_f (by decide) (br_f (by decide) h))
  · have e3 : nI q &&& 3 = 2 := by rw [sw_and3 hq2, k2]; rfl
    have hv : vp_in (nI (q / 4 % 16)) 4 := vp_in_nI ha (by decide)
    have hm := sw_and3' ha
    refine ⟨pl, ps, upd ct (nI (q / 4 % 16)).toNatClampNeg ((ct (nI (q / 4 % 16)).toNatClampNeg) + (nI (q / 64 % 16) - 8)), sy, s, hl, hp, by omega, fun post h => sw_xef hq2 e3 (br_f (by decide) (br_f (by decide) (br_f (by decide) (br_f (by decide) (br_t rfl ⟨hv, hv, nm_e h⟩))))), fun post h => nm_r e3 (nm_r (sw_first hq2) (nm_r (sw_second hq2) (br_f (by decide) (br_f (by decide) (br_t rfl ?_)))))⟩
    rw [hm]
    exact ⟨hv, hv, nm_e (br_f (by decide) h)⟩
  · have e3 : nI q &&& 3 = 3 := by rw [sw_and3 hq2, k3]; rfl
    exact ⟨nI (q / 4 % 16), ps, ct, sy, s, ⟨_, ha, rfl⟩, hp, by omega, fun post h => sw_xef hq2 e3 (br_f (by decide) (br_t (by decide) h)), fun post h => nm_r e3 (nm_r (sw_first hq2) (nm_r (sw_second hq2) (br_f (by decide) (br_f (by decide) (br_f (by decide) (br_t rfl h))))))⟩
end
end
section
/-! the rules in order, then the command -/
def sw_C (rn : Nat → Int32) : Prop := ∀ j, ∃ q, sw_cv q ∧ rn j = nI q
def sw_E (re : Nat → Int32) : Prop := ∀ j, ∃ q, sw_ev q ∧ re j = nI q
section
variable {pl wc rc tc sc : Int32} {dk ex tr ps ct wl wm rv rs rn re ty se sy ll : Nat → Int32}
theorem sw_x41n {post : Int32 → SX → Prop} {J : Int32 → Int32 → Int32 → Int32 → Int32 → Int32 → Int32 → (Nat → Int32) → (Nat → Int32) → (Nat → Int32) → (Nat → Int32) → (Nat → Int32) → (Nat → Int32) → (Nat → Int32) → (Nat → Int32) → (Nat → Int32) → (Nat → Int32) → (Nat → Int32) → (Nat → Int32) → (Nat → Int32) → (Nat → Int32) → Prop} {vb x st z0 : Int32} {i : Nat} (hi : i < 16) (hz : rv i = vb → z0 = 0) (h : J st (nI (i + 1)) pl wc rc tc sc dk ex tr ps ct wl wm rv rs rn re ty se sy) : wX_rulesStop_41 post J vb x st (nI i) z0 pl wc rc tc sc dk ex tr ps ct wl wm rv rs rn re ty se sy := by
  have hv : vp_in (nI i) 16 := vp_in_nI hi (by decide)
  have hc : (nI i).toNatClampNeg = i := nI_clamp (by omega)
  refine ⟨hv, ?_⟩
  rw [hc]
  by_cases e : rv i = vb
  · exact br_t e (br_t (hz e) (nm_r (nI_1 i) h))
  · exact br_f e (nm_r (nI_1 i) h)
theorem sw_xhead {post : Int32 → SX → Prop} {vb x st : Int32} {i n r : Nat} (hi : i < r) (hr : r ≤ 16) (h1 : rv i = vb → (rs i = x ∨ rs i = -1) → wX_rulesStop_41 post (wX_rulesStop_5 post vb x n) vb x st (nI i) 1 pl wc (nI r) tc sc dk ex tr ps ct wl wm rv rs rn re ty se sy) (h2 : ¬ (rv i = vb ∧ (rs i = x ∨ rs i = -1)) → wX_rulesStop_5 post vb x n st (nI (i + 1)) pl wc (nI r) tc sc dk ex tr ps ct wl wm rv rs rn re ty se sy) : wX_rulesStop_5 post vb x (n + 1) st (nI i) pl wc (nI r) tc sc dk ex tr ps ct wl wm rv rs rn re ty se sy := by
  have hv : vp_in (nI i) 16 := vp_in_nI (by omega) (by decide)
  have hc : (nI i).toNatClampNeg = i := nI_clamp (by omega)
  refine br_f (nI_ge hi (by omega)) ⟨hv, ?_⟩
  rw [hc]
  by_cases e1 : rs i = x
  · refine br_t e1 ?_
    by_cases e2 : rv i = vb
    · exact h1 e2 (Or.inl e1)
    · exact sw_x41n (by omega) (fun z => absurd z e2) (h2 (fun z => e2 z.1))
  · refine br_f e1 ⟨hv, ?_⟩
    by_cases e3 : rs i = -1
    · refine br_t e3 ?_
      by_cases e2 : rv i = vb
      · exact h1 e2 (Or.inr e3)
      · exact sw_x41n (by omega) (fun z => absurd z e2) (h2 (fun z => e2 z.1))
    · exact br_f e3 (sw_x41n (by omega) (fun _ => rfl) (h2 (fun z => z.2.elim e1 e3)))
theorem sw_yhead {post : Int32 → SY → Prop} {vb x y st : Int32} {i n r : Nat} (hi : i < r) (hr : r ≤ 16) (h1 : rv i = vb → (rs i = x ∨ rs i = -1) → wY_carryOut_48 post (wY_carryOut_6 post vb x y n) vb x y st (nI i) pl (nI r) wc tc sc dk ex tr ps ct rv rs rn re ll wm ty sy) (h2 : ¬ (rv i = vb ∧ (rs i = x ∨ rs i = -1)) → wY_carryOut_6 post vb x y n st (nI (i + 1)) pl (nI r) wc tc sc dk ex tr ps ct rv rs rn re ll wm ty sy) : wY_carryOut_6 post vb x y (n + 1) st (nI i) pl (nI r) wc tc sc dk ex tr ps ct rv rs rn re ll wm ty sy := by
  have hv : vp_in (nI i) 16 := vp_in_nI (by omega) (by decide)
  have hc : (nI i).toNatClampNeg = i := nI_clamp (by omega)
  refine br_f (nI_ge hi (by omega)) ⟨hv, ?_⟩
  rw [hc]
  by_cases e2 : rv i = vb
  · refine br_t e2 ⟨hv, ?_⟩
    by_cases e1 : rs i = x
    · exact br_t e1 (h1 e2 (Or.inl e1))
    · refine br_f e1 ⟨hv, ?_⟩
      by_cases e3 : rs i = -1
      · exact br_t e3 (h1 e2 (Or.inr e3))
      · exact br_f e3 (nm_r (nI_1 i) (h2 (fun z => z.2.elim e1 e3)))
  · exact br_f e2 (nm_r (nI_1 i) (h2 (fun z => e2 z.1)))
theorem sw_body {vb x y : Int32} {s i : Nat} (hi : i < 16) (hn : sw_C rn) (he : sw_E re) (hp : sw_R 16 ps) (ht : sw_R 16 tr) (hl : sw_I 6 pl) (hs : s < 1000000) (hv : rv i = vb) (st : Bool) : ∃ (st' : Bool) (pl' : Int32) (ps' ct' sy' : Nat → Int32) (s' : Nat), sw_I 6 pl' ∧ sw_R 16 ps' ∧ s' ≤ s + 1 ∧ (∀ (post : Int32 → SX → Prop) (J : Int32 → Int32 → Int32 → Int32 → Int32 → Int32 → Int32 → (Nat → Int32) → (Nat → Int32) → (Nat → Int32) → (Nat → Int32) → (Nat → Int32) → (Nat → Int32) → (Nat → Int32) → (Nat → Int32) → (Nat → Int32) → (Nat → Int32) → (Nat → Int32) → (Nat → Int32) → (Nat → Int32) → (Nat → Int32) → Prop), J (sw_b st') (nI (i + 1)) pl' wc rc tc (nI s') dk ex tr ps' ct' wl wm rv rs rn re ty se sy' → wX_rulesStop_41 post J vb x (sw_b st) (nI i) 1 pl wc rc tc (nI s) dk ex tr ps ct wl wm rv rs rn re ty se sy) ∧ (∀ (post : Int32 → SY → Prop) (J : Int32 → Int32 → Int32 → Int32 → Int32 → Int32 → Int32 → (Nat → Int32) → (Nat → Int32) → (Nat → Int32) → (Nat → Int32) → (Nat → Int32) → (Nat → Int32) → (Nat → Int32) → (Nat → Int32) → (Nat → Int32) → (Nat → Int32) → (Nat → Int32) → (Nat → Int32) → (Nat → Int32) → Prop), J (sw_b st') (nI (i + 1)) pl' rc wc tc (nI s') dk ex tr ps' ct' rv rs rn re ll wm ty sy' → wY_carryOut_48 post J vb x y (sw_b st) (nI i) pl rc wc tc (nI s) dk ex tr ps ct rv rs rn re ll wm ty sy) := by
  have hvi : vp_in (nI i) 16 := vp_in_nI hi (by decide)
  have hc : (nI i).toNatClampNeg = i := nI_clamp (by omega)
  obtain ⟨q, hq, eq⟩ := hn i
  obtain ⟨q2, hq2, eq2⟩ := he i
  obtain ⟨b, hX, hY⟩ := sw_holds (pl := pl) (wc := wc) (rc := rc) (tc := tc) (sc := nI s) (dk := dk) (ex := ex) (tr := tr) (ps := ps) (ct := ct) (wl := wl) (wm := wm) (rv := rv) (rs := rs) (rn := rn) (re := re) (ty := ty) (se := se) (sy := sy) (ll := ll) hq ht
  cases b
  · refine ⟨st, pl, ps, ct, sy, s, hl, hp, by omega, fun post J h => ?_, fun post J h => ?_⟩
    · refine ⟨hvi, ?_⟩
      rw [hc]
      refine br_t hv (br_f (by decide) ⟨hvi, ?_⟩)
      rw [eq]
      exact hX _ (br_t rfl (nm_r (nI_1 i) h))
    · refine ⟨hvi, ?_⟩
      rw [hc, eq]
      exact hY _ (br_t rfl (nm_r (nI_1 i) h))
  · obtain ⟨pl', ps', ct', sy', s', hl', hp', hs', hX2, hY2⟩ := sw_eff (pl := pl) (wc := wc) (rc := rc) (tc := tc) (dk := dk) (ex := ex) (tr := tr) (ps := ps) (ct := ct) (wl := wl) (wm := wm) (rv := rv) (rs := rs) (rn := rn) (re := re) (ty := ty) (se := se) (sy := sy) (ll := ll) hq2 hp hl hs
    have hstop := sw_stop q2 hq2.1
    by_cases e : nI q2 &&& 1024 = 0
    · have e' : nI q2 < 1024 := Int32.not_le.mp (hstop.mp e)
      refine ⟨st, pl', ps', ct', sy', s', hl', hp', hs', fun post J h => ?_, fun post J h => ?_⟩
      · refine ⟨hvi, ?_⟩
        rw [hc]
        refine br_t hv (br_f (by decide) ⟨hvi, ?_⟩)
        rw [eq]
        refine hX _ (br_f (by decide) ⟨hvi, ?_⟩)
        rw [eq2]
        refine hX2 _ ?_
        cases st
        · refine br_t rfl ⟨hvi, ?_⟩
          rw [eq2]
          exact br_t e (nm_r (nI_1 i) h)
        · exact br_f (by decide) (nm_r (nI_1 i) h)
      · refine ⟨hvi, ?_⟩
        rw [hc, eq]
        refine hY _ (br_f (by decide) ⟨hvi, ?_⟩)
        rw [eq2]
        refine hY2 _ ⟨hvi, ?_⟩
        rw [eq2]
        exact br_t e' (nm_r (nI_1 i) h)
    · have e' : ¬ nI q2 < 1024 := fun z => e (hstop.mpr (Int32.not_le.mpr z))
      refine ⟨true, pl', ps', ct', sy', s', hl', hp', hs', fun post J h => ?_, fun post J h => ?_⟩
      · refine ⟨hvi, ?_⟩
        rw [hc]
        refine br_t hv (br_f (by decide) ⟨hvi, ?_⟩)
        rw [eq]
        refine hX _ (br_f (by decide) ⟨hvi, ?_⟩)
        rw [eq2]
        refine hX2 _ ?_
        cases st
        · refine br_t rfl ⟨hvi, ?_⟩
          rw [eq2]
          exact br_f e (nm_r (nI_1 i) h)
        · exact br_f (by decide) (nm_r (nI_1 i) h)
      · refine ⟨hvi, ?_⟩
        rw [hc, eq]
        refine hY _ (br_f (by decide) ⟨hvi, ?_⟩)
        rw [eq2]
        refine hY2 _ ⟨hvi, ?_⟩
        rw [eq2]
        exact br_f e' (nm_r (nI_1 i) h)
theorem sw_rules {vb x y : Int32} {r : Nat} (hr : r ≤ 16) (hn : sw_C rn) (he : sw_E re) (ht : sw_R 16 tr) : ∀ (d i : Nat) (pl : Int32) (ps ct sy : Nat → Int32) (s : Nat) (st : Bool), i + d = r → sw_I 6 pl → sw_R 16 ps → s + d < 1000000 → ∃ (st' : Bool) (pl' : Int32) (ps' ct' sy' : Nat → Int32) (s' : Nat), sw_I 6 pl' ∧ sw_R 16 ps' ∧ s' ≤ s + d ∧ (∀ post : Int32 → SX → Prop, post (sw_b st') (pl', wc, nI r, tc, nI s', dk, ex, tr, ps', ct', wl, wm, rv, rs, rn, re, ty, se, sy') → wX_rulesStop_5 post vb x (d + 1) (sw_b st) (nI i) pl wc (nI r) tc (nI s) dk ex tr ps ct wl wm rv rs rn re ty se sy) ∧ (∀ (post : Int32 → SY → Prop) (n : Nat), wY_carryOut_6 post vb x y (n + 1) (sw_b st') (nI r) pl' (nI r) wc tc (nI s') dk ex tr ps' ct' rv rs rn re ll wm ty sy' → wY_carryOut_6 post vb x y (n + 1 + d) (sw_b st) (nI i) pl (nI r) wc tc (nI s) dk ex tr ps ct rv rs rn re ll wm ty sy) := by
  intro d
  induction d with
  | zero =>
    intro i pl ps ct sy s st hi hl hp hs
    obtain rfl : i = r := by omega
    exact ⟨st, pl, ps, ct, sy, s, hl, hp, by omega, fun post h => br_t (Int32.le_refl _) ⟨sw_nbb st, h⟩, fun post n h => h⟩
  | succ d ih =>
    intro i pl ps ct sy s st hi hl hp hs
    by_cases hM : rv i = vb ∧ (rs i = x ∨ rs i = -1)
    · obtain ⟨st1, pl1, ps1, ct1, sy1, s1, hl1, hp1, hs1, hX1, hY1⟩ := sw_body (pl := pl) (wc := wc) (rc := nI r) (tc := tc) (dk := dk) (ex := ex) (tr := tr) (ps := ps) (ct := ct) (wl := wl) (wm := wm) (rv := rv) (rs := rs) (rn := rn) (re := re) (ty := ty) (se := se) (sy := sy) (ll := ll) (vb := vb) (x := x) (y := y) (s := s) (i := i) (by omega) hn he hp ht hl (by omega) hM.1 st
      obtain ⟨st2, pl2, ps2, ct2, sy2, s2, hl2, hp2, hs2, hX2, hY2⟩ := ih (i + 1) pl1 ps1 ct1 sy1 s1 st1 (by omega) hl1 hp1 (by omega)
      refine ⟨st2, pl2, ps2, ct2, sy2, s2, hl2, hp2, by omega, fun post h => ?_, fun post n h => ?_⟩
      · exact sw_xhead (by omega) hr (fun _ _ => hX1 _ _ (hX2 post h)) (fun z => absurd hM z)
      · exact sw_yhead (by omega) hr (fun _ _ => hY1 _ _ (hY2 post n h)) (fun z => absurd hM z)
    · obtain ⟨st2, pl2, ps2, ct2, sy2, s2, hl2, hp2, hs2, hX2, hY2⟩ := ih (i + 1) pl ps ct sy s st (by omega) hl hp (by omega)
      refine ⟨st2, pl2, ps2, ct2, sy2, s2, hl2, hp2, by omega, fun post h => ?_, fun post n h => ?_⟩
      · exact sw_xhead (by omega) hr (fun a b => absurd ⟨a, b⟩ hM) (fun _ => hX2 post h)
      · exact sw_yhead (by omega) hr (fun a b => absurd ⟨a, b⟩ hM) (fun _ => hY2 post n h)
theorem sw_perform {r s vb x : Nat} {y : Int32} (hr : r ≤ 16) (hn : sw_C rn) (he : sw_E re) (ht : sw_R 16 tr) (hl : sw_I 6 pl) (hp : sw_R 16 ps) (hx : sw_X ex) (hs : s < 900000) (hvb : vb < 6) (hx8 : x < 8) (hx4 : vb = 0 → x < 4) (hy : vb = 3 → sw_I 8 y) : ∃ (a pl' : Int32) (tr' ps' ct' sy' : Nat → Int32) (s' : Nat), sw_I 6 pl' ∧ sw_R 16 tr' ∧ sw_R 16 ps' ∧ s' ≤ s + 16 ∧ (∀ post : Int32 → SX → Prop, post a (pl', wc, nI r, tc, nI s', dk, ex, tr', ps', ct', wl, wm, rv, rs, rn, re, ty, se, sy') → wpX_perform post (pl, wc, nI r, tc, nI s, dk, ex, tr, ps, ct, wl, wm, rv, rs, rn, re, ty, se, sy) (nI vb) (nI x) y) ∧ (∀ post : Int32 → SY → Prop, post a (pl', nI r, wc, tc, nI s', dk, ex, tr', ps', ct', rv, rs, rn, re, ll, wm, ty, sy') → wpY_carryOut post (pl, nI r, wc, tc, nI s, dk, ex, tr, ps, ct, rv, rs, rn, re, ll, wm, ty, sy) (nI vb) (nI x) y) := by
  obtain ⟨st, pl1, ps1, ct1, sy1, s1, hl1, hp1, hs1, hX, hY⟩ := sw_rules (wc := wc) (tc := tc) (dk := dk) (ex := ex) (tr := tr) (wl := wl) (wm := wm) (rv := rv) (rs := rs) (rn := rn) (re := re) (ty := ty) (se := se) (ll := ll) (vb := nI vb) (x := nI x) (y := y) hr hn he ht r 0 pl ps ct sy s false (by omega) hl hp (by omega)
  cases st
  · have hc : vb = 0 ∨ vb = 1 ∨ vb = 2 ∨ vb = 3 ∨ vb = 4 ∨ vb = 5 := by omega
    rcases hc with rfl | rfl | rfl | rfl | rfl | rfl
    · obtain ⟨a, pl2, hl2, gX, gY⟩ := sw_go (pl := pl1) (wc := wc) (rc := nI r) (tc := tc) (sc := nI s1) (dk := dk) (ex := ex) (tr := tr) (ps := ps1) (ct := ct1) (wl := wl) (wm := wm) (rv := rv) (rs := rs) (rn := rn) (re := re) (ty := ty) (se := se) (sy := sy1) (ll := ll) hl1 hx (hx4 rfl)
      refine ⟨a, pl2, tr, ps1, ct1, sy1, s1, hl2, ht, hp1, by omega, fun post h => ?_, fun post h => ?_⟩
      · exact ⟨r + 1, hX _ (br_t rfl (br_f (by decide) (br_f (by decide) (br_t rfl (gX _ h)))))⟩
      · exact ⟨0 + 1 + r, hY _ 0 (br_t (Int32.le_refl _) (br_t rfl (br_t rfl (gY _ h))))⟩
    · obtain ⟨a, ps2, hp2, gX, gY⟩ := sw_take (pl := pl1) (wc := wc) (rc := nI r) (tc := tc) (sc := nI s1) (dk := dk) (ex := ex) (tr := tr) (ps := ps1) (ct := ct1) (wl := wl) (wm := wm) (rv := rv) (rs := rs) (rn := rn) (re := re) (ty := ty) (se := se) (sy := sy1) (ll := ll) hp1 hl1 hx8
      refine ⟨a, pl1, tr, ps2, ct1, sy1, s1, hl1, ht, hp2, by omega, fun post h => ?_, fun post h => ?_⟩
      · exact ⟨r + 1, hX _ (br_t rfl (br_f (by decide) (br_f (by decide) (br_f (by decide) (br_t rfl (gX _ h))))))⟩
      · exact ⟨0 + 1 + r, hY _ 0 (br_t (Int32.le_refl _) (br_t rfl (br_f (by decide) (br_t rfl (gY _ h)))))⟩
    · have hv : vp_in (nI x) 8 := vp_in_nI hx8 (by decide)
      have hcx : (nI x).toNatClampNeg = x := nI_clamp (by omega)
      obtain ⟨m, hm, rfl⟩ := hl1
      by_cases h6 : ps1 x = 6
      · refine ⟨0, nI m, tr, upd ps1 x (nI m), ct1, sy1, s1, ⟨m, hm, rfl⟩, ht, sw_R_u hp1 x (by omega), by omega, fun post h => ?_, fun post h => ?_⟩
        · refine ⟨r + 1, hX _ (br_t rfl (br_f (by decide) (br_f (by decide) (br_f (by decide) (br_f (by decide) (br_t rfl ?_))))))⟩
          unfold wpX_performDrop
          refine sw_xheld hx8 ?_
          rw [decide_eq_true h6]
          exact br_f (by decide) ⟨hv, nm_r (by rw [hcx]) h⟩
        · refine ⟨0 + 1 + r, hY _ 0 (br_t (Int32.le_refl _) (br_t rfl (br_f (by decide) (br_f (by decide) (br_t rfl ⟨hv, ?_⟩)))))⟩
          rw [hcx]
          exact br_t h6 ⟨hv, nm_e h⟩
      · refine ⟨6, nI m, tr, ps1, ct1, sy1, s1, ⟨m, hm, rfl⟩, ht, hp1, by omega, fun post h => ?_, fun post h => ?_⟩
        · refine ⟨r + 1, hX _ (br_t rfl (br_f (by decide) (br_f (by decide) (br_f (by decide) (br_f (by decide) (br_t rfl ?_))))))⟩
          unfold wpX_performDrop
          refine sw_xheld hx8 ?_
          rw [decide_eq_false h6]
          exact br_t rfl h
        · refine ⟨0 + 1 + r, hY _ 0 (br_t (Int32.le_refl _) (br_t rfl (br_f (by decide) (br_f (by decide) (br_t rfl ⟨hv, ?_⟩)))))⟩
          rw [hcx]
          exact br_f h6 h
    · obtain ⟨y2, hy2, rfl⟩ := hy rfl
      obtain ⟨a, ps2, hp2, gX, gY⟩ := sw_put (pl := pl1) (wc := wc) (rc := nI r) (tc := tc) (sc := nI s1) (dk := dk) (ex := ex) (tr := tr) (ps := ps1) (ct := ct1) (wl := wl) (wm := wm) (rv := rv) (rs := rs) (rn := rn) (re := re) (ty := ty) (se := se) (sy := sy1) (ll := ll) hp1 hl1 hx8 hy2
      refine ⟨a, pl1, tr, ps2, ct1, sy1, s1, hl1, ht, hp2, by omega, fun post h => ?_, fun post h => ?_⟩
      · exact ⟨r + 1, hX _ (br_t rfl (br_f (by decide) (br_f (by decide) (br_f (by decide) (br_f (by decide) (br_f (by decide) (br_t rfl (gX _ h))))))))⟩
      · exact ⟨0 + 1 + r, hY _ 0 (br_t (Int32.le_refl _) (br_t rfl (br_f (by decide) (br_f (by decide) (br_f (by decide) (br_t rfl (gY _ h)))))))⟩
    · obtain ⟨a, tr2, ht2, gX, gY⟩ := sw_turn (pl := pl1) (wc := wc) (rc := nI r) (tc := tc) (sc := nI s1) (dk := dk) (ex := ex) (tr := tr) (ps := ps1) (ct := ct1) (wl := wl) (wm := wm) (rv := rv) (rs := rs) (rn := rn) (re := re) (ty := ty) (se := se) (sy := sy1) (ll := ll) hp1 ht hl1 hx8 1
      refine ⟨a, pl1, tr2, ps1, ct1, sy1, s1, hl1, ht2, hp1, by omega, fun post h => ?_, fun post h => ?_⟩
      · exact ⟨r + 1, hX _ (br_t rfl (br_f (by decide) (br_f (by decide) (br_f (by decide) (br_f (by decide) (br_f (by decide) (br_f (by decide) (br_t rfl (gX _ h)))))))))⟩
      · exact ⟨0 + 1 + r, hY _ 0 (br_t (Int32.le_refl _) (br_t rfl (br_f (by decide) (br_f (by decide) (br_f (by decide) (br_f (by decide) (br_t rfl (gY _ h))))))))⟩
    · obtain ⟨a, tr2, ht2, gX, gY⟩ := sw_turn (pl := pl1) (wc := wc) (rc := nI r) (tc := tc) (sc := nI s1) (dk := dk) (ex := ex) (tr := tr) (ps := ps1) (ct := ct1) (wl := wl) (wm := wm) (rv := rv) (rs := rs) (rn := rn) (re := re) (ty := ty) (se := se) (sy := sy1) (ll := ll) hp1 ht hl1 hx8 0
      refine ⟨a, pl1, tr2, ps1, ct1, sy1, s1, hl1, ht2, hp1, by omega, fun post h => ?_, fun post h => ?_⟩
      · exact ⟨r + 1, hX _ (br_t rfl (br_f (by decide) (br_t (by decide) (gX _ h))))⟩
      · exact ⟨0 + 1 + r, hY _ 0 (br_t (Int32.le_refl _) (br_t rfl (br_f (by decide) (br_f (by decide) (br_f (by decide) (br_f (by decide) (br_f (by decide) (gY _ h))))))))⟩
  · refine ⟨1, pl1, tr, ps1, ct1, sy1, s1, hl1, ht, hp1, by omega, fun post h => ?_, fun post h => ?_⟩
    · exact ⟨r + 1, hX _ (br_f (by decide) h)⟩
    · exact ⟨0 + 1 + r, hY _ 0 (br_t (Int32.le_refl _) (br_f (by decide) h))⟩
end
end
section
/-! words: letters, meanings, finding -/
def sw_al : Nat → Nat → Bool
  | 0, _ => true
  | d + 1, n => if n = 0 then true else if n % 27 = 0 then false else sw_al d (n / 27)
def sw_iw (n : Nat) : Nat → Nat → Bool
  | 0, _ => true
  | d + 1, i => if n / 27 ^ i % 27 = 0 then sw_iw n d (i + 1) else if n / 27 ^ (i - 1) % 27 = 0 then false else sw_iw n d (i + 1)
theorem sw_al_ok {n : Nat} (h : n < 531441) (h0 : 0 < n) : sw_al 4 n = true ↔ sw_ok n := by
  rw [sw_ok_iff h]
  simp only [sw_al]
  by_cases h1 : n % 27 = 0
  · rw [if_neg (by omega), if_pos h1]
    constructor
    · intro z; exact absurd z (by decide)
    · intro z; exact absurd h1 z.1
  · rw [if_neg (by omega), if_neg h1]
    by_cases h2 : n / 27 = 0
    · rw [if_pos h2]
      constructor
      · intro _; omega
      · intro _; rfl
    · rw [if_neg h2]
      by_cases h3 : n / 27 % 27 = 0
      · rw [if_pos h3]
        constructor
        · intro z; exact absurd z (by decide)
        · intro z; exact absurd h3 (z.2.1 (by omega))
      · rw [if_neg h3]
        by_cases h4 : n / 27 / 27 = 0
        · rw [if_pos h4]
          constructor
          · intro _; omega
          · intro _; rfl
        · rw [if_neg h4]
          by_cases h5 : n / 27 / 27 % 27 = 0
          · rw [if_pos h5]
            constructor
            · intro z; exact absurd z (by decide)
            · intro z; have := z.2.2; omega
          · rw [if_neg h5]
            constructor
            · intro _; omega
            · intro _
              split
              · rfl
              · split
                · omega
                · rfl
theorem sw_iw_ok {n : Nat} (h0 : ¬ n % 27 = 0) : sw_iw n 3 1 = true ↔ sw_ok n := by
  have e0 : n / 27 ^ (1 - 1) % 27 = n % 27 := by rw [show 27 ^ (1 - 1) = 1 from rfl, Nat.div_one]
  have e1 : n / 27 ^ 1 % 27 = n / 27 % 27 := rfl
  have e1' : n / 27 ^ (1 + 1 - 1) % 27 = n / 27 % 27 := rfl
  have e2 : n / 27 ^ (1 + 1) % 27 = n / 729 % 27 := rfl
  have e2' : n / 27 ^ (1 + 1 + 1 - 1) % 27 = n / 729 % 27 := rfl
  have e3 : n / 27 ^ (1 + 1 + 1) % 27 = n / 19683 % 27 := rfl
  unfold sw_ok
  simp only [sw_iw]
  rw [e0, e1, e1', e2, e2', e3, if_neg h0]
  by_cases h2 : n / 729 % 27 = 0
  · by_cases h3 : n / 19683 % 27 = 0
    · simp only [h0, h2, h3, if_true]
      by_cases h1 : n / 27 % 27 = 0
      · rw [if_pos h1]; simp only [not_false_eq_true, implies_true, and_self, ne_eq]; exact ⟨fun _ => ⟨h0, trivial⟩, fun _ => trivial⟩
      · rw [if_neg h1]; simp only [not_false_eq_true, implies_true, and_self, ne_eq]; exact ⟨fun _ => ⟨h0, trivial⟩, fun _ => trivial⟩
    · rw [if_pos h2, if_neg h3, if_pos h2]
      constructor
      · intro z
        split at z <;> exact absurd z (by decide)
      · intro z
        exact absurd (z.2.2 h2) h3
  · by_cases h1 : n / 27 % 27 = 0
    · rw [if_pos h1, if_neg h2, if_pos h1]
      constructor
      · intro z; exact absurd z (by decide)
      · intro z; exact absurd (z.2.1 h1) h2
    · rw [if_neg h1, if_neg h2, if_neg h1, if_neg h2]
      constructor
      · intro _
        exact ⟨h0, fun z => absurd z h1, fun z => absurd z h2⟩
      · intro _
        split <;> rfl
def sw_O (x : Int32) : Prop := ∃ n, n < 531441 ∧ sw_ok n ∧ x = nI n
def sw_Mn (x : Int32) : Prop := sw_I 6 x ∨ sw_I 4 (x - 10) ∨ sw_I 8 (x - 20) ∨ x = 30
theorem sw_Mn_31 {x : Int32} (h : sw_Mn x) : sw_I 31 x := by
  rcases h with ⟨j, hj, rfl⟩ | h | h | rfl
  · exact ⟨j, by omega, rfl⟩
  · obtain ⟨j, hj, rfl⟩ := (sw_sub (a := 10)).mp h
    exact ⟨10 + j, by omega, rfl⟩
  · obtain ⟨j, hj, rfl⟩ := (sw_sub (a := 20)).mp h
    exact ⟨20 + j, by omega, rfl⟩
  · exact ⟨30, by decide, rfl⟩
theorem sw_xmean {post : Int32 → Prop} {x : Int32} (h1 : sw_Mn x → post 1) (h0 : ¬ sw_Mn x → post 0) : wpX_isMeaning post x := by
  unfold wpX_isMeaning
  rw [sw_xVerb]
  refine ⟨fun a => br_f sw_n10 (h1 (Or.inl a)), fun a => br_t rfl ?_⟩
  rw [sw_xMD]
  refine ⟨fun b => br_f sw_n10 (h1 (Or.inr (Or.inl b))), fun b => br_t rfl ?_⟩
  rw [sw_xMT]
  refine ⟨fun c => br_f sw_n10 (h1 (Or.inr (Or.inr (Or.inl c)))), fun c => br_t rfl (br_c (fun d => h1 (Or.inr (Or.inr (Or.inr d)))) (fun d => h0 ?_))⟩
  exact fun z => z.elim a (fun z => z.elim b (fun z => z.elim c d))
theorem sw_xal17 {post : Int32 → Prop} : ∀ d i n : Nat, i + d = 4 → n < 531441 → post (sw_b (sw_al d n)) → wX_areLetters_17 post (d + 1) (nI n) (nI i) := by
  intro d
  induction d with
  | zero =>
    intro i n hi hn h
    exact br_t (nI_le (a := 4) (by omega) (by omega)) h
  | succ d ih =>
    intro i n hi hn h
    have h' : post (sw_b (if n = 0 then true else if n % 27 = 0 then false else sw_al d (n / 27))) := h
    refine br_f (nI_ge (b := 4) (by omega) (by decide)) ?_
    by_cases h0 : n = 0
    · rw [if_pos h0] at h'
      exact br_t (nI_le (b := 0) (by omega) (by decide)) h'
    · rw [if_neg h0] at h'
      have er : nI n - nI n / 27 * 27 = nI (n % 27) := pk_rem (d := 27) (by omega) (by decide) (by decide)
      have ed : nI n / 27 = nI (n / 27) := pk_div (d := 27) (by omega) (by decide) (by decide)
      refine br_f (nI_nle (by omega) (by omega)) ⟨by decide, ?_⟩
      rw [er]
      by_cases h1 : n % 27 = 0
      · rw [if_pos h1] at h'
        exact br_t ((nI_eq (b := 0) (by omega) (by decide)).mpr h1) h'
      · rw [if_neg h1] at h'
        exact br_f (fun z => h1 ((nI_eq (b := 0) (by omega) (by decide)).mp z)) ⟨by decide, nm_r ed (nm_r (nI_1 i) (ih (i + 1) (n / 27) (by omega) (by omega) h'))⟩
theorem sw_xletters {post : Int32 → Prop} {x : Int32} (h1 : sw_O x → post 1) (h0 : ¬ sw_O x → post 0) : wpX_areLetters post x := by
  by_cases a : x < 1
  · refine br_t a (h0 ?_)
    rintro ⟨n, hn, hok, rfl⟩
    have := (nI_ltI (b := 1) (by omega) (by decide)).mp a
    have := hok.1
    omega
  · refine br_f a ?_
    have hx0 : ¬ x < 0 := fun z => a (Int32.lt_trans z (by decide))
    obtain ⟨n, hn, rfl⟩ := nI_of hx0
    have hn1 : ¬ n < 1 := fun z => a (nI_lt (b := 1) z (by decide))
    by_cases b : n ≤ 531440
    · refine br_t (nI_le (b := 531440) b (by decide)) ⟨5, sw_xal17 4 0 n rfl (by omega) ?_⟩
      cases hb : sw_al 4 n
      · refine h0 ?_
        rintro ⟨m, hm, hok, e⟩
        rw [nI_eq hn (by omega)] at e
        subst e
        rw [(sw_al_ok (by omega) (by omega)).mpr hok] at hb
        exact absurd hb (by decide)
      · exact h1 ⟨n, by omega, (sw_al_ok (by omega) (by omega)).mp hb, rfl⟩
    · refine br_f (nI_ge (a := 531440) (by omega) hn) (h0 ?_)
      rintro ⟨m, hm, hok, e⟩
      rw [nI_eq hn (by omega)] at e
      omega
def sw_W (w : Nat) (wl ll : Nat → Int32) : Prop := ∀ i, i < w → ∃ n, n < 531441 ∧ wl i = nI n ∧ ll (4 * i) = nI (n % 27) ∧ ll (4 * i + 1) = nI (n / 27 % 27) ∧ ll (4 * i + 2) = nI (n / 729 % 27) ∧ ll (4 * i + 3) = nI (n / 19683 % 27)
section
variable {pl wc rc tc sc : Int32} {dk ex tr ps ct wl wm rv rs rn re ty se sy ll : Nat → Int32}
theorem sw_ymeans {post : Int32 → Prop} {x : Int32} (h1 : sw_Mn x → post 1) (h0 : ¬ sw_Mn x → post 0) : wpY_isMeaning post (pl, rc, wc, tc, sc, dk, ex, tr, ps, ct, rv, rs, rn, re, ll, wm, ty, sy) x := by
  unfold wpY_isMeaning
  dsimp only
  rw [sw_yin5]
  refine ⟨fun a => br_f sw_n10 (h1 (Or.inl a)), fun a => br_t rfl ?_⟩
  rw [sw_yin13]
  refine ⟨fun b => br_f sw_n10 (h1 (Or.inr (Or.inl b))), fun b => br_t rfl ?_⟩
  rw [sw_yin27]
  refine ⟨fun c => br_f sw_n10 (h1 (Or.inr (Or.inr (Or.inl c)))), fun c => br_t rfl (br_c (fun d => h1 (Or.inr (Or.inr (Or.inr d)))) (fun d => h0 ?_))⟩
  exact fun z => z.elim a (fun z => z.elim b (fun z => z.elim c d))
theorem sw_ylet5 {post : Int32 → Prop} (k : Nat) (hk : k < 100) : ∀ d i n : Nat, i + d = k → n < 2 ^ 31 → post (nI (n / 27 ^ d % 27)) → wY_letter_5 post (nI k) pl rc wc tc sc dk ex tr ps ct rv rs rn re ll wm ty sy (d + 1) (nI n) (nI i) := by
  intro d
  induction d with
  | zero =>
    intro i n hi hn h
    have er : nI n - nI n / 27 * 27 = nI (n % 27) := pk_rem (d := 27) hn (by decide) (by decide)
    have e1 : n / 27 ^ 0 % 27 = n % 27 := by rw [Nat.pow_zero, Nat.div_one]
    rw [e1, ← er] at h
    exact br_t (nI_le (by omega) (by omega)) ⟨by decide, h⟩
  | succ d ih =>
    intro i n hi hn h
    have ed : nI n / 27 = nI (n / 27) := pk_div (d := 27) hn (by decide) (by decide)
    have e1 : n / 27 ^ (d + 1) = n / 27 / 27 ^ d := by rw [Nat.pow_succ, Nat.mul_comm, Nat.div_div_eq_div_mul]
    rw [e1] at h
    exact br_f (nI_ge (by omega) (by omega)) ⟨by decide, nm_r ed (nm_r (nI_1 i) (ih (i + 1) (n / 27) (by omega) (by omega) h))⟩
theorem sw_ylet {post : Int32 → Prop} {n : Nat} (k : Nat) (hk : k < 100) (hn : n < 2 ^ 31) (h : post (nI (n / 27 ^ k % 27))) : wpY_letter post (pl, rc, wc, tc, sc, dk, ex, tr, ps, ct, rv, rs, rn, re, ll, wm, ty, sy) (nI n) (nI k) :=
  ⟨k + 1, sw_ylet5 k hk k 0 n (by omega) hn h⟩
theorem sw_yiw {post : Int32 → Prop} {n : Nat} (hn : n < 2 ^ 31) : ∀ d i : Nat, i + d = 4 → 1 ≤ i → post (sw_b (sw_iw n d i)) → wY_isWord_24 post (nI n) pl rc wc tc sc dk ex tr ps ct rv rs rn re ll wm ty sy (d + 1) (nI i) := by
  intro d
  induction d with
  | zero =>
    intro i hi h1 h
    exact br_t (nI_le (a := 4) (by omega) (by omega)) h
  | succ d ih =>
    intro i hi h1 h
    have h' : post (sw_b (if n / 27 ^ i % 27 = 0 then sw_iw n d (i + 1) else if n / 27 ^ (i - 1) % 27 = 0 then false else sw_iw n d (i + 1))) := h
    have em : nI i - 1 = nI (i - 1) := pk_sub (b := 1) h1
    refine br_f (nI_ge (b := 4) (by omega) (by decide)) (sw_ylet i (by omega) hn ?_)
    by_cases h2 : n / 27 ^ i % 27 = 0
    · rw [if_pos h2] at h'
      exact br_t ((nI_eq (b := 0) (by omega) (by decide)).mpr h2) (nm_r (nI_1 i) (ih (i + 1) (by omega) (by omega) h'))
    · rw [if_neg h2] at h'
      refine br_f (fun z => h2 ((nI_eq (b := 0) (by omega) (by decide)).mp z)) ?_
      rw [em]
      refine sw_ylet (i - 1) (by omega) hn ?_
      by_cases h3 : n / 27 ^ (i - 1) % 27 = 0
      · rw [if_pos h3] at h'
        exact br_t ((nI_eq (b := 0) (by omega) (by decide)).mpr h3) h'
      · rw [if_neg h3] at h'
        exact br_f (fun z => h3 ((nI_eq (b := 0) (by omega) (by decide)).mp z)) (nm_r (nI_1 i) (ih (i + 1) (by omega) (by omega) h'))
theorem sw_yword {post : Int32 → Prop} {x : Int32} (h1 : sw_O x → post 1) (h0 : ¬ sw_O x → post 0) : wpY_isWord post (pl, rc, wc, tc, sc, dk, ex, tr, ps, ct, rv, rs, rn, re, ll, wm, ty, sy) x := by
  unfold wpY_isWord
  dsimp only
  rw [sw_yinW]
  constructor
  · intro a
    obtain ⟨j, hj, rfl⟩ := (sw_sub (a := 1)).mp a
    refine br_f sw_n10 (sw_ylet 0 (by decide) (by omega) ?_)
    have e0 : (1 + j) / 27 ^ 0 % 27 = (1 + j) % 27 := by rw [Nat.pow_zero, Nat.div_one]
    rw [e0]
    by_cases h2 : (1 + j) % 27 = 0
    · refine br_t ((nI_eq (b := 0) (by omega) (by decide)).mpr h2) (h0 ?_)
      rintro ⟨m, hm, hok, e⟩
      rw [nI_eq (by omega) (by omega)] at e
      subst e
      exact hok.1 h2
    · refine br_f (fun z => h2 ((nI_eq (b := 0) (by omega) (by decide)).mp z)) ⟨4, sw_yiw (by omega) 3 1 rfl (by decide) ?_⟩
      cases hb : sw_iw (1 + j) 3 1
      · refine h0 ?_
        rintro ⟨m, hm, hok, e⟩
        rw [nI_eq (by omega) (by omega)] at e
        subst e
        rw [(sw_iw_ok h2).mpr hok] at hb
        exact absurd hb (by decide)
      · exact h1 ⟨1 + j, by omega, (sw_iw_ok h2).mp hb, rfl⟩
  · intro a
    refine br_t rfl (h0 ?_)
    rintro ⟨m, hm, hok, rfl⟩
    have := hok.1
    exact a ((sw_sub (a := 1)).mpr ⟨m - 1, by omega, by rw [show 1 + (m - 1) = m by omega]⟩)
theorem sw_findl {w n : Nat} (hw : w ≤ 24) (hW : sw_W w wl ll) (hn : n < 531441) : ∀ d i : Nat, i + d = w → ∃ k, k ≤ w ∧ (∀ post : Int32 → Prop, post (nI k) → wX_findWord_2 post (nI n) pl (nI w) rc tc sc dk ex tr ps ct wl wm rv rs rn re ty se sy (d + 1) (nI i)) ∧ (∀ post : Int32 → Prop, (k < w → post (nI k)) → (k = w → post (-1)) → wY_find_3 post (nI (n % 27)) (nI (n / 27 % 27)) (nI (n / 729 % 27)) (nI (n / 19683 % 27)) pl rc (nI w) tc sc dk ex tr ps ct rv rs rn re ll wm ty sy (d + 1) (nI i)) := by
  intro d
  induction d with
  | zero =>
    intro i hi
    obtain rfl : i = w := by omega
    exact ⟨i, Nat.le_refl _, fun post h => br_t (Int32.le_refl _) h, fun post _ h => br_t (Int32.le_refl _) (h rfl)⟩
  | succ d ih =>
    intro i hi
    obtain ⟨m, hm, e, d0, d1, d2, d3⟩ := hW i (by omega)
    have hg : ¬ nI w ≤ nI i := nI_ge (by omega) (by omega)
    have hv : vp_in (nI i) 24 := vp_in_nI (by omega) (by decide)
    have hc : (nI i).toNatClampNeg = i := nI_clamp (by omega)
    have e4 : 4 * nI i = nI (4 * i) := pk_mul 4 i
    have e41 : nI (4 * i) + 1 = nI (4 * i + 1) := nI_1 _
    have e42 : nI (4 * i) + 2 = nI (4 * i + 2) := nI_add _ 2
    have e43 : nI (4 * i) + 3 = nI (4 * i + 3) := nI_add _ 3
    have c0 : (nI (4 * i)).toNatClampNeg = 4 * i := nI_clamp (by omega)
    have c1 : (nI (4 * i + 1)).toNatClampNeg = 4 * i + 1 := nI_clamp (by omega)
    have c2 : (nI (4 * i + 2)).toNatClampNeg = 4 * i + 2 := nI_clamp (by omega)
    have c3 : (nI (4 * i + 3)).toNatClampNeg = 4 * i + 3 := nI_clamp (by omega)
    have v0 : vp_in (nI (4 * i)) 96 := vp_in_nI (by omega) (by decide)
    have v1 : vp_in (nI (4 * i + 1)) 96 := vp_in_nI (by omega) (by decide)
    have v2 : vp_in (nI (4 * i + 2)) 96 := vp_in_nI (by omega) (by decide)
    have v3 : vp_in (nI (4 * i + 3)) 96 := vp_in_nI (by omega) (by decide)
    have hY : ∀ post : Int32 → Prop, (m = n → post (nI i)) → (¬ m = n → wY_find_3 post (nI (n % 27)) (nI (n / 27 % 27)) (nI (n / 729 % 27)) (nI (n / 19683 % 27)) pl rc (nI w) tc sc dk ex tr ps ct rv rs rn re ll wm ty sy (d + 1) (nI (i + 1))) → wY_find_3 post (nI (n % 27)) (nI (n / 27 % 27)) (nI (n / 729 % 27)) (nI (n / 19683 % 27)) pl rc (nI w) tc sc dk ex tr ps ct rv rs rn re ll wm ty sy (d + 1 + 1) (nI i) := by
      intro post ha hb
      rw [wY_find_3]
      dsimp only
      rw [e4, e41, e42, e43, c0, c1, c2, c3, d0, d1, d2, d3]
      refine br_f hg ⟨v0, br_c (fun q0 => ⟨v1, br_c (fun q1 => ⟨v2, br_c (fun q2 => ⟨v3, br_c (fun q3 => ?_) (fun q3 => nm_r (nI_1 i) (hb ?_))⟩) (fun q2 => nm_r (nI_1 i) (hb ?_))⟩) (fun q1 => nm_r (nI_1 i) (hb ?_))⟩) (fun q0 => nm_r (nI_1 i) (hb ?_))⟩
      · rw [nI_eq (by omega) (by omega)] at q0 q1 q2 q3
        exact ha ((sw_dig hm hn).mpr ⟨q0, q1, q2, q3⟩)
      · intro z; exact q3 (by rw [z])
      · intro z; exact q2 (by rw [z])
      · intro z; exact q1 (by rw [z])
      · intro z; exact q0 (by rw [z])
    by_cases hmn : m = n
    · refine ⟨i, by omega, fun post h => ?_, fun post h _ => hY post (fun _ => h (by omega)) (fun z => absurd hmn z)⟩
      refine br_f hg ⟨hv, br_t ?_ h⟩
      rw [hc, e, hmn]
    · obtain ⟨k, hk, hX2, hY2⟩ := ih (i + 1) (by omega)
      refine ⟨k, hk, fun post h => ?_, fun post h1 h2 => hY post (fun z => absurd z hmn) (fun _ => hY2 post h1 h2)⟩
      refine br_f hg ⟨hv, br_f ?_ (nm_r (nI_1 i) (hX2 post h))⟩
      rw [hc, e, nI_eq (by omega) (by omega)]
      exact hmn
theorem sw_find {w n : Nat} (hw : w ≤ 24) (hW : sw_W w wl ll) (hn : n < 531441) : ∃ k, k ≤ w ∧ (∀ post : Int32 → Prop, post (nI k) → wpX_findWord post (pl, nI w, rc, tc, sc, dk, ex, tr, ps, ct, wl, wm, rv, rs, rn, re, ty, se, sy) (nI n)) ∧ (∀ post : Int32 → Prop, (k < w → post (nI k)) → (k = w → post (-1)) → wpY_find post (pl, rc, nI w, tc, sc, dk, ex, tr, ps, ct, rv, rs, rn, re, ll, wm, ty, sy) (nI (n % 27)) (nI (n / 27 % 27)) (nI (n / 729 % 27)) (nI (n / 19683 % 27))) := by
  obtain ⟨k, hk, hX, hY⟩ := sw_findl (pl := pl) (rc := rc) (tc := tc) (sc := sc) (dk := dk) (ex := ex) (tr := tr) (ps := ps) (ct := ct) (wl := wl) (wm := wm) (rv := rv) (rs := rs) (rn := rn) (re := re) (ty := ty) (se := se) (sy := sy) (ll := ll) hw hW hn w 0 (by omega)
  exact ⟨k, hk, fun post h => ⟨_, hX post h⟩, fun post h1 h2 => ⟨_, hY post h1 h2⟩⟩
end
end
section
/-! what has been typed, read by both sides -/
def sw_T (t : Nat) (ty : Nat → Int32) : Prop := ∀ j, j < t → ∃ m, (m = 32 ∨ (97 ≤ m ∧ m ≤ 122)) ∧ ty j = nI m
def sw_c (ty : Nat → Int32) : Nat → Nat := fun j => (ty j).toNatClampNeg - 96
theorem sw_c_lt {t : Nat} {ty : Nat → Int32} (h : sw_T t ty) : ∀ j, j < t → sw_c ty j < 27 := by
  intro j hj
  obtain ⟨m, hm, e⟩ := h j hj
  unfold sw_c
  rw [e, nI_clamp (by omega)]
  omega
theorem sw_c_eq {ty : Nat → Int32} {j m : Nat} (h1 : m < 2 ^ 31) (e : ty j = nI m) : sw_c ty j = m - 96 := by
  unfold sw_c
  rw [e, nI_clamp h1]
theorem sw_enc_q {c : Nat → Nat} {s i : Nat} (h : 0 < c s) (hs : s < i) : 0 < sw_enc c s i := by
  have h2 := sw_tl_t (c := c) hs
  unfold sw_enc
  omega
section
variable {pl wc rc tc sc : Int32} {dk ex tr ps ct wl wm rv rs rn re ty se sy ll : Nat → Int32}
theorem sw_ytl {post : Int32 → Prop} {x : Int32} {j i s : Nat} (hx : x = nI j) (hs : s ≤ j) (hj : j < 2 ^ 30) (hi : i ≤ 30) (hl : ∀ j, s ≤ j → j < i → ∃ m, 97 ≤ m ∧ m ≤ 122 ∧ ty j = nI m) (h : post (nI (sw_tl (sw_c ty) j i))) : wpY_typedLetter post (pl, rc, wc, tc, sc, dk, ex, tr, ps, ct, rv, rs, rn, re, ll, wm, ty, sy) x (nI i) := by
  subst hx
  by_cases hji : j < i
  · obtain ⟨m, h1, h2, e⟩ := hl j hs hji
    have es : nI m - 96 = nI (m - 96) := pk_sub (b := 96) (by omega)
    rw [sw_tl_t hji, sw_c_eq (by omega) e] at h
    refine br_f (nI_ge hji (by omega)) ⟨vp_in_nI (by omega) (by decide), ?_⟩
    rw [nI_clamp (by omega), e, es]
    exact h
  · rw [sw_tl_f (by omega)] at h
    exact br_t (nI_le (by omega) (by omega)) h
theorem sw_ymo {post : Int32 → Prop} {w s i k : Nat} (hk : k ≤ w) (hw : w ≤ 24) (hsi : s < i) (hi : i ≤ 30) (hl : ∀ j, s ≤ j → j < i → ∃ m, 97 ≤ m ∧ m ≤ 122 ∧ ty j = nI m) (hb : ∀ j, j < i → sw_c ty j < 27) (hf : ∀ post : Int32 → Prop, (k < w → post (nI k)) → (k = w → post (-1)) → wpY_find post (pl, rc, nI w, tc, sc, dk, ex, tr, ps, ct, rv, rs, rn, re, ll, wm, ty, sy) (nI (sw_enc (sw_c ty) s i % 27)) (nI (sw_enc (sw_c ty) s i / 27 % 27)) (nI (sw_enc (sw_c ty) s i / 729 % 27)) (nI (sw_enc (sw_c ty) s i / 19683 % 27))) (h1 : k < w → post (wm k)) (h2 : k = w → post (-1)) : wpY_meaningOf post (pl, rc, nI w, tc, sc, dk, ex, tr, ps, ct, rv, rs, rn, re, ll, wm, ty, sy) (nI s) (nI i) := by
  obtain ⟨_, e0, e1, e2, e3⟩ := sw_enc_d hb s
  rw [e0, e1, e2, e3] at hf
  unfold wpY_meaningOf
  refine sw_ytl (s := s) rfl (Nat.le_refl _) (by omega) hi hl ?_
  refine sw_ytl (s := s) (nI_1 s) (by omega) (by omega) hi hl ?_
  refine sw_ytl (s := s) (nI_add s 2) (by omega) (by omega) hi hl ?_
  refine sw_ytl (s := s) (nI_add s 3) (by omega) (by omega) hi hl ?_
  refine hf _ (fun hkw => br_t (nI_pos' (by omega)) ⟨vp_in_nI (by omega) (by decide), ?_⟩) (fun hkw => br_f (by decide) (h2 hkw))
  rw [nI_clamp (by omega)]
  exact h1 hkw
theorem sw_y80 {post : Int32 → SY → Prop} {J : Int32 → Int32 → Int32 → Int32 → Int32 → Int32 → Int32 → Prop} {x1 z f1 f2 f3 : Int32} {cnt i : Nat} (hc : cnt < 100) (hz : ¬ z = 30) (h : J x1 (nI (cnt + 1)) (if cnt = 0 then z else f1) (if cnt = 1 then z else f2) (if cnt = 2 then z else f3) (nI (i + 1)) (nI (i + 1))) : wY_enter_80 post J x1 (nI cnt) f1 f2 f3 (nI i) z pl rc wc tc sc dk ex tr ps ct rv rs rn re ll wm ty sy := by
  refine br_f hz ?_
  by_cases c0 : cnt = 0
  · subst c0
    exact br_t rfl (br_f (by decide) (br_f (by decide) (nm_r (nI_1 0) (nm_r (nI_1 i) (nm_r (nI_1 i) h)))))
  · refine br_f (fun y => c0 ((nI_eq (b := 0) (by omega) (by decide)).mp y)) ?_
    rw [if_neg c0] at h
    by_cases c1 : cnt = 1
    · subst c1
      exact br_t rfl (br_f (by decide) (nm_r (nI_1 1) (nm_r (nI_1 i) (nm_r (nI_1 i) h))))
    · refine br_f (fun y => c1 ((nI_eq (b := 1) (by omega) (by decide)).mp y)) ?_
      rw [if_neg c1] at h
      by_cases c2 : cnt = 2
      · subst c2
        exact br_t rfl (nm_r (nI_1 2) (nm_r (nI_1 i) (nm_r (nI_1 i) h)))
      · refine br_f (fun y => c2 ((nI_eq (b := 2) (by omega) (by decide)).mp y)) ?_
        rw [if_neg c2] at h
        exact nm_r (nI_1 cnt) (nm_r (nI_1 i) (nm_r (nI_1 i) h))
/-- once a word is unknown, it stays so -/
theorem sw_y80u {post : Int32 → SY → Prop} {J : Int32 → Int32 → Int32 → Int32 → Int32 → Int32 → Int32 → Prop} {c z f1 f2 f3 : Int32} {i : Nat} (h : ∀ c g1 g2 g3 : Int32, J 1 c g1 g2 g3 (nI (i + 1)) (nI (i + 1))) : wY_enter_80 post J 1 c f1 f2 f3 (nI i) z pl rc wc tc sc dk ex tr ps ct rv rs rn re ll wm ty sy := by
  have h104 : ∀ f1 f2 f3 : Int32, wY_enter_104 post J 1 c f1 f2 f3 (nI i) z pl rc wc tc sc dk ex tr ps ct rv rs rn re ll wm ty sy := fun f1 f2 f3 => br_c (fun _ => nm_e (nm_r (nI_1 i) (nm_r (nI_1 i) (h _ _ _ _)))) (fun _ => nm_e (nm_r (nI_1 i) (nm_r (nI_1 i) (h _ _ _ _))))
  have h95 : ∀ f1 f2 f3 : Int32, wY_enter_95 post J 1 c f1 f2 f3 (nI i) z pl rc wc tc sc dk ex tr ps ct rv rs rn re ll wm ty sy := fun f1 f2 f3 => br_c (fun _ => h104 _ _ _) (fun _ => h104 _ _ _)
  exact br_c (fun _ => nm_r (nI_1 i) (nm_r (nI_1 i) (h _ _ _ _))) (fun _ => br_c (fun _ => h95 _ _ _) (fun _ => h95 _ _ _))
theorem sw_unk {w t : Nat} (hw : w ≤ 24) (ht : t ≤ 30) (hW : sw_W w wl ll) (hT : sw_T t ty) : ∀ (d i s : Nat) (c f1 f2 f3 : Int32), i + d = t + 1 → s ≤ i → (∀ j, s ≤ j → j < i → ∃ m, 97 ≤ m ∧ m ≤ 122 ∧ ty j = nI m) → ∀ (post : Int32 → SY → Prop) (n : Nat), (∀ c g1 g2 g3 z : Int32, wY_enter_21 post pl rc (nI w) (nI t) sc dk ex tr ps ct rv rs rn re ll wm ty sy (n + 1) 1 c g1 g2 g3 z (nI (t + 1))) → wY_enter_21 post pl rc (nI w) (nI t) sc dk ex tr ps ct rv rs rn re ll wm ty sy (n + 1 + d) 1 c f1 f2 f3 (nI s) (nI i) := by
  intro d
  induction d with
  | zero =>
    intro i s c f1 f2 f3 hi hs hl post n h
    obtain rfl : i = t + 1 := by omega
    exact h _ _ _ _ _
  | succ d ih =>
    intro i s c f1 f2 f3 hi hs hl post n h
    have hnext : ∀ c g1 g2 g3 : Int32, wY_enter_21 post pl rc (nI w) (nI t) sc dk ex tr ps ct rv rs rn re ll wm ty sy (n + 1 + d) 1 c g1 g2 g3 (nI (i + 1)) (nI (i + 1)) := fun c g1 g2 g3 => ih (i + 1) (i + 1) c g1 g2 g3 (by omega) (Nat.le_refl _) (fun j h1 h2 => by omega) post n h
    have h71 : ∀ z : Int32, wY_enter_71 post (wY_enter_21 post pl rc (nI w) (nI t) sc dk ex tr ps ct rv rs rn re ll wm ty sy (n + 1 + d)) 1 c f1 f2 f3 (nI i) z pl rc (nI w) (nI t) sc dk ex tr ps ct rv rs rn re ll wm ty sy := fun z => br_c (fun _ => sw_y80u hnext) (fun _ => sw_y80u hnext)
    have h51 : wY_enter_51 post (wY_enter_21 post pl rc (nI w) (nI t) sc dk ex tr ps ct rv rs rn re ll wm ty sy (n + 1 + d)) 1 c f1 f2 f3 (nI s) (nI i) pl rc (nI w) (nI t) sc dk ex tr ps ct rv rs rn re ll wm ty sy := by
      by_cases hsi : s < i
      · have hb : ∀ j, j < i → sw_c ty j < 27 := fun j hj => sw_c_lt hT j (by omega)
        obtain ⟨k, hk, _, hY⟩ := sw_find (pl := pl) (rc := rc) (tc := nI t) (sc := sc) (dk := dk) (ex := ex) (tr := tr) (ps := ps) (ct := ct) (wl := wl) (wm := wm) (rv := rv) (rs := rs) (rn := rn) (re := re) (ty := ty) (se := ty) (sy := sy) (ll := ll) hw hW (sw_enc_d hb s).1
        exact br_f (nI_ge hsi (by omega)) (sw_ymo hk hw hsi (by omega) hl hb hY (fun _ => h71 _) (fun _ => h71 _))
      · exact br_t (nI_le (by omega) (by omega)) (h71 _)
    refine br_f (nI_nlt (by omega) (by omega)) ?_
    by_cases hit : i = t
    · exact br_t (by rw [hit]) h51
    · refine br_f (fun z => hit ((nI_eq (by omega) (by omega)).mp z)) ⟨vp_in_nI (by omega) (by decide), ?_⟩
      rw [nI_clamp (by omega)]
      obtain ⟨m, hm, e⟩ := hT i (by omega)
      rcases hm with rfl | hm
      · exact br_t e h51
      · refine br_f ?_ (nm_r (nI_1 i) (ih (i + 1) s c f1 f2 f3 (by omega) (by omega) ?_ post n h))
        · rw [e]
          exact fun z => by have := (nI_eq (b := 32) (by omega) (by decide)).mp z; omega
        · intro j h1 h2
          by_cases hji : j = i
          · subst hji
            exact ⟨m, hm.1, hm.2, e⟩
          · exact hl j h1 (by omega)
/-- a word's end -/
theorem sw_end {w s i cnt : Nat} {f1 f2 f3 : Int32} (hw : w ≤ 24) (hW : sw_W w wl ll) (hm : sw_R 31 wm) (hsi : s ≤ i) (hi : i ≤ 30) (hl : ∀ j, s ≤ j → j < i → ∃ m, 97 ≤ m ∧ m ≤ 122 ∧ ty j = nI m) (hb : ∀ j, j < i → sw_c ty j < 27) (hcnt : 2 * cnt ≤ s) (q1 : 0 < cnt → se 0 = f1) (q2 : 1 < cnt → se 1 = f2) (q3 : 2 < cnt → se 2 = f3) :
    (∃ (cnt2 : Nat) (se2 : Nat → Int32) (g1 g2 g3 : Int32), 2 * cnt2 ≤ i + 1 ∧ (0 < cnt2 → se2 0 = g1) ∧ (1 < cnt2 → se2 1 = g2) ∧ (2 < cnt2 → se2 2 = g3) ∧ (∀ (post : Int32 → SX → Prop) (J : Int32 → Int32 → Int32 → Int32 → (Nat → Int32) → (Nat → Int32) → (Nat → Int32) → (Nat → Int32) → (Nat → Int32) → (Nat → Int32) → (Nat → Int32) → (Nat → Int32) → (Nat → Int32) → (Nat → Int32) → (Nat → Int32) → (Nat → Int32) → (Nat → Int32) → (Nat → Int32) → Prop), J (nI cnt2) 0 1 (nI (i + 1)) dk ex tr ps ct wl wm rv rs rn re ty se2 sy → wX_readSentence_39 post J (nI cnt) (nI (sw_enc (sw_c ty) s i)) (nI (sw_wt (i - s))) (nI i) 32 pl (nI w) rc tc sc dk ex tr ps ct wl wm rv rs rn re ty se sy) ∧ (∀ (post : Int32 → SY → Prop) (J : Int32 → Int32 → Int32 → Int32 → Int32 → Int32 → Int32 → Prop), J 0 (nI cnt2) g1 g2 g3 (nI (i + 1)) (nI (i + 1)) → wY_enter_51 post J 0 (nI cnt) f1 f2 f3 (nI s) (nI i) pl rc (nI w) tc sc dk ex tr ps ct rv rs rn re ll wm ty sy))
    ∨ ((∀ (post : Int32 → SX → Prop) (J : Int32 → Int32 → Int32 → Int32 → (Nat → Int32) → (Nat → Int32) → (Nat → Int32) → (Nat → Int32) → (Nat → Int32) → (Nat → Int32) → (Nat → Int32) → (Nat → Int32) → (Nat → Int32) → (Nat → Int32) → (Nat → Int32) → (Nat → Int32) → (Nat → Int32) → (Nat → Int32) → Prop), post (-1) (pl, nI w, rc, tc, sc, dk, ex, tr, ps, ct, wl, wm, rv, rs, rn, re, ty, se, sy) → wX_readSentence_39 post J (nI cnt) (nI (sw_enc (sw_c ty) s i)) (nI (sw_wt (i - s))) (nI i) 32 pl (nI w) rc tc sc dk ex tr ps ct wl wm rv rs rn re ty se sy) ∧ (∀ (post : Int32 → SY → Prop) (J : Int32 → Int32 → Int32 → Int32 → Int32 → Int32 → Int32 → Prop), (∀ c g1 g2 g3 : Int32, J 1 c g1 g2 g3 (nI (i + 1)) (nI (i + 1))) → wY_enter_51 post J 0 (nI cnt) f1 f2 f3 (nI s) (nI i) pl rc (nI w) tc sc dk ex tr ps ct rv rs rn re ll wm ty sy)) := by
  by_cases hs : s < i
  · obtain ⟨hL, _⟩ := sw_enc_d hb s
    obtain ⟨m0, h97, h122, em0⟩ := hl s (Nat.le_refl _) hs
    have hpos : 0 < sw_enc (sw_c ty) s i := sw_enc_q (by rw [sw_c_eq (by omega) em0]; omega) hs
    obtain ⟨k, hk, hX, hY⟩ := sw_find (pl := pl) (rc := rc) (tc := tc) (sc := sc) (dk := dk) (ex := ex) (tr := tr) (ps := ps) (ct := ct) (wl := wl) (wm := wm) (rv := rv) (rs := rs) (rn := rn) (re := re) (ty := ty) (se := se) (sy := sy) (ll := ll) hw hW hL
    have hn0 : ¬ nI (sw_enc (sw_c ty) s i) ≤ 0 := nI_nle hpos (by omega)
    have hle : ¬ nI i ≤ nI s := nI_ge hs (by omega)
    by_cases hkw : k = w
    · refine Or.inr ⟨fun post J h => ?_, fun post J h => ?_⟩
      · exact br_t rfl (br_f hn0 (hX _ (br_t (by rw [hkw]) h)))
      · exact br_f hle (sw_ymo hk hw hs hi hl hb hY (fun z => absurd hkw (by omega)) (fun _ => br_f (by decide) (sw_y80u h)))
    · have hkne : ¬ nI k = nI w := fun z => hkw ((nI_eq (by omega) (by omega)).mp z)
      have hv : vp_in (nI k) 24 := vp_in_nI (by omega) (by decide)
      have hck : (nI k).toNatClampNeg = k := nI_clamp (by omega)
      obtain ⟨z, hz, ez⟩ := hm k
      have hz0 : 0 ≤ wm k := by rw [ez]; exact nI_pos' (by omega)
      by_cases h30 : wm k = 30
      · refine Or.inl ⟨cnt, se, f1, f2, f3, by omega, q1, q2, q3, fun post J h => ?_, fun post J h => ?_⟩
        · refine br_t rfl (br_f hn0 (hX _ (br_f hkne ⟨hv, ?_⟩)))
          rw [hck]
          exact br_t h30 (nm_r (nI_1 i) h)
        · exact br_f hle (sw_ymo hk hw hs hi hl hb hY (fun _ => br_t hz0 (br_t h30 (nm_r (nI_1 i) (nm_r (nI_1 i) h)))) (fun y => absurd y hkw))
      · refine Or.inl ⟨cnt + 1, upd se cnt (wm k), if cnt = 0 then wm k else f1, if cnt = 1 then wm k else f2, if cnt = 2 then wm k else f3, by omega, ?_, ?_, ?_, fun post J h => ?_, fun post J h => ?_⟩
        · intro _
          by_cases c : cnt = 0
          · rw [if_pos c, c, pk_us]
          · rw [if_neg c, pk_un (by omega)]
            exact q1 (by omega)
        · intro _
          by_cases c : cnt = 1
          · rw [if_pos c, c, pk_us]
          · rw [if_neg c, pk_un (by omega)]
            exact q2 (by omega)
        · intro _
          by_cases c : cnt = 2
          · rw [if_pos c, c, pk_us]
          · rw [if_neg c, pk_un (by omega)]
            exact q3 (by omega)
        · refine br_t rfl (br_f hn0 (hX _ (br_f hkne ⟨hv, ?_⟩)))
          rw [hck]
          refine br_f h30 (br_f (nI_ge (b := 15) (by omega) (by decide)) ⟨hv, vp_in_nI (by omega) (by decide), nm_r (e' := upd se cnt (wm k)) (by rw [nI_clamp (by omega)]) (nm_r (nI_1 cnt) (nm_r (nI_1 i) h))⟩)
        · exact br_f hle (sw_ymo hk hw hs hi hl hb hY (fun _ => br_t hz0 (sw_y80 (by omega) h30 h)) (fun y => absurd y hkw))
  · obtain rfl : s = i := by omega
    refine Or.inl ⟨cnt, se, f1, f2, f3, by omega, q1, q2, q3, fun post J h => ?_, fun post J h => ?_⟩
    · rw [sw_enc_0, Nat.sub_self]
      exact br_t rfl (br_t (by decide) (nm_r (nI_1 s) h))
    · exact br_t (Int32.le_refl _) (br_t (by decide) (br_t rfl (nm_r (nI_1 s) (nm_r (nI_1 s) h))))
end
end
section
/-! the typed words to their end, and the command that they make -/
def sw_T1 (x : Int32) : Prop := x = 1 ∨ x = 2 ∨ x = 4 ∨ x = 5
theorem sw_T1_v {x : Int32} (h : sw_T1 x) : ∃ v, v < 6 ∧ ¬ v = 0 ∧ x = nI v := by
  rcases h with rfl | rfl | rfl | rfl
  · exact ⟨1, by decide, by decide, rfl⟩
  · exact ⟨2, by decide, by decide, rfl⟩
  · exact ⟨4, by decide, by decide, rfl⟩
  · exact ⟨5, by decide, by decide, rfl⟩
theorem sw_xto {post : Int32 → Prop} {x : Int32} (h1 : sw_T1 x → post 1) (h0 : ¬ sw_T1 x → post 0) : wpX_takesOneThing post x :=
  br_c (fun a => h1 (Or.inl a)) (fun a => br_c (fun b => h1 (Or.inr (Or.inl b))) (fun b => br_c (fun c => h1 (Or.inr (Or.inr (Or.inl c)))) (fun c => br_c (fun d => h1 (Or.inr (Or.inr (Or.inr d)))) (fun d => h0 (fun z => z.elim a (fun z => z.elim b (fun z => z.elim c d)))))))
section
variable {pl wc rc tc sc : Int32} {dk ex tr ps ct wl wm rv rs rn re ty se sy ll : Nat → Int32}
theorem sw_y212 {post : Int32 → SY → Prop} {x4 x5 x6 : Int32} (h1 : sw_T1 x4 → wY_enter_241 post 2 x4 x5 x6 pl rc wc tc sc dk ex tr ps ct rv rs rn re ll wm ty sy) (h0 : ¬ sw_T1 x4 → wY_enter_267 post 2 x4 x5 x6 pl rc wc tc sc dk ex tr ps ct rv rs rn re ll wm ty sy) : wY_enter_212 post 2 x4 x5 x6 pl rc wc tc sc dk ex tr ps ct rv rs rn re ll wm ty sy :=
  br_t rfl (br_c (fun a => h1 (Or.inl a)) (fun a => br_c (fun b => h1 (Or.inr (Or.inl b))) (fun b => br_c (fun c => h1 (Or.inr (Or.inr (Or.inl c)))) (fun c => br_c (fun d => h1 (Or.inr (Or.inr (Or.inr d)))) (fun d => h0 (fun z => z.elim a (fun z => z.elim b (fun z => z.elim c d))))))))
theorem sw_read {w t : Nat} (hw : w ≤ 24) (ht : t ≤ 30) (hW : sw_W w wl ll) (hT : sw_T t ty) (hm : sw_R 31 wm) : ∀ (d i s cnt : Nat) (se : Nat → Int32) (f1 f2 f3 : Int32), i + d = t + 1 → s ≤ i → 2 * cnt ≤ s → (∀ j, s ≤ j → j < i → ∃ m, 97 ≤ m ∧ m ≤ 122 ∧ ty j = nI m) → (0 < cnt → se 0 = f1) → (1 < cnt → se 1 = f2) → (2 < cnt → se 2 = f3) →
    (∃ (cnt' : Nat) (se' : Nat → Int32) (g1 g2 g3 : Int32), cnt' ≤ 15 ∧ (0 < cnt' → se' 0 = g1) ∧ (1 < cnt' → se' 1 = g2) ∧ (2 < cnt' → se' 2 = g3) ∧ (∀ post : Int32 → SX → Prop, post (nI cnt') (pl, nI w, rc, nI t, sc, dk, ex, tr, ps, ct, wl, wm, rv, rs, rn, re, ty, se', sy) → wX_readSentence_9 post pl (nI w) rc (nI t) sc (d + 1) (nI cnt) (nI (sw_enc (sw_c ty) s i)) (nI (sw_wt (i - s))) (nI i) dk ex tr ps ct wl wm rv rs rn re ty se sy) ∧ (∀ (post : Int32 → SY → Prop) (n : Nat), (∀ z : Int32, wY_enter_21 post pl rc (nI w) (nI t) sc dk ex tr ps ct rv rs rn re ll wm ty sy (n + 1) 0 (nI cnt') g1 g2 g3 z (nI (t + 1))) → wY_enter_21 post pl rc (nI w) (nI t) sc dk ex tr ps ct rv rs rn re ll wm ty sy (n + 1 + d) 0 (nI cnt) f1 f2 f3 (nI s) (nI i)))
    ∨ (∃ se' : Nat → Int32, (∀ post : Int32 → SX → Prop, post (-1) (pl, nI w, rc, nI t, sc, dk, ex, tr, ps, ct, wl, wm, rv, rs, rn, re, ty, se', sy) → wX_readSentence_9 post pl (nI w) rc (nI t) sc (d + 1) (nI cnt) (nI (sw_enc (sw_c ty) s i)) (nI (sw_wt (i - s))) (nI i) dk ex tr ps ct wl wm rv rs rn re ty se sy) ∧ (∀ (post : Int32 → SY → Prop) (n : Nat), (∀ c g1 g2 g3 z : Int32, wY_enter_21 post pl rc (nI w) (nI t) sc dk ex tr ps ct rv rs rn re ll wm ty sy (n + 1) 1 c g1 g2 g3 z (nI (t + 1))) → wY_enter_21 post pl rc (nI w) (nI t) sc dk ex tr ps ct rv rs rn re ll wm ty sy (n + 1 + d) 0 (nI cnt) f1 f2 f3 (nI s) (nI i))) := by
  intro d
  induction d with
  | zero =>
    intro i s cnt se f1 f2 f3 hi hs hcnt hl q1 q2 q3
    obtain rfl : i = t + 1 := by omega
    exact Or.inl ⟨cnt, se, f1, f2, f3, by omega, q1, q2, q3, fun post h => br_t (nI_lt (by omega) (by omega)) h, fun post n h => h _⟩
  | succ d ih =>
    intro i s cnt se f1 f2 f3 hi hs hcnt hl q1 q2 q3
    have hb : ∀ j, j < i → sw_c ty j < 27 := fun j hj => sw_c_lt hT j (by omega)
    have hnt : ¬ nI t < nI i := nI_nlt (by omega) (by omega)
    have hE : (∃ (cnt' : Nat) (se' : Nat → Int32) (g1 g2 g3 : Int32), cnt' ≤ 15 ∧ (0 < cnt' → se' 0 = g1) ∧ (1 < cnt' → se' 1 = g2) ∧ (2 < cnt' → se' 2 = g3) ∧ (∀ post : Int32 → SX → Prop, post (nI cnt') (pl, nI w, rc, nI t, sc, dk, ex, tr, ps, ct, wl, wm, rv, rs, rn, re, ty, se', sy) → wX_readSentence_39 post (wX_readSentence_9 post pl (nI w) rc (nI t) sc (d + 1)) (nI cnt) (nI (sw_enc (sw_c ty) s i)) (nI (sw_wt (i - s))) (nI i) 32 pl (nI w) rc (nI t) sc dk ex tr ps ct wl wm rv rs rn re ty se sy) ∧ (∀ (post : Int32 → SY → Prop) (n : Nat), (∀ z : Int32, wY_enter_21 post pl rc (nI w) (nI t) sc dk ex tr ps ct rv rs rn re ll wm ty sy (n + 1) 0 (nI cnt') g1 g2 g3 z (nI (t + 1))) → wY_enter_51 post (wY_enter_21 post pl rc (nI w) (nI t) sc dk ex tr ps ct rv rs rn re ll wm ty sy (n + 1 + d)) 0 (nI cnt) f1 f2 f3 (nI s) (nI i) pl rc (nI w) (nI t) sc dk ex tr ps ct rv rs rn re ll wm ty sy))
        ∨ (∃ se' : Nat → Int32, (∀ post : Int32 → SX → Prop, post (-1) (pl, nI w, rc, nI t, sc, dk, ex, tr, ps, ct, wl, wm, rv, rs, rn, re, ty, se', sy) → wX_readSentence_39 post (wX_readSentence_9 post pl (nI w) rc (nI t) sc (d + 1)) (nI cnt) (nI (sw_enc (sw_c ty) s i)) (nI (sw_wt (i - s))) (nI i) 32 pl (nI w) rc (nI t) sc dk ex tr ps ct wl wm rv rs rn re ty se sy) ∧ (∀ (post : Int32 → SY → Prop) (n : Nat), (∀ c g1 g2 g3 z : Int32, wY_enter_21 post pl rc (nI w) (nI t) sc dk ex tr ps ct rv rs rn re ll wm ty sy (n + 1) 1 c g1 g2 g3 z (nI (t + 1))) → wY_enter_51 post (wY_enter_21 post pl rc (nI w) (nI t) sc dk ex tr ps ct rv rs rn re ll wm ty sy (n + 1 + d)) 0 (nI cnt) f1 f2 f3 (nI s) (nI i) pl rc (nI w) (nI t) sc dk ex tr ps ct rv rs rn re ll wm ty sy)) := by
      rcases sw_end (pl := pl) (rc := rc) (tc := nI t) (sc := sc) (dk := dk) (ex := ex) (tr := tr) (ps := ps) (ct := ct) (wl := wl) (wm := wm) (rv := rv) (rs := rs) (rn := rn) (re := re) (ty := ty) (se := se) (sy := sy) (ll := ll) hw hW hm hs (by omega) hl hb hcnt q1 q2 q3 with ⟨cnt2, se2, g1, g2, g3, h2c, p1, p2, p3, hX, hY⟩ | ⟨hX, hY⟩
      · rcases ih (i + 1) (i + 1) cnt2 se2 g1 g2 g3 (by omega) (Nat.le_refl _) h2c (fun j h1 h2 => by omega) p1 p2 p3 with ⟨cnt', se', k1, k2, k3, hc', r1, r2, r3, gX, gY⟩ | ⟨se', gX, gY⟩
        · rw [sw_enc_0, Nat.sub_self] at gX
          exact Or.inl ⟨cnt', se', k1, k2, k3, hc', r1, r2, r3, fun post h => hX post _ (gX post h), fun post n h => hY post _ (gY post n h)⟩
        · rw [sw_enc_0, Nat.sub_self] at gX
          exact Or.inr ⟨se', fun post h => hX post _ (gX post h), fun post n h => hY post _ (gY post n h)⟩
      · refine Or.inr ⟨se, fun post h => hX post _ h, fun post n h => hY post _ (fun c g1 g2 g3 => ?_)⟩
        exact sw_unk hw ht hW hT d (i + 1) (i + 1) c g1 g2 g3 (by omega) (Nat.le_refl _) (fun j h1 h2 => by omega) post n h
    by_cases hit : i = t
    · have hle : nI t ≤ nI i := by rw [hit]; exact Int32.le_refl _
      have heq : nI i = nI t := by rw [hit]
      rcases hE with ⟨cnt', se', g1, g2, g3, hc', r1, r2, r3, hX, hY⟩ | ⟨se', hX, hY⟩
      · exact Or.inl ⟨cnt', se', g1, g2, g3, hc', r1, r2, r3, fun post h => br_f hnt (br_t hle (hX post h)), fun post n h => br_f hnt (br_t heq (hY post n h))⟩
      · exact Or.inr ⟨se', fun post h => br_f hnt (br_t hle (hX post h)), fun post n h => br_f hnt (br_t heq (hY post n h))⟩
    · have hle : ¬ nI t ≤ nI i := nI_ge (by omega) (by omega)
      have heq : ¬ nI i = nI t := fun z => hit ((nI_eq (by omega) (by omega)).mp z)
      have hv : vp_in (nI i) 30 := vp_in_nI (by omega) (by decide)
      have hci : (nI i).toNatClampNeg = i := nI_clamp (by omega)
      obtain ⟨m, hmm, em⟩ := hT i (by omega)
      rcases hmm with rfl | hmm
      · have em' : ty i = 32 := em
        rcases hE with ⟨cnt', se', g1, g2, g3, hc', r1, r2, r3, hX, hY⟩ | ⟨se', hX, hY⟩
        · refine Or.inl ⟨cnt', se', g1, g2, g3, hc', r1, r2, r3, fun post h => br_f hnt (br_f hle ⟨hv, ?_⟩), fun post n h => br_f hnt (br_f heq ⟨hv, ?_⟩)⟩
          · rw [hci, em']
            exact hX post h
          · rw [hci]
            exact br_t em' (hY post n h)
        · refine Or.inr ⟨se', fun post h => br_f hnt (br_f hle ⟨hv, ?_⟩), fun post n h => br_f hnt (br_f heq ⟨hv, ?_⟩)⟩
          · rw [hci, em']
            exact hX post h
          · rw [hci]
            exact br_t em' (hY post n h)
      · have h32 : ¬ ty i = 32 := by
          rw [em]
          exact fun z => by have := (nI_eq (b := 32) (by omega) (by decide)).mp z; omega
        have hl' : ∀ j, s ≤ j → j < i + 1 → ∃ m, 97 ≤ m ∧ m ≤ 122 ∧ ty j = nI m := by
          intro j h1 h2
          by_cases hji : j = i
          · subst hji
            exact ⟨m, hmm.1, hmm.2, em⟩
          · exact hl j h1 (by omega)
        have en : nI (sw_enc (sw_c ty) s i) + (((ty i - 97) + 1) * nI (sw_wt (i - s))) = nI (sw_enc (sw_c ty) s (i + 1)) := by
          have a1 : nI m - 97 = nI (m - 97) := pk_sub (b := 97) hmm.1
          rw [em, a1, nI_1, pk_mul, nI_add, sw_enc_s _ hs, sw_c_eq (by omega) em, show m - 97 + 1 = m - 96 by omega]
        have ew : sw_wt (i + 1 - s) = if sw_wt (i - s) < 19683 then sw_wt (i - s) * 27 else 0 := by
          rw [show i + 1 - s = (i - s) + 1 by omega]
          exact sw_wt_s _
        have hwl := sw_wt_le (i - s)
        have hXs : ∀ post : Int32 → SX → Prop, wX_readSentence_9 post pl (nI w) rc (nI t) sc (d + 1) (nI cnt) (nI (sw_enc (sw_c ty) s (i + 1))) (nI (sw_wt (i + 1 - s))) (nI (i + 1)) dk ex tr ps ct wl wm rv rs rn re ty se sy → wX_readSentence_9 post pl (nI w) rc (nI t) sc (d + 1 + 1) (nI cnt) (nI (sw_enc (sw_c ty) s i)) (nI (sw_wt (i - s))) (nI i) dk ex tr ps ct wl wm rv rs rn re ty se sy := by
          intro post h
          refine br_f hnt (br_f hle ⟨hv, ?_⟩)
          rw [hci]
          refine br_f h32 (nm_r en ?_)
          by_cases h19 : sw_wt (i - s) < 19683
          · rw [ew, if_pos h19, ← pk_mul] at h
            exact br_f (nI_ge (b := 19683) h19 (by decide)) (nm_e (nm_r (nI_1 i) h))
          · rw [ew, if_neg h19] at h
            exact br_t (nI_le (a := 19683) (by omega) (by omega)) (nm_r (nI_1 i) h)
        have hYs : ∀ (post : Int32 → SY → Prop) (n : Nat), wY_enter_21 post pl rc (nI w) (nI t) sc dk ex tr ps ct rv rs rn re ll wm ty sy (n + 1 + d) 0 (nI cnt) f1 f2 f3 (nI s) (nI (i + 1)) → wY_enter_21 post pl rc (nI w) (nI t) sc dk ex tr ps ct rv rs rn re ll wm ty sy (n + 1 + (d + 1)) 0 (nI cnt) f1 f2 f3 (nI s) (nI i) := by
          intro post n h
          refine br_f hnt (br_f heq ⟨hv, ?_⟩)
          rw [hci]
          exact br_f h32 (nm_r (nI_1 i) h)
        rcases ih (i + 1) s cnt se f1 f2 f3 (by omega) (by omega) hcnt hl' q1 q2 q3 with ⟨cnt', se', k1, k2, k3, hc', r1, r2, r3, gX, gY⟩ | ⟨se', gX, gY⟩
        · exact Or.inl ⟨cnt', se', k1, k2, k3, hc', r1, r2, r3, fun post h => hXs post (gX post h), fun post n h => hYs post n (gY post n h)⟩
        · exact Or.inr ⟨se', fun post h => hXs post (gX post h), fun post n h => hYs post n (gY post n h)⟩
theorem sw_fin {r s cnt : Nat} {g1 g2 g3 : Int32} (hr : r ≤ 16) (hn : sw_C rn) (he : sw_E re) (ht : sw_R 16 tr) (hl : sw_I 6 pl) (hp : sw_R 16 ps) (hx : sw_X ex) (hs : s < 900000) (hc0 : 0 < cnt) (hc : cnt ≤ 15) (q1 : 0 < cnt → se 0 = g1) (q2 : 1 < cnt → se 1 = g2) (q3 : 2 < cnt → se 2 = g3) : ∃ (a pl' : Int32) (tr' ps' ct' sy' : Nat → Int32) (s' : Nat), sw_I 6 pl' ∧ sw_R 16 tr' ∧ sw_R 16 ps' ∧ s' ≤ s + 16 ∧ (∀ post : Int32 → SX → Prop, post a (pl', wc, nI r, 0, nI s', dk, ex, tr', ps', ct', wl, wm, rv, rs, rn, re, ty, se, sy') → ((nI cnt = 1 → (wpX_meansDirection (fun r_102 => (((r_102 = 0 → (wX_enter_70 post (nI cnt) (se 0) (se 1) (se 2) pl wc (nI r) 0 (nI s) dk ex tr ps ct wl wm rv rs rn re ty se sy)) ∧ (¬ r_102 = 0 → (wpX_perform post (pl, wc, nI r, 0, nI s, dk, ex, tr, ps, ct, wl, wm, rv, rs, rn, re, ty, se, sy) 0 (se 0 - 10) 0))))) (se 0))) ∧ (¬ nI cnt = 1 → (wX_enter_70 post (nI cnt) (se 0) (se 1) (se 2) pl wc (nI r) 0 (nI s) dk ex tr ps ct wl wm rv rs rn re ty se sy)))) ∧ (∀ post : Int32 → SY → Prop, post a (pl', nI r, wc, 0, nI s', dk, ex, tr', ps', ct', rv, rs, rn, re, ll, wm, ty, sy') → ((nI cnt = 1 → (wpY_in (fun r_151 => (((r_151 = 0 → (wY_enter_177 post (nI cnt) g1 g2 g3 pl (nI r) wc 0 (nI s) dk ex tr ps ct rv rs rn re ll wm ty sy)) ∧ (¬ r_151 = 0 → (wpY_carryOut post (pl, nI r, wc, 0, nI s, dk, ex, tr, ps, ct, rv, rs, rn, re, ll, wm, ty, sy) 0 (g1 - 10) 0))))) (pl, nI r, wc, 0, nI s, dk, ex, tr, ps, ct, rv, rs, rn, re, ll, wm, ty, sy) g1 10 13)) ∧ (¬ nI cnt = 1 → (wY_enter_177 post (nI cnt) g1 g2 g3 pl (nI r) wc 0 (nI s) dk ex tr ps ct rv rs rn re ll wm ty sy)))) := by
  obtain rfl := q1 hc0
  have hcc : cnt = 1 ∨ cnt = 2 ∨ cnt = 3 ∨ 4 ≤ cnt := by omega
  rcases hcc with rfl | rfl | rfl | h4
  · by_cases hd : sw_I 4 (se 0 - 10)
    · obtain ⟨d, hd4, ed⟩ := id hd
      obtain ⟨a, pl', tr', ps', ct', sy', s', i1, i2, i3, i4, hX, hY⟩ := sw_perform (pl := pl) (wc := wc) (tc := 0) (dk := dk) (ex := ex) (tr := tr) (ps := ps) (ct := ct) (wl := wl) (wm := wm) (rv := rv) (rs := rs) (rn := rn) (re := re) (ty := ty) (se := se) (sy := sy) (ll := ll) (vb := 0) (x := d) (y := 0) hr hn he ht hl hp hx hs (by decide) (by omega) (fun _ => hd4) (fun _ => ⟨0, by decide, rfl⟩)
      refine ⟨a, pl', tr', ps', ct', sy', s', i1, i2, i3, i4, fun post h => br_t rfl ?_, fun post h => br_t rfl ?_⟩
      · rw [sw_xMD]
        refine ⟨fun _ => br_f sw_n10 ?_, fun z => absurd hd z⟩
        rw [ed]
        exact hX _ h
      · rw [sw_yin13]
        refine ⟨fun _ => br_f sw_n10 ?_, fun z => absurd hd z⟩
        rw [ed]
        exact hY _ h
    · refine ⟨12, pl, tr, ps, ct, sy, s, hl, ht, hp, by omega, fun post h => br_t rfl ?_, fun post h => br_t rfl ?_⟩
      · rw [sw_xMD]
        exact ⟨fun z => absurd z hd, fun _ => br_t rfl (br_f (by decide) (br_f (by decide) (br_f (by decide) h)))⟩
      · rw [sw_yin13]
        exact ⟨fun z => absurd z hd, fun _ => br_t rfl (br_f (by decide) (br_f (by decide) (br_f (by decide) h)))⟩
  · obtain rfl := q2 (by decide)
    by_cases hA : se 0 = 0 ∧ sw_I 4 (se 1 - 10)
    · obtain ⟨hz, hd⟩ := hA
      obtain ⟨d, hd4, ed⟩ := id hd
      obtain ⟨a, pl', tr', ps', ct', sy', s', i1, i2, i3, i4, hX, hY⟩ := sw_perform (pl := pl) (wc := wc) (tc := 0) (dk := dk) (ex := ex) (tr := tr) (ps := ps) (ct := ct) (wl := wl) (wm := wm) (rv := rv) (rs := rs) (rn := rn) (re := re) (ty := ty) (se := se) (sy := sy) (ll := ll) (vb := 0) (x := d) (y := 0) hr hn he ht hl hp hx hs (by decide) (by omega) (fun _ => hd4) (fun _ => ⟨0, by decide, rfl⟩)
      refine ⟨a, pl', tr', ps', ct', sy', s', i1, i2, i3, i4, fun post h => br_f (by decide) (br_t rfl (br_t hz ?_)), fun post h => br_f (by decide) (br_t rfl (br_t hz ?_))⟩
      · rw [sw_xMD]
        refine ⟨fun _ => br_f sw_n10 ?_, fun z => absurd hd z⟩
        rw [ed]
        exact hX _ h
      · rw [sw_yin13]
        refine ⟨fun _ => br_f sw_n10 ?_, fun z => absurd hd z⟩
        rw [ed]
        exact hY _ h
    · have X70 : ∀ post : Int32 → SX → Prop, wX_enter_97 post (nI 2) (se 0) (se 1) (se 2) pl wc (nI r) 0 (nI s) dk ex tr ps ct wl wm rv rs rn re ty se sy → wX_enter_70 post (nI 2) (se 0) (se 1) (se 2) pl wc (nI r) 0 (nI s) dk ex tr ps ct wl wm rv rs rn re ty se sy := by
        intro post h
        refine br_t rfl (br_c (fun hz => ?_) (fun _ => h))
        rw [sw_xMD]
        exact ⟨fun z => absurd ⟨hz, z⟩ hA, fun _ => br_t rfl h⟩
      have Y177 : ∀ post : Int32 → SY → Prop, wY_enter_212 post (nI 2) (se 0) (se 1) g3 pl (nI r) wc 0 (nI s) dk ex tr ps ct rv rs rn re ll wm ty sy → wY_enter_177 post (nI 2) (se 0) (se 1) g3 pl (nI r) wc 0 (nI s) dk ex tr ps ct rv rs rn re ll wm ty sy := by
        intro post h
        refine br_t rfl (br_c (fun hz => ?_) (fun _ => h))
        rw [sw_yin13]
        exact ⟨fun z => absurd ⟨hz, z⟩ hA, fun _ => br_t rfl h⟩
      by_cases hB : sw_T1 (se 0) ∧ sw_I 8 (se 1 - 20)
      · obtain ⟨hT1, ht8⟩ := hB
        obtain ⟨d, hd8, ed⟩ := id ht8
        obtain ⟨v, hv6, hv0, ev⟩ := sw_T1_v hT1
        obtain ⟨a, pl', tr', ps', ct', sy', s', i1, i2, i3, i4, hX, hY⟩ := sw_perform (pl := pl) (wc := wc) (tc := 0) (dk := dk) (ex := ex) (tr := tr) (ps := ps) (ct := ct) (wl := wl) (wm := wm) (rv := rv) (rs := rs) (rn := rn) (re := re) (ty := ty) (se := se) (sy := sy) (ll := ll) (vb := v) (x := d) (y := 0) hr hn he ht hl hp hx hs hv6 hd8 (fun z => absurd z hv0) (fun _ => ⟨0, by decide, rfl⟩)
        refine ⟨a, pl', tr', ps', ct', sy', s', i1, i2, i3, i4, fun post h => br_f (by decide) (X70 post (br_t rfl (sw_xto (fun _ => br_f sw_n10 ?_) (fun z => absurd hT1 z)))), fun post h => br_f (by decide) (Y177 post (sw_y212 (fun _ => ?_) (fun z => absurd hT1 z)))⟩
        · rw [sw_xMT]
          refine ⟨fun _ => br_f sw_n10 ?_, fun z => absurd ht8 z⟩
          rw [ed, ev]
          exact hX _ h
        · unfold wY_enter_241
          rw [sw_yin27]
          refine ⟨fun _ => br_f sw_n10 ?_, fun z => absurd ht8 z⟩
          rw [ed, ev]
          exact hY _ h
      · refine ⟨12, pl, tr, ps, ct, sy, s, hl, ht, hp, by omega, fun post h => br_f (by decide) (X70 post (br_t rfl (sw_xto (fun z1 => br_f sw_n10 ?_) (fun _ => br_t rfl (br_f (by decide) h))))), fun post h => br_f (by decide) (Y177 post (sw_y212 (fun z1 => ?_) (fun _ => br_f (by decide) h)))⟩
        · rw [sw_xMT]
          exact ⟨fun z => absurd ⟨z1, z⟩ hB, fun _ => br_t rfl (br_f (by decide) h)⟩
        · unfold wY_enter_241
          rw [sw_yin27]
          exact ⟨fun z => absurd ⟨z1, z⟩ hB, fun _ => br_t rfl (br_f (by decide) h)⟩
  · obtain rfl := q2 (by decide)
    obtain rfl := q3 (by decide)
    have X70 : ∀ post : Int32 → SX → Prop, wX_enter_127 post (nI 3) (se 0) (se 1) (se 2) pl wc (nI r) 0 (nI s) dk ex tr ps ct wl wm rv rs rn re ty se sy → wX_enter_70 post (nI 3) (se 0) (se 1) (se 2) pl wc (nI r) 0 (nI s) dk ex tr ps ct wl wm rv rs rn re ty se sy := fun post h => br_f (by decide) (br_f (by decide) h)
    have Y177 : ∀ post : Int32 → SY → Prop, wY_enter_267 post (nI 3) (se 0) (se 1) (se 2) pl (nI r) wc 0 (nI s) dk ex tr ps ct rv rs rn re ll wm ty sy → wY_enter_177 post (nI 3) (se 0) (se 1) (se 2) pl (nI r) wc 0 (nI s) dk ex tr ps ct rv rs rn re ll wm ty sy := fun post h => br_f (by decide) (br_f (by decide) h)
    by_cases hA : se 0 = 3 ∧ sw_I 8 (se 1 - 20) ∧ sw_I 8 (se 2 - 20)
    · obtain ⟨hz, ha, hb⟩ := hA
      obtain ⟨d, hd8, ed⟩ := id ha
      obtain ⟨f, hf8, ef⟩ := id hb
      obtain ⟨a, pl', tr', ps', ct', sy', s', i1, i2, i3, i4, hX, hY⟩ := sw_perform (pl := pl) (wc := wc) (tc := 0) (dk := dk) (ex := ex) (tr := tr) (ps := ps) (ct := ct) (wl := wl) (wm := wm) (rv := rv) (rs := rs) (rn := rn) (re := re) (ty := ty) (se := se) (sy := sy) (ll := ll) (vb := 3) (x := d) (y := nI f) hr hn he ht hl hp hx hs (by decide) hd8 (fun z => absurd z (by decide)) (fun _ => ⟨f, hf8, rfl⟩)
      refine ⟨a, pl', tr', ps', ct', sy', s', i1, i2, i3, i4, fun post h => br_f (by decide) (X70 post (br_t rfl (br_t hz ?_))), fun post h => br_f (by decide) (Y177 post (br_t rfl (br_t hz ?_)))⟩
      · rw [sw_xMT]
        refine ⟨fun _ => br_f sw_n10 ?_, fun z => absurd ha z⟩
        rw [sw_xMT]
        refine ⟨fun _ => br_f sw_n10 ?_, fun z => absurd hb z⟩
        rw [ed, ef]
        exact hX _ h
      · rw [sw_yin27]
        refine ⟨fun _ => br_f sw_n10 ?_, fun z => absurd ha z⟩
        rw [sw_yin27]
        refine ⟨fun _ => br_f sw_n10 ?_, fun z => absurd hb z⟩
        rw [ed, ef]
        exact hY _ h
    · refine ⟨12, pl, tr, ps, ct, sy, s, hl, ht, hp, by omega, fun post h => br_f (by decide) (X70 post (br_t rfl (br_c (fun hz => ?_) (fun _ => h)))), fun post h => br_f (by decide) (Y177 post (br_t rfl (br_c (fun hz => ?_) (fun _ => h))))⟩
      · rw [sw_xMT]
        refine ⟨fun ha => br_f sw_n10 ?_, fun _ => br_t rfl h⟩
        rw [sw_xMT]
        exact ⟨fun hb => absurd ⟨hz, ha, hb⟩ hA, fun _ => br_t rfl h⟩
      · rw [sw_yin27]
        refine ⟨fun ha => br_f sw_n10 ?_, fun _ => br_t rfl h⟩
        rw [sw_yin27]
        exact ⟨fun hb => absurd ⟨hz, ha, hb⟩ hA, fun _ => br_t rfl h⟩
  · have n1 : ¬ nI cnt = 1 := fun z => by have := (nI_eq (b := 1) (by omega) (by decide)).mp z; omega
    have n2 : ¬ nI cnt = 2 := fun z => by have := (nI_eq (b := 2) (by omega) (by decide)).mp z; omega
    have n3 : ¬ nI cnt = 3 := fun z => by have := (nI_eq (b := 3) (by omega) (by decide)).mp z; omega
    exact ⟨12, pl, tr, ps, ct, sy, s, hl, ht, hp, by omega, fun post h => br_f n1 (br_f n2 (br_f n2 (br_f n3 h))), fun post h => br_f n1 (br_f n2 (br_f n2 (br_f n3 h)))⟩
end
end
section
/-! the calls: each side by its own conditions -/
theorem sw_I_nI {n a : Nat} (h : a < 2 ^ 31) (hn : n ≤ 2 ^ 31) : sw_I n (nI a) ↔ a < n := by
  constructor
  · rintro ⟨j, hj, e⟩
    rw [nI_eq h (by omega)] at e
    omega
  · intro z
    exact ⟨a, z, rfl⟩
theorem sw_I_in {n : Nat} {x : Int32} (h : sw_I n x) (hn : n < 2 ^ 31) : vp_in x n := by
  obtain ⟨j, hj, rfl⟩ := h
  exact vp_in_nI hj hn
theorem sw_I_lt0 {n : Nat} {x : Int32} (hn : n ≤ 2 ^ 31) (h : x < 0) : ¬ sw_I n x := by
  rintro ⟨j, hj, rfl⟩
  exact nI_pos (by omega) h
def sw_Cd (x : Int32) : Prop := ∃ q, sw_cv q ∧ x = nI q
def sw_Ef (x : Int32) : Prop := ∃ q, sw_ev q ∧ x = nI q
theorem sw_Cd_nI {q : Nat} (h : q < 2 ^ 31) : sw_Cd (nI q) ↔ sw_cv q := by
  constructor
  · rintro ⟨j, hj, e⟩
    have := hj.1
    rw [nI_eq h (by omega)] at e
    rw [e]
    exact hj
  · intro z
    exact ⟨q, z, rfl⟩
theorem sw_Ef_nI {q : Nat} (h : q < 2 ^ 31) : sw_Ef (nI q) ↔ sw_ev q := by
  constructor
  · rintro ⟨j, hj, e⟩
    have := hj.1
    rw [nI_eq h (by omega)] at e
    rw [e]
    exact hj
  · intro z
    exact ⟨q, z, rfl⟩
def sw_Sb (v x : Int32) : Prop := x = -1 ∨ (v = 0 ∧ sw_I 4 x) ∨ (¬ v = 0 ∧ sw_I 8 x)
theorem sw_xsubj {post : Int32 → Prop} {v x : Int32} (h1 : sw_Sb v x → post 1) (h0 : ¬ sw_Sb v x → post 0) : wpX_isSubject post v x := by
  refine br_c (fun a => h1 (Or.inl a)) (fun a => br_c (fun b => ?_) (fun b => ?_))
  · rw [sw_xDir]
    exact ⟨fun c => ⟨sw_nb1, h1 (Or.inr (Or.inl ⟨b, c⟩))⟩, fun c => ⟨sw_nb0, h0 (fun z => z.elim a (fun z => z.elim (fun z => c z.2) (fun z => z.1 b)))⟩⟩
  · rw [sw_xThing]
    exact ⟨fun c => ⟨sw_nb1, h1 (Or.inr (Or.inr ⟨b, c⟩))⟩, fun c => ⟨sw_nb0, h0 (fun z => z.elim a (fun z => z.elim (fun z => b z.1) (fun z => c z.2)))⟩⟩
theorem sw_xcond {post : Int32 → Prop} {x : Int32} (h1 : sw_Cd x → post 1) (h0 : ¬ sw_Cd x → post 0) : wpX_isCondition post x := by
  by_cases hx : x < 0
  · refine br_t hx (h0 ?_)
    rintro ⟨q, hq, rfl⟩
    have := hq.1
    exact nI_pos (by omega) hx
  · refine br_f hx ?_
    obtain ⟨q, hq, rfl⟩ := nI_of hx
    rw [sw_Cd_nI hq] at h1 h0
    by_cases hb : q ≤ 1023
    · refine br_t (nI_le (b := 1023) hb (by decide)) ?_
      unfold wpX_firstOf wpX_secondOf wpX_kindOf
      rw [sw_first (by omega), sw_second (by omega), sw_and3 (by omega)]
      have h4 : q % 4 = 0 ∨ q % 4 = 1 ∨ q % 4 = 2 ∨ q % 4 = 3 := by omega
      have hB : q / 64 % 16 = q / 64 := by omega
      unfold sw_cv at h1 h0
      rcases h4 with k | k | k | k
      · rw [k]
        exact br_f (by decide) (br_f (by decide) (br_t rfl (h1 (by omega))))
      · rw [k]
        refine br_f (by decide) (br_f (by decide) (br_f (by decide) (br_t rfl ?_)))
        rw [sw_xCtr, sw_I_nI (by omega) (by decide)]
        exact ⟨fun c => ⟨sw_nb1, h1 (by omega)⟩, fun c => ⟨sw_nb0, h0 (by omega)⟩⟩
      · rw [k]
        refine br_f (by decide) (br_f (by decide) (br_f (by decide) (br_f (by decide) (br_t rfl ?_))))
        rw [sw_xThing, sw_I_nI (by omega) (by decide)]
        exact ⟨fun c => ⟨sw_nb1, h1 (by omega)⟩, fun c => ⟨sw_nb0, h0 (by omega)⟩⟩
      · rw [k, hB]
        refine br_f (by decide) (br_t (by decide) ?_)
        rw [sw_xThing, sw_I_nI (by omega) (by decide)]
        refine ⟨fun c => br_f sw_n10 (pk_le 4 (q / 64) (fun d => h0 (by omega)) (fun d => h1 (by omega))), fun c => br_t rfl (h0 (by omega))⟩
    · refine br_f (nI_ge (a := 1023) (by omega) hq) (h0 ?_)
      intro z
      have := z.1
      omega
theorem sw_xeff {post : Int32 → Prop} {x : Int32} (h1 : sw_Ef x → post 1) (h0 : ¬ sw_Ef x → post 0) : wpX_isEffect post x := by
  by_cases hx : x < 0
  · refine br_t hx (h0 ?_)
    rintro ⟨q, hq, rfl⟩
    have := hq.1
    exact nI_pos (by omega) hx
  · refine br_f hx ?_
    obtain ⟨q, hq, rfl⟩ := nI_of hx
    rw [sw_Ef_nI hq] at h1 h0
    by_cases hb : q ≤ 2047
    · refine br_t (nI_le (b := 2047) hb (by decide)) ?_
      unfold wpX_firstOf wpX_kindOf
      rw [sw_first (by omega), sw_and3 (by omega)]
      have h4 : q % 4 = 0 ∨ q % 4 = 1 ∨ q % 4 = 2 ∨ q % 4 = 3 := by omega
      unfold sw_ev at h1 h0
      rcases h4 with k | k | k | k
      · rw [k]
        exact br_f (by decide) (br_f (by decide) (br_t rfl (h1 (by omega))))
      · rw [k]
        refine br_f (by decide) (br_f (by decide) (br_f (by decide) (br_t rfl ?_)))
        rw [sw_xThing, sw_I_nI (by omega) (by decide)]
        exact ⟨fun c => ⟨sw_nb1, h1 (by omega)⟩, fun c => ⟨sw_nb0, h0 (by omega)⟩⟩
      · rw [k]
        refine br_f (by decide) (br_f (by decide) (br_f (by decide) (br_f (by decide) (br_t rfl ?_))))
        rw [sw_xCtr, sw_I_nI (by omega) (by decide)]
        exact ⟨fun c => ⟨sw_nb1, h1 (by omega)⟩, fun c => ⟨sw_nb0, h0 (by omega)⟩⟩
      · rw [k]
        refine br_f (by decide) (br_t (by decide) ?_)
        rw [sw_xRoom, sw_I_nI (by omega) (by decide)]
        exact ⟨fun c => ⟨sw_nb1, h1 (by omega)⟩, fun c => ⟨sw_nb0, h0 (by omega)⟩⟩
    · refine br_f (nI_ge (a := 2047) (by omega) hq) (h0 ?_)
      intro z
      have := z.1
      omega
section
variable {pl wc rc tc sc : Int32} {dk ex tr ps ct wl wm rv rs rn re ty se sy ll : Nat → Int32}
theorem sw_ycond {post : Int32 → Prop} {x : Int32} (h1 : sw_Cd x → post 1) (h0 : ¬ sw_Cd x → post 0) : wpY_isCondition post (pl, rc, wc, tc, sc, dk, ex, tr, ps, ct, rv, rs, rn, re, ll, wm, ty, sy) x := by
  unfold wpY_isCondition
  dsimp only
  rw [sw_yin1023]
  constructor
  · rintro ⟨q, hq, rfl⟩
    rw [sw_Cd_nI (by omega)] at h1 h0
    refine br_f sw_n10 (nm_r (sw_and3 (by omega)) (nm_r (sw_first (by omega)) (nm_r (sw_shr6 (by omega)) ?_)))
    have h4 : q % 4 = 0 ∨ q % 4 = 1 ∨ q % 4 = 2 ∨ q % 4 = 3 := by omega
    unfold sw_cv at h1 h0
    rcases h4 with k | k | k | k
    · rw [k]
      exact br_t rfl (h1 (by omega))
    · rw [k]
      exact br_f (by decide) (br_t rfl (pk_lt (q / 4 % 16) 4 (fun c => h1 (by omega)) (fun c => br_f (by decide) (br_f (by decide) (h0 (by omega))))))
    · rw [k]
      exact br_f (by decide) (br_f (by decide) (br_t rfl (pk_lt (q / 4 % 16) 8 (fun c => h1 (by omega)) (fun c => br_f (by decide) (h0 (by omega))))))
    · rw [k]
      exact br_f (by decide) (br_f (by decide) (br_f (by decide) (br_t rfl (pk_le 8 (q / 4 % 16) (fun c => h0 (by omega)) (fun c => pk_le 4 (q / 64) (fun d => h0 (by omega)) (fun d => h1 (by omega)))))))
  · intro a
    refine br_t rfl (h0 ?_)
    rintro ⟨q, hq, rfl⟩
    exact a ⟨q, hq.1, rfl⟩
theorem sw_yeff {post : Int32 → Prop} {x : Int32} (h1 : sw_Ef x → post 1) (h0 : ¬ sw_Ef x → post 0) : wpY_isEffect post (pl, rc, wc, tc, sc, dk, ex, tr, ps, ct, rv, rs, rn, re, ll, wm, ty, sy) x := by
  unfold wpY_isEffect
  dsimp only
  rw [sw_yin2047]
  constructor
  · rintro ⟨q, hq, rfl⟩
    rw [sw_Ef_nI (by omega)] at h1 h0
    refine br_f sw_n10 (nm_r (sw_and3 (by omega)) (nm_r (sw_first (by omega)) ?_))
    have h4 : q % 4 = 0 ∨ q % 4 = 1 ∨ q % 4 = 2 ∨ q % 4 = 3 := by omega
    unfold sw_ev at h1 h0
    rcases h4 with k | k | k | k
    · rw [k]
      exact br_t rfl (h1 (by omega))
    · rw [k]
      exact br_f (by decide) (br_t rfl (pk_lt (q / 4 % 16) 8 (fun c => h1 (by omega)) (fun c => br_f (by decide) (br_f (by decide) (h0 (by omega))))))
    · rw [k]
      exact br_f (by decide) (br_f (by decide) (br_t rfl (pk_lt (q / 4 % 16) 4 (fun c => h1 (by omega)) (fun c => br_f (by decide) (h0 (by omega))))))
    · rw [k]
      exact br_f (by decide) (br_f (by decide) (br_f (by decide) (br_t rfl (pk_le 6 (q / 4 % 16) (fun c => h0 (by omega)) (fun c => h1 (by omega))))))
  · intro a
    refine br_t rfl (h0 ?_)
    rintro ⟨q, hq, rfl⟩
    exact a ⟨q, hq.1, rfl⟩
/-! link -/
theorem sw_lk {v1 v2 : Int32} (h1 : sw_I 6 v1) (h2 : sw_I 4 v2) : vp_in (v1 * 4 + v2) 24 := by
  obtain ⟨a, ha, rfl⟩ := h1
  obtain ⟨b, hb, rfl⟩ := h2
  have e1 : nI a * 4 + nI b = nI (a * 4 + b) := by
    rw [← nI_add, ← pk_mul]
    rfl
  rw [e1]
  exact vp_in_nI (by omega) (by decide)
theorem sw_xlink {post : Int32 → SX → Prop} {v1 v2 v3 : Int32} (h1 : sw_I 6 v1 ∧ sw_I 4 v2 ∧ (v3 = -1 ∨ sw_I 6 v3) → post 1 (pl, wc, rc, tc, sc, dk, upd ex (v1 * 4 + v2).toNatClampNeg v3, tr, ps, ct, wl, wm, rv, rs, rn, re, ty, se, sy)) (h0 : ¬ (sw_I 6 v1 ∧ sw_I 4 v2 ∧ (v3 = -1 ∨ sw_I 6 v3)) → post 0 (pl, wc, rc, tc, sc, dk, ex, tr, ps, ct, wl, wm, rv, rs, rn, re, ty, se, sy)) : wpX_link post (pl, wc, rc, tc, sc, dk, ex, tr, ps, ct, wl, wm, rv, rs, rn, re, ty, se, sy) v1 v2 v3 := by
  unfold wpX_link
  dsimp only
  rw [sw_xRoom]
  refine ⟨fun a => br_f sw_n10 ?_, fun a => br_t rfl (h0 (fun z => a z.1))⟩
  rw [sw_xDir]
  refine ⟨fun b => br_f sw_n10 (br_c (fun c => ⟨sw_lk a b, nm_e (h1 ⟨a, b, Or.inl c⟩)⟩) (fun c => ?_)), fun b => br_t rfl (h0 (fun z => b z.2.1))⟩
  rw [sw_xRoom]
  exact ⟨fun d => br_f sw_n10 ⟨sw_lk a b, nm_e (h1 ⟨a, b, Or.inr d⟩)⟩, fun d => br_t rfl (h0 (fun z => z.2.2.elim c d))⟩
theorem sw_ylink {post : Int32 → SY → Prop} {v1 v2 v3 : Int32} (h1 : sw_I 6 v1 ∧ sw_I 4 v2 ∧ (v3 = -1 ∨ sw_I 6 v3) → post 1 (pl, rc, wc, tc, sc, dk, upd ex (v1 * 4 + v2).toNatClampNeg v3, tr, ps, ct, rv, rs, rn, re, ll, wm, ty, sy)) (h0 : ¬ (sw_I 6 v1 ∧ sw_I 4 v2 ∧ (v3 = -1 ∨ sw_I 6 v3)) → post 0 (pl, rc, wc, tc, sc, dk, ex, tr, ps, ct, rv, rs, rn, re, ll, wm, ty, sy)) : wpY_link post (pl, rc, wc, tc, sc, dk, ex, tr, ps, ct, rv, rs, rn, re, ll, wm, ty, sy) v1 v2 v3 := by
  unfold wpY_link
  dsimp only
  rw [sw_yin5]
  refine ⟨fun a => br_f sw_n10 ?_, fun a => br_t rfl (h0 (fun z => a z.1))⟩
  rw [sw_yin3]
  refine ⟨fun b => br_f sw_n10 ?_, fun b => br_t rfl (h0 (fun z => b z.2.1))⟩
  rw [sw_yinm5, Int32.mul_comm 4 v1]
  exact ⟨fun d => br_f sw_n10 ⟨sw_lk a b, nm_e (h1 ⟨a, b, d⟩)⟩, fun d => br_t rfl (h0 (fun z => d z.2.2))⟩
/-! thing -/
def sw_Th (ps : Nat → Int32) (v1 v2 v3 : Int32) : Prop := sw_I 8 v1 ∧ sw_I 16 v2 ∧ sw_I 16 v3 ∧ sw_w (sw_n ps) v1.toNatClampNeg 8 v3.toNatClampNeg = false
theorem sw_xthing {post : Int32 → SX → Prop} {v1 v2 v3 : Int32} (hp : sw_R 16 ps) (h1 : sw_Th ps v1 v2 v3 → post 1 (pl, wc, rc, tc, sc, dk, ex, upd tr v1.toNatClampNeg v2, upd ps v1.toNatClampNeg v3, ct, wl, wm, rv, rs, rn, re, ty, se, sy)) (h0 : ¬ sw_Th ps v1 v2 v3 → post 0 (pl, wc, rc, tc, sc, dk, ex, tr, ps, ct, wl, wm, rv, rs, rn, re, ty, se, sy)) : wpX_thing post (pl, wc, rc, tc, sc, dk, ex, tr, ps, ct, wl, wm, rv, rs, rn, re, ty, se, sy) v1 v2 v3 := by
  unfold wpX_thing
  dsimp only
  rw [sw_xThing]
  refine ⟨fun a => br_f sw_n10 ?_, fun a => br_t rfl (h0 (fun z => a z.1))⟩
  refine br_c (fun b => h0 (fun z => sw_I_lt0 (by decide) b z.2.1)) (fun b => ?_)
  obtain ⟨m2, hm2, rfl⟩ := nI_of b
  refine pk_lt 15 m2 (fun c => h0 (fun z => ?_)) (fun c => ?_)
  · have := (sw_I_nI hm2 (by decide)).mp z.2.1
    omega
  · refine br_c (fun d => h0 (fun z => sw_I_lt0 (by decide) d z.2.2.1)) (fun d => ?_)
    obtain ⟨m3, hm3, rfl⟩ := nI_of d
    refine pk_le m3 15 (fun e => ?_) (fun e => h0 (fun z => ?_))
    · obtain ⟨t, ht, rfl⟩ := a
      have c1 : (nI t).toNatClampNeg = t := nI_clamp (by omega)
      have c3 : (nI m3).toNatClampNeg = m3 := nI_clamp (by omega)
      have hv : vp_in (nI t) 8 := vp_in_nI ht (by decide)
      refine sw_xw hp ht (by omega) ?_
      unfold sw_Th at h1 h0
      rw [c1, c3] at h1 h0
      rw [c1]
      cases hw : sw_w (sw_n ps) t 8 m3
      · exact br_t rfl ⟨hv, nm_e ⟨hv, nm_e (h1 ⟨⟨t, ht, rfl⟩, ⟨m2, by omega, rfl⟩, ⟨m3, by omega, rfl⟩, hw⟩)⟩⟩
      · refine br_f (by decide) (h0 (fun z => ?_))
        have := z.2.2.2
        rw [hw] at this
        exact absurd this (by decide)
    · have := (sw_I_nI hm3 (by decide)).mp z.2.2.1
      omega
theorem sw_ything {post : Int32 → SY → Prop} {v1 v2 v3 : Int32} (hp : sw_R 16 ps) (h1 : sw_Th ps v1 v2 v3 → post 1 (pl, rc, wc, tc, sc, dk, ex, upd tr v1.toNatClampNeg v2, upd ps v1.toNatClampNeg v3, ct, rv, rs, rn, re, ll, wm, ty, sy)) (h0 : ¬ sw_Th ps v1 v2 v3 → post 0 (pl, rc, wc, tc, sc, dk, ex, tr, ps, ct, rv, rs, rn, re, ll, wm, ty, sy)) : wpY_thing post (pl, rc, wc, tc, sc, dk, ex, tr, ps, ct, rv, rs, rn, re, ll, wm, ty, sy) v1 v2 v3 := by
  unfold wpY_thing
  dsimp only
  rw [sw_yThing]
  refine ⟨fun a => br_f sw_n10 ?_, fun a => br_t rfl (h0 (fun z => a z.1))⟩
  rw [sw_yin15]
  refine ⟨fun b => br_f sw_n10 ?_, fun b => br_t rfl (h0 (fun z => b z.2.1))⟩
  rw [sw_yin15]
  refine ⟨fun c => br_f sw_n10 ?_, fun c => br_t rfl (h0 (fun z => c z.2.2.1))⟩
  obtain ⟨t, ht, rfl⟩ := a
  obtain ⟨m3, hm3, rfl⟩ := c
  have c1 : (nI t).toNatClampNeg = t := nI_clamp (by omega)
  have c3 : (nI m3).toNatClampNeg = m3 := nI_clamp (by omega)
  have hv : vp_in (nI t) 8 := vp_in_nI ht (by decide)
  refine sw_ycb hp ht hm3 ?_
  unfold sw_Th at h1 h0
  rw [c1, c3] at h1 h0
  rw [c1]
  cases hw : sw_w (sw_n ps) t 8 m3
  · exact br_f (by decide) ⟨hv, nm_e ⟨hv, nm_e (h1 ⟨⟨t, ht, rfl⟩, b, ⟨m3, hm3, rfl⟩, hw⟩)⟩⟩
  · refine br_t rfl (h0 (fun z => ?_))
    have := z.2.2.2
    rw [hw] at this
    exact absurd this (by decide)
/-! rule -/
def sw_Ru (v1 v2 v3 v4 : Int32) : Prop := sw_I 6 v1 ∧ sw_Sb v1 v2 ∧ sw_Cd v3 ∧ sw_Ef v4
theorem sw_xrule {post : Int32 → SX → Prop} {v1 v2 v3 v4 : Int32} {r : Nat} (hr : r ≤ 16) (h2 : r = 16 → post (-2) (pl, wc, nI r, tc, sc, dk, ex, tr, ps, ct, wl, wm, rv, rs, rn, re, ty, se, sy)) (h1 : r < 16 → sw_Ru v1 v2 v3 v4 → post (nI (r + 1)) (pl, wc, nI (r + 1), tc, sc, dk, ex, tr, ps, ct, wl, wm, upd rv r v1, upd rs r v2, upd rn r v3, upd re r v4, ty, se, sy)) (h0 : r < 16 → ¬ sw_Ru v1 v2 v3 v4 → post (-1) (pl, wc, nI r, tc, sc, dk, ex, tr, ps, ct, wl, wm, rv, rs, rn, re, ty, se, sy)) : wpX_rule post (pl, wc, nI r, tc, sc, dk, ex, tr, ps, ct, wl, wm, rv, rs, rn, re, ty, se, sy) v1 v2 v3 v4 := by
  refine pk_lt r 16 (fun h => ?_) (fun h => h2 (by omega))
  have hv : vp_in (nI r) 16 := vp_in_nI h (by decide)
  have hc : (nI r).toNatClampNeg = r := nI_clamp (by omega)
  rw [sw_xVerb]
  refine ⟨fun a => br_f sw_n10 (sw_xsubj (fun b => br_f sw_n10 (sw_xcond (fun c => br_f sw_n10 (sw_xeff (fun d => br_f sw_n10 ?_) (fun d => br_t rfl (h0 h (fun z => d z.2.2.2))))) (fun c => br_t rfl (h0 h (fun z => c z.2.2.1))))) (fun b => br_t rfl (h0 h (fun z => b z.2.1)))), fun a => br_t rfl (h0 h (fun z => a z.1))⟩
  rw [hc]
  exact ⟨hv, nm_e ⟨hv, nm_e ⟨hv, nm_e ⟨hv, nm_e (nm_r (nI_1 r) (h1 h ⟨a, b, c, d⟩))⟩⟩⟩⟩
theorem sw_yrule {post : Int32 → SY → Prop} {v1 v2 v3 v4 : Int32} {r : Nat} (hr : r ≤ 16) (h2 : r = 16 → post (-2) (pl, nI r, wc, tc, sc, dk, ex, tr, ps, ct, rv, rs, rn, re, ll, wm, ty, sy)) (h1 : r < 16 → sw_Ru v1 v2 v3 v4 → post (nI (r + 1)) (pl, nI (r + 1), wc, tc, sc, dk, ex, tr, ps, ct, upd rv r v1, upd rs r v2, upd rn r v3, upd re r v4, ll, wm, ty, sy)) (h0 : r < 16 → ¬ sw_Ru v1 v2 v3 v4 → post (-1) (pl, nI r, wc, tc, sc, dk, ex, tr, ps, ct, rv, rs, rn, re, ll, wm, ty, sy)) : wpY_rule post (pl, nI r, wc, tc, sc, dk, ex, tr, ps, ct, rv, rs, rn, re, ll, wm, ty, sy) v1 v2 v3 v4 := by
  refine pk_eq r 16 (fun h => h2 h) (fun hne => ?_)
  have h : r < 16 := by omega
  have hv : vp_in (nI r) 16 := vp_in_nI h (by decide)
  have hc : (nI r).toNatClampNeg = r := nI_clamp (by omega)
  rw [sw_yin5]
  refine ⟨fun a => br_f sw_n10 (br_c (fun e => ?_) (fun e => ?_)), fun a => br_t rfl (h0 h (fun z => a z.1))⟩
  · unfold wY_rule_35
    rw [sw_yinm3]
    refine ⟨fun b => br_f sw_n10 (sw_ycond (fun c => br_f sw_n10 (sw_yeff (fun d => br_f sw_n10 ?_) (fun d => br_t rfl (h0 h (fun z => d z.2.2.2))))) (fun c => br_t rfl (h0 h (fun z => c z.2.2.1)))), fun b => br_t rfl (h0 h (fun z => b (z.2.1.elim Or.inl (fun y => y.elim (fun y => Or.inr y.2) (fun y => absurd e y.1)))))⟩
    rw [hc]
    exact ⟨hv, nm_e ⟨hv, nm_e ⟨hv, nm_e ⟨hv, nm_e (nm_r (nI_1 r) (h1 h ⟨a, b.elim Or.inl (fun y => Or.inr (Or.inl ⟨e, y⟩)), c, d⟩))⟩⟩⟩⟩
  · unfold wY_rule_35
    rw [sw_yinm7]
    refine ⟨fun b => br_f sw_n10 (sw_ycond (fun c => br_f sw_n10 (sw_yeff (fun d => br_f sw_n10 ?_) (fun d => br_t rfl (h0 h (fun z => d z.2.2.2))))) (fun c => br_t rfl (h0 h (fun z => c z.2.2.1)))), fun b => br_t rfl (h0 h (fun z => b (z.2.1.elim Or.inl (fun y => y.elim (fun y => absurd y.1 e) (fun y => Or.inr y.2)))))⟩
    rw [hc]
    exact ⟨hv, nm_e ⟨hv, nm_e ⟨hv, nm_e ⟨hv, nm_e (nm_r (nI_1 r) (h1 h ⟨a, b.elim Or.inl (fun y => Or.inr (Or.inr ⟨e, y⟩)), c, d⟩))⟩⟩⟩⟩
/-! type -/
def sw_Ch (v : Int32) : Prop := v = 32 ∨ sw_I 26 (v - 97)
theorem sw_xtype {post : Int32 → SX → Prop} {v : Int32} {t : Nat} (ht : t ≤ 30) (h1 : t < 30 → sw_Ch v → post 1 (pl, wc, rc, nI (t + 1), sc, dk, ex, tr, ps, ct, wl, wm, rv, rs, rn, re, upd ty t v, se, sy)) (h0 : ¬ (t < 30 ∧ sw_Ch v) → post 0 (pl, wc, rc, nI t, sc, dk, ex, tr, ps, ct, wl, wm, rv, rs, rn, re, ty, se, sy)) : wpX_type post (pl, wc, rc, nI t, sc, dk, ex, tr, ps, ct, wl, wm, rv, rs, rn, re, ty, se, sy) v := by
  have h30 : sw_Ch v → wX_type_30 post v pl wc rc (nI t) sc dk ex tr ps ct wl wm rv rs rn re ty se sy := by
    intro hv
    refine pk_lt t 30 (fun h => ⟨vp_in_nI h (by decide), nm_r (e' := upd ty t v) (by rw [nI_clamp (by omega)]) (nm_r (nI_1 t) (h1 h hv))⟩) (fun h => h0 (fun z => by omega))
  have h16 : ¬ sw_I 26 (v - 97) → wX_type_16 post v pl wc rc (nI t) sc dk ex tr ps ct wl wm rv rs rn re ty se sy := by
    intro hn
    exact br_t rfl (br_c (fun e => h30 (Or.inl e)) (fun e => h0 (fun z => z.2.elim e hn)))
  refine br_c (fun a => h16 (fun z => ?_)) (fun a => br_c (fun b => h16 (fun z => ?_)) (fun b => br_f sw_n10 (h30 (Or.inr ?_))))
  · obtain ⟨j, hj, rfl⟩ := (sw_sub (a := 97)).mp z
    have := (nI_ltI (b := 97) (by omega) (by decide)).mp a
    omega
  · obtain ⟨j, hj, rfl⟩ := (sw_sub (a := 97)).mp z
    have := (nI_ltI (a := 122) (by decide) (by omega)).mp b
    omega
  · have hx0 : ¬ v < 0 := fun z => a (Int32.lt_trans z (by decide))
    obtain ⟨m, hm, rfl⟩ := nI_of hx0
    have a' : ¬ m < 97 := fun z => a (nI_lt (b := 97) z (by decide))
    have b' : ¬ 122 < m := fun z => b (nI_lt (a := 122) z hm)
    exact (sw_sub (a := 97)).mpr ⟨m - 97, by omega, by rw [show 97 + (m - 97) = m by omega]⟩
theorem sw_ytype {post : Int32 → SY → Prop} {v : Int32} {t : Nat} (ht : t ≤ 30) (h1 : t < 30 → sw_Ch v → post 1 (pl, rc, wc, nI (t + 1), sc, dk, ex, tr, ps, ct, rv, rs, rn, re, ll, wm, upd ty t v, sy)) (h0 : ¬ (t < 30 ∧ sw_Ch v) → post 0 (pl, rc, wc, nI t, sc, dk, ex, tr, ps, ct, rv, rs, rn, re, ll, wm, ty, sy)) : wpY_type post (pl, rc, wc, nI t, sc, dk, ex, tr, ps, ct, rv, rs, rn, re, ll, wm, ty, sy) v := by
  refine pk_eq t 30 (fun h => h0 (fun z => by omega)) (fun h => ?_)
  have h29 : sw_Ch v → wY_type_29 post v pl rc wc (nI t) sc dk ex tr ps ct rv rs rn re ll wm ty sy := fun hv => ⟨vp_in_nI (by omega) (by decide), nm_r (e' := upd ty t v) (by rw [nI_clamp (by omega)]) (nm_r (nI_1 t) (h1 (by omega) hv))⟩
  refine br_c (fun a => h29 (Or.inl a)) (fun a => ?_)
  rw [sw_yin122]
  exact ⟨fun b => br_f sw_n10 (h29 (Or.inr b)), fun b => br_t rfl (h0 (fun z => z.2.elim a b))⟩
/-! command -/
def sw_Cm (v1 v2 v3 : Int32) : Prop := sw_I 6 v1 ∧ ((v1 = 0 ∧ sw_I 4 v2) ∨ (¬ v1 = 0 ∧ sw_I 8 v2)) ∧ (v1 = 3 → sw_I 8 v3)
theorem sw_xcmd {post : Int32 → SX → Prop} {v1 v2 v3 : Int32} (h1 : sw_Cm v1 v2 v3 → wpX_perform post (pl, wc, rc, tc, sc, dk, ex, tr, ps, ct, wl, wm, rv, rs, rn, re, ty, se, sy) v1 v2 v3) (h0 : ¬ sw_Cm v1 v2 v3 → post (-1) (pl, wc, rc, tc, sc, dk, ex, tr, ps, ct, wl, wm, rv, rs, rn, re, ty, se, sy)) : wpX_command post (pl, wc, rc, tc, sc, dk, ex, tr, ps, ct, wl, wm, rv, rs, rn, re, ty, se, sy) v1 v2 v3 := by
  unfold wpX_command
  dsimp only
  rw [sw_xVerb]
  refine ⟨fun a => br_f sw_n10 (br_c (fun e => ?_) (fun e => ?_)), fun a => br_t rfl (h0 (fun z => a z.1))⟩
  · rw [sw_xDir]
    refine ⟨fun b => br_f sw_n10 (br_c (fun c => ?_) (fun c => h1 ⟨a, Or.inl ⟨e, b⟩, fun z => absurd z c⟩)), fun b => br_t rfl (h0 (fun z => z.2.1.elim (fun y => b y.2) (fun y => y.1 e)))⟩
    exact absurd (e.symm.trans c) (by decide)
  · rw [sw_xThing]
    refine ⟨fun b => br_f sw_n10 (br_c (fun c => ?_) (fun c => h1 ⟨a, Or.inr ⟨e, b⟩, fun z => absurd z c⟩)), fun b => br_t rfl (h0 (fun z => z.2.1.elim (fun y => e y.1) (fun y => b y.2)))⟩
    rw [sw_xThing]
    exact ⟨fun d => br_f sw_n10 (h1 ⟨a, Or.inr ⟨e, b⟩, fun _ => d⟩), fun d => br_t rfl (h0 (fun z => d (z.2.2 c)))⟩
theorem sw_ycmd {post : Int32 → SY → Prop} {v1 v2 v3 : Int32} (h1 : sw_Cm v1 v2 v3 → wpY_carryOut post (pl, rc, wc, tc, sc, dk, ex, tr, ps, ct, rv, rs, rn, re, ll, wm, ty, sy) v1 v2 v3) (h0 : ¬ sw_Cm v1 v2 v3 → post (-1) (pl, rc, wc, tc, sc, dk, ex, tr, ps, ct, rv, rs, rn, re, ll, wm, ty, sy)) : wpY_command post (pl, rc, wc, tc, sc, dk, ex, tr, ps, ct, rv, rs, rn, re, ll, wm, ty, sy) v1 v2 v3 := by
  unfold wpY_command
  dsimp only
  rw [sw_yin5]
  refine ⟨fun a => br_f sw_n10 (br_c (fun e => ?_) (fun e => ?_)), fun a => br_t rfl (h0 (fun z => a z.1))⟩
  · unfold wY_command_23
    rw [sw_yin3]
    refine ⟨fun b => br_f sw_n10 (br_c (fun c => ?_) (fun c => h1 ⟨a, Or.inl ⟨e, b⟩, fun z => absurd z c⟩)), fun b => br_t rfl (h0 (fun z => z.2.1.elim (fun y => b y.2) (fun y => y.1 e)))⟩
    exact absurd (e.symm.trans c) (by decide)
  · unfold wY_command_23
    rw [sw_yin7]
    refine ⟨fun b => br_f sw_n10 (br_c (fun c => ?_) (fun c => h1 ⟨a, Or.inr ⟨e, b⟩, fun z => absurd z c⟩)), fun b => br_t rfl (h0 (fun z => z.2.1.elim (fun y => e y.1) (fun y => b y.2)))⟩
    rw [sw_yThing]
    exact ⟨fun d => br_f sw_n10 (h1 ⟨a, Or.inr ⟨e, b⟩, fun _ => d⟩), fun d => br_t rfl (h0 (fun z => d (z.2.2 c)))⟩
end
end
section
/-! word; a new object -/
section
variable {pl wc rc tc sc : Int32} {dk ex tr ps ct wl wm rv rs rn re ty se sy ll : Nat → Int32}
theorem sw_W_u {w n : Nat} (hW : sw_W w wl ll) (hn : n < 531441) : sw_W (w + 1) (upd wl w (nI n)) (upd (upd (upd (upd ll (4 * w) (nI (n % 27))) (4 * w + 1) (nI (n / 27 % 27))) (4 * w + 2) (nI (n / 729 % 27))) (4 * w + 3) (nI (n / 19683 % 27))) := by
  intro i hi
  by_cases e : i = w
  · subst e
    refine ⟨n, hn, pk_us, ?_, ?_, ?_, pk_us⟩
    · rw [pk_un (by omega), pk_un (by omega), pk_un (by omega), pk_us]
    · rw [pk_un (by omega), pk_un (by omega), pk_us]
    · rw [pk_un (by omega), pk_us]
  · obtain ⟨m, hm, e0, e1, e2, e3, e4⟩ := hW i (by omega)
    refine ⟨m, hm, ?_, ?_, ?_, ?_, ?_⟩
    · rw [pk_un e]; exact e0
    · rw [pk_un (by omega), pk_un (by omega), pk_un (by omega), pk_un (by omega)]; exact e1
    · rw [pk_un (by omega), pk_un (by omega), pk_un (by omega), pk_un (by omega)]; exact e2
    · rw [pk_un (by omega), pk_un (by omega), pk_un (by omega), pk_un (by omega)]; exact e3
    · rw [pk_un (by omega), pk_un (by omega), pk_un (by omega), pk_un (by omega)]; exact e4
theorem sw_ywl {post : Int32 → SY → Prop} {w n k : Nat} {v2 : Int32} (hn : n < 531441) (hO : sw_O (nI n)) (hM : sw_Mn v2) (hf : ∀ post : Int32 → Prop, (k < w → post (nI k)) → (k = w → post (-1)) → wpY_find post (pl, rc, nI w, tc, sc, dk, ex, tr, ps, ct, rv, rs, rn, re, ll, wm, ty, sy) (nI (n % 27)) (nI (n / 27 % 27)) (nI (n / 729 % 27)) (nI (n / 19683 % 27))) (hw : w ≤ 24) (h1 : k < w → wY_word_149 post v2 (nI k) pl rc (nI w) tc sc dk ex tr ps ct rv rs rn re ll wm ty sy) (h2 : k = w → w = 24 → post (-2) (pl, rc, nI w, tc, sc, dk, ex, tr, ps, ct, rv, rs, rn, re, ll, wm, ty, sy)) (h3 : k = w → w < 24 → wY_word_149 post v2 (nI w) pl rc (nI (w + 1)) tc sc dk ex tr ps ct rv rs rn re (upd (upd (upd (upd ll (4 * w) (nI (n % 27))) (4 * w + 1) (nI (n / 27 % 27))) (4 * w + 2) (nI (n / 729 % 27))) (4 * w + 3) (nI (n / 19683 % 27))) wm ty sy) : wpY_word post (pl, rc, nI w, tc, sc, dk, ex, tr, ps, ct, rv, rs, rn, re, ll, wm, ty, sy) (nI n) v2 := by
  unfold wpY_word
  refine sw_yword (fun _ => br_f sw_n10 (sw_ymeans (fun _ => br_f sw_n10 ?_) (fun z => absurd hM z))) (fun z => absurd hO z)
  refine sw_ylet 0 (by decide) (by omega) (sw_ylet 1 (by decide) (by omega) (sw_ylet 2 (by decide) (by omega) (sw_ylet 3 (by decide) (by omega) ?_)))
  have e0 : n / 27 ^ 0 % 27 = n % 27 := by rw [Nat.pow_zero, Nat.div_one]
  have e1 : n / 27 ^ 1 % 27 = n / 27 % 27 := rfl
  have e2 : n / 27 ^ 2 % 27 = n / 729 % 27 := rfl
  have e3 : n / 27 ^ 3 % 27 = n / 19683 % 27 := rfl
  rw [e0, e1, e2, e3]
  refine hf _ (fun hk => br_t (nI_pos' (by omega)) (br_t (nI_pos' (by omega)) (h1 hk))) (fun hk => br_f (by decide) (pk_eq w 24 (fun h => h2 hk h) (fun h => br_f (by decide) (nm_r (nI_1 w) ?_))))
  have e4 : 4 * nI w = nI (4 * w) := pk_mul 4 w
  have e41 : nI (4 * w) + 1 = nI (4 * w + 1) := nI_1 _
  have e42 : nI (4 * w) + 2 = nI (4 * w + 2) := nI_add _ 2
  have e43 : nI (4 * w) + 3 = nI (4 * w + 3) := nI_add _ 3
  have c0 : (nI (4 * w)).toNatClampNeg = 4 * w := nI_clamp (by omega)
  have c1 : (nI (4 * w + 1)).toNatClampNeg = 4 * w + 1 := nI_clamp (by omega)
  have c2 : (nI (4 * w + 2)).toNatClampNeg = 4 * w + 2 := nI_clamp (by omega)
  have c3 : (nI (4 * w + 3)).toNatClampNeg = 4 * w + 3 := nI_clamp (by omega)
  rw [e4, e41, e42, e43, c0, c1, c2, c3]
  exact ⟨vp_in_nI (by omega) (by decide), nm_e ⟨vp_in_nI (by omega) (by decide), nm_e ⟨vp_in_nI (by omega) (by decide), nm_e ⟨vp_in_nI (by omega) (by decide), nm_e (h3 hk (by omega))⟩⟩⟩⟩
theorem sw_word {w : Nat} (hw : w ≤ 24) (hW : sw_W w wl ll) (hm : sw_R 31 wm) (v1 v2 : Int32) : ∃ (a : Int32) (w' : Nat) (wl' wm' ll' : Nat → Int32), w' ≤ 24 ∧ sw_W w' wl' ll' ∧ sw_R 31 wm' ∧ (∀ post : Int32 → SX → Prop, post a (pl, nI w', rc, tc, sc, dk, ex, tr, ps, ct, wl', wm', rv, rs, rn, re, ty, se, sy) → wpX_word post (pl, nI w, rc, tc, sc, dk, ex, tr, ps, ct, wl, wm, rv, rs, rn, re, ty, se, sy) v1 v2) ∧ (∀ post : Int32 → SY → Prop, post a (pl, rc, nI w', tc, sc, dk, ex, tr, ps, ct, rv, rs, rn, re, ll', wm', ty, sy) → wpY_word post (pl, rc, nI w, tc, sc, dk, ex, tr, ps, ct, rv, rs, rn, re, ll, wm, ty, sy) v1 v2) := by
  by_cases hO : sw_O v1
  · by_cases hM : sw_Mn v2
    · obtain ⟨n, hn, hok, rfl⟩ := id hO
      obtain ⟨m, hm31, rfl⟩ := sw_Mn_31 hM
      obtain ⟨k, hk, hX, hY⟩ := sw_find (pl := pl) (rc := rc) (tc := tc) (sc := sc) (dk := dk) (ex := ex) (tr := tr) (ps := ps) (ct := ct) (wl := wl) (wm := wm) (rv := rv) (rs := rs) (rn := rn) (re := re) (ty := ty) (se := se) (sy := sy) (ll := ll) hw hW hn
      by_cases hkw : k = w
      · subst hkw
        by_cases h24 : k = 24
        · refine ⟨-2, k, wl, wm, ll, hw, hW, hm, fun post h => ?_, fun post h => sw_ywl hn hO hM hY hw (fun z => absurd z (by omega)) (fun _ _ => h) (fun _ z => absurd z (by omega))⟩
          unfold wpX_word
          refine sw_xletters (fun _ => br_f sw_n10 (sw_xmean (fun _ => br_f sw_n10 (hX _ (br_t rfl (br_f ?_ h)))) (fun z => absurd hM z))) (fun z => absurd hO z)
          exact nI_nlt (b := 24) (by omega) (by omega)
        · refine ⟨nI (k + 1), k + 1, upd wl k (nI n), upd wm k (nI m), _, by omega, sw_W_u hW hn, sw_R_u hm k hm31, fun post h => ?_, fun post h => sw_ywl hn hO hM hY hw (fun z => absurd z (by omega)) (fun _ z => absurd z h24) (fun _ _ => ⟨vp_in_nI (by omega) (by decide), nm_r (e' := upd wm k (nI m)) (by rw [nI_clamp (by omega)]) h⟩)⟩
          unfold wpX_word
          refine sw_xletters (fun _ => br_f sw_n10 (sw_xmean (fun _ => br_f sw_n10 (hX _ (br_t rfl (br_t ?_ ⟨vp_in_nI (by omega) (by decide), nm_r (e' := upd wl k (nI n)) (by rw [nI_clamp (by omega)]) (nm_r (nI_1 k) ⟨vp_in_nI (by omega) (by decide), nm_r (e' := upd wm k (nI m)) (by rw [nI_clamp (by omega)]) h⟩)⟩)))) (fun z => absurd hM z))) (fun z => absurd hO z)
          exact nI_lt (b := 24) (by omega) (by decide)
      · refine ⟨nI w, w, wl, upd wm k (nI m), ll, hw, hW, sw_R_u hm k hm31, fun post h => ?_, fun post h => sw_ywl hn hO hM hY hw (fun z => ⟨vp_in_nI (by omega) (by decide), nm_r (e' := upd wm k (nI m)) (by rw [nI_clamp (by omega)]) h⟩) (fun z _ => absurd z hkw) (fun z _ => absurd z hkw)⟩
        unfold wpX_word
        refine sw_xletters (fun _ => br_f sw_n10 (sw_xmean (fun _ => br_f sw_n10 (hX _ (br_f ?_ ⟨vp_in_nI (by omega) (by decide), nm_r (e' := upd wm k (nI m)) (by rw [nI_clamp (by omega)]) h⟩))) (fun z => absurd hM z))) (fun z => absurd hO z)
        exact fun z => hkw ((nI_eq (by omega) (by omega)).mp z)
    · refine ⟨-1, w, wl, wm, ll, hw, hW, hm, fun post h => ?_, fun post h => ?_⟩
      · unfold wpX_word
        exact sw_xletters (fun _ => br_f sw_n10 (sw_xmean (fun z => absurd z hM) (fun _ => br_t rfl h))) (fun z => absurd hO z)
      · unfold wpY_word
        exact sw_yword (fun _ => br_f sw_n10 (sw_ymeans (fun z => absurd z hM) (fun _ => br_t rfl h))) (fun z => absurd hO z)
  · refine ⟨-1, w, wl, wm, ll, hw, hW, hm, fun post h => ?_, fun post h => ?_⟩
    · unfold wpX_word
      exact sw_xletters (fun z => absurd z hO) (fun _ => br_t rfl h)
    · unfold wpY_word
      exact sw_yword (fun z => absurd z hO) (fun _ => br_t rfl h)
/-! a new object -/
def sw_fill (v : Int32) : Nat → (Nat → Int32) → Nat → Nat → Int32
  | 0, a, _ => a
  | d + 1, a, i => sw_fill v d (upd a i v) (i + 1)
theorem sw_fill_R {n m : Nat} (hm : m < n) : ∀ (d : Nat) (a : Nat → Int32) (i : Nat), sw_R n a → sw_R n (sw_fill (nI m) d a i) := by
  intro d
  induction d with
  | zero => intro a i h; exact h
  | succ d ih => intro a i h; exact ih _ _ (sw_R_u h i hm)
theorem sw_X_u {v : Int32} {i : Nat} (h : sw_X ex) (hv : v = -1 ∨ sw_I 6 v) : sw_X (upd ex i v) := by
  intro j
  by_cases e : j = i
  · subst e
    rw [pk_us]
    exact hv
  · rw [pk_un e]
    exact h j
theorem sw_fill_X : ∀ (d : Nat) (a : Nat → Int32) (i : Nat), sw_X a → sw_X (sw_fill (-1) d a i) := by
  intro d
  induction d with
  | zero => intro a i h; exact h
  | succ d ih => intro a i h; exact ih _ _ (sw_X_u h (Or.inl rfl))
theorem sw_xi163 {post : SX → Prop} : ∀ (d i : Nat) (ps : Nat → Int32), i + d = 8 → post (pl, wc, rc, tc, sc, dk, ex, tr, sw_fill 7 d ps i, ct, wl, wm, rv, rs, rn, re, ty, se, sy) → wX_init_163 post pl wc rc tc sc (d + 1) (nI i) dk ex tr ps ct wl wm rv rs rn re ty se sy := by
  intro d
  induction d with
  | zero =>
    intro i ps hi h
    exact br_t (nI_le (a := 8) (by omega) (by omega)) h
  | succ d ih =>
    intro i ps hi h
    exact br_f (nI_ge (b := 8) (by omega) (by decide)) ⟨vp_in_nI (by omega) (by decide), nm_r (e' := upd ps i 7) (by rw [nI_clamp (by omega)]) (nm_r (nI_1 i) (ih (i + 1) _ (by omega) h))⟩
theorem sw_xi142 {post : SX → Prop} : ∀ (d i : Nat) (ex : Nat → Int32), i + d = 24 → post (pl, wc, rc, tc, sc, dk, sw_fill (-1) d ex i, tr, sw_fill 7 8 ps 0, ct, wl, wm, rv, rs, rn, re, ty, se, sy) → wX_init_142 post pl wc rc tc sc (d + 1) (nI i) dk ex tr ps ct wl wm rv rs rn re ty se sy := by
  intro d
  induction d with
  | zero =>
    intro i ex hi h
    exact br_t (nI_le (a := 24) (by omega) (by omega)) ⟨9, sw_xi163 8 0 ps rfl h⟩
  | succ d ih =>
    intro i ex hi h
    exact br_f (nI_ge (b := 24) (by omega) (by decide)) ⟨vp_in_nI (by omega) (by decide), nm_r (e' := upd ex i (-1)) (by rw [nI_clamp (by omega)]) (nm_r (nI_1 i) (ih (i + 1) _ (by omega) h))⟩
theorem sw_yi155 {post : SY → Prop} : ∀ (d i : Nat) (ps : Nat → Int32), i + d = 8 → post (pl, rc, wc, tc, sc, dk, ex, tr, sw_fill 7 d ps i, ct, rv, rs, rn, re, ll, wm, ty, sy) → wY_init_155 post pl rc wc tc sc (d + 1) (nI i) dk ex tr ps ct rv rs rn re ll wm ty sy := by
  intro d
  induction d with
  | zero =>
    intro i ps hi h
    exact br_t (nI_le (a := 8) (by omega) (by omega)) h
  | succ d ih =>
    intro i ps hi h
    exact br_f (nI_ge (b := 8) (by omega) (by decide)) ⟨vp_in_nI (by omega) (by decide), nm_r (e' := upd ps i 7) (by rw [nI_clamp (by omega)]) (nm_r (nI_1 i) (ih (i + 1) _ (by omega) h))⟩
theorem sw_yi134 {post : SY → Prop} : ∀ (d i : Nat) (ex : Nat → Int32), i + d = 24 → post (pl, rc, wc, tc, sc, dk, sw_fill (-1) d ex i, tr, sw_fill 7 8 ps 0, ct, rv, rs, rn, re, ll, wm, ty, sy) → wY_init_134 post pl rc wc tc sc (d + 1) (nI i) dk ex tr ps ct rv rs rn re ll wm ty sy := by
  intro d
  induction d with
  | zero =>
    intro i ex hi h
    exact br_t (nI_le (a := 24) (by omega) (by omega)) ⟨9, sw_yi155 8 0 ps rfl h⟩
  | succ d ih =>
    intro i ex hi h
    exact br_f (nI_ge (b := 24) (by omega) (by decide)) ⟨vp_in_nI (by omega) (by decide), nm_r (e' := upd ex i (-1)) (by rw [nI_clamp (by omega)]) (nm_r (nI_1 i) (ih (i + 1) _ (by omega) h))⟩
theorem sw_C_u {x : Int32} {i : Nat} (h : sw_C rn) (hx : sw_Cd x) : sw_C (upd rn i x) := by
  intro j
  by_cases e : j = i
  · subst e
    rw [pk_us]
    exact hx
  · rw [pk_un e]
    exact h j
theorem sw_E_u {x : Int32} {i : Nat} (h : sw_E re) (hx : sw_Ef x) : sw_E (upd re i x) := by
  intro j
  by_cases e : j = i
  · subst e
    rw [pk_us]
    exact hx
  · rw [pk_un e]
    exact h j
theorem sw_T_u {x : Int32} {t : Nat} (h : sw_T t ty) (hx : sw_Ch x) : sw_T (t + 1) (upd ty t x) := by
  intro j hj
  by_cases e : j = t
  · subst e
    rw [pk_us]
    rcases hx with rfl | hx
    · exact ⟨32, Or.inl rfl, rfl⟩
    · obtain ⟨m, hm, rfl⟩ := (sw_sub (a := 97)).mp hx
      exact ⟨97 + m, Or.inr (by omega), rfl⟩
  · rw [pk_un e]
    exact h j (by omega)
end
end
section
/-! the relation, and what is owed -/
def i_Rel (k : Nat) (u : SX) (v : SY) : Prop := ∃ (pl : Int32) (w r t s : Nat) (dk ex tr ps ct wl wm rv rs rn re ty se sy ll : Nat → Int32), u = (pl, nI w, nI r, nI t, nI s, dk, ex, tr, ps, ct, wl, wm, rv, rs, rn, re, ty, se, sy) ∧ v = (pl, nI r, nI w, nI t, nI s, dk, ex, tr, ps, ct, rv, rs, rn, re, ll, wm, ty, sy) ∧ sw_I 6 pl ∧ w ≤ 24 ∧ r ≤ 16 ∧ t ≤ 30 ∧ s ≤ 4 * k ∧ sw_X ex ∧ sw_R 16 tr ∧ sw_R 16 ps ∧ sw_W w wl ll ∧ sw_R 31 wm ∧ sw_C rn ∧ sw_E re ∧ sw_T t ty
theorem i_up {k : Nat} {u : SX} {v : SY} (h : i_Rel k u v) : i_Rel (k + 5) u v := by
  obtain ⟨pl, w, r, t, s, dk, ex, tr, ps, ct, wl, wm, rv, rs, rn, re, ty, se, sy, ll, rfl, rfl, hl, hw, hr, ht, hs, hx, htr, hps, hW, hm, hn, he, hT⟩ := h
  exact ⟨_, _, _, _, _, _, _, _, _, _, _, _, _, _, _, _, _, _, _, _, rfl, rfl, hl, hw, hr, ht, by omega, hx, htr, hps, hW, hm, hn, he, hT⟩
theorem i_vc0 : wpX_init (fun u => wpY_init (fun v => i_Rel 0 u v)) := by
  refine ⟨25, sw_xi142 24 0 _ rfl ⟨25, sw_yi134 24 0 _ rfl ?_⟩⟩
  refine ⟨0, 0, 0, 0, 0, _, _, _, _, _, _, _, _, _, _, _, _, _, _, _, rfl, rfl, ⟨0, by decide, rfl⟩, by decide, by decide, by decide, by decide, sw_fill_X _ _ _ (fun _ => Or.inr ⟨0, by decide, rfl⟩), sw_R_0 (by decide), sw_fill_R (m := 7) (by decide) _ _ _ (sw_R_0 (by decide)), fun i hi => absurd hi (by omega), sw_R_0 (by decide), fun _ => ⟨0, ⟨by decide, Or.inl rfl⟩, rfl⟩, fun _ => ⟨0, ⟨by decide, Or.inl rfl⟩, rfl⟩, fun i hi => absurd hi (by omega)⟩
theorem i_vc_dark {k : Nat} {u : SX} {v : SY} (I : i_Rel k u v) (hk : k + 5 ≤ 2560) (v1 : Int32) (v2 : Int32) : wpX_dark (fun r u' => wpY_dark (fun r' v' => r' = r ∧ i_Rel (k + 5) u' v') v v1 (lw_bz v2)) u v1 (lw_bz v2) := by
  obtain ⟨pl, w, r, t, s, dk, ex, tr, ps, ct, wl, wm, rv, rs, rn, re, ty, se, sy, ll, rfl, rfl, hl, hw, hr, ht, hs, hx, htr, hps, hW, hm, hn, he, hT⟩ := I
  unfold wpX_dark
  dsimp only
  rw [sw_xRoom]
  refine ⟨fun a => br_f sw_n10 ⟨sw_I_in a (by decide), nm_e ?_⟩, fun a => br_t rfl ?_⟩
  · unfold wpY_dark
    dsimp only
    rw [sw_yin5]
    exact ⟨fun _ => br_f sw_n10 ⟨sw_I_in a (by decide), nm_e ⟨rfl, ⟨_, _, _, _, _, _, _, _, _, _, _, _, _, _, _, _, _, _, _, _, rfl, rfl, hl, hw, hr, ht, by omega, hx, htr, hps, hW, hm, hn, he, hT⟩⟩⟩, fun z => absurd a z⟩
  · unfold wpY_dark
    dsimp only
    rw [sw_yin5]
    exact ⟨fun z => absurd z a, fun _ => br_t rfl ⟨rfl, ⟨_, _, _, _, _, _, _, _, _, _, _, _, _, _, _, _, _, _, _, _, rfl, rfl, hl, hw, hr, ht, by omega, hx, htr, hps, hW, hm, hn, he, hT⟩⟩⟩
theorem i_vc_link {k : Nat} {u : SX} {v : SY} (I : i_Rel k u v) (hk : k + 5 ≤ 2560) (v1 : Int32) (v2 : Int32) (v3 : Int32) : wpX_link (fun r u' => wpY_link (fun r' v' => r' = r ∧ i_Rel (k + 5) u' v') v v1 v2 v3) u v1 v2 v3 := by
  obtain ⟨pl, w, r, t, s, dk, ex, tr, ps, ct, wl, wm, rv, rs, rn, re, ty, se, sy, ll, rfl, rfl, hl, hw, hr, ht, hs, hx, htr, hps, hW, hm, hn, he, hT⟩ := I
  exact sw_xlink (fun a => sw_ylink (fun _ => ⟨rfl, ⟨_, _, _, _, _, _, _, _, _, _, _, _, _, _, _, _, _, _, _, _, rfl, rfl, hl, hw, hr, ht, by omega, sw_X_u hx a.2.2, htr, hps, hW, hm, hn, he, hT⟩⟩) (fun z => absurd a z)) (fun a => sw_ylink (fun z => absurd z a) (fun _ => ⟨rfl, ⟨_, _, _, _, _, _, _, _, _, _, _, _, _, _, _, _, _, _, _, _, rfl, rfl, hl, hw, hr, ht, by omega, hx, htr, hps, hW, hm, hn, he, hT⟩⟩))
theorem i_vc_thing {k : Nat} {u : SX} {v : SY} (I : i_Rel k u v) (hk : k + 5 ≤ 2560) (v1 : Int32) (v2 : Int32) (v3 : Int32) : wpX_thing (fun r u' => wpY_thing (fun r' v' => r' = r ∧ i_Rel (k + 5) u' v') v v1 v2 v3) u v1 v2 v3 := by
  obtain ⟨pl, w, r, t, s, dk, ex, tr, ps, ct, wl, wm, rv, rs, rn, re, ty, se, sy, ll, rfl, rfl, hl, hw, hr, ht, hs, hx, htr, hps, hW, hm, hn, he, hT⟩ := I
  refine sw_xthing hps (fun a => sw_ything hps (fun _ => ⟨rfl, ?_⟩) (fun z => absurd a z)) (fun a => sw_ything hps (fun z => absurd z a) (fun _ => ⟨rfl, ⟨_, _, _, _, _, _, _, _, _, _, _, _, _, _, _, _, _, _, _, _, rfl, rfl, hl, hw, hr, ht, by omega, hx, htr, hps, hW, hm, hn, he, hT⟩⟩))
  obtain ⟨a1, ⟨m2, hm2, rfl⟩, ⟨m3, hm3, rfl⟩, a4⟩ := a
  exact ⟨_, _, _, _, _, _, _, _, _, _, _, _, _, _, _, _, _, _, _, _, rfl, rfl, hl, hw, hr, ht, by omega, hx, sw_R_u htr _ hm2, sw_R_u hps _ hm3, hW, hm, hn, he, hT⟩
theorem i_vc_word {k : Nat} {u : SX} {v : SY} (I : i_Rel k u v) (hk : k + 5 ≤ 2560) (v1 : Int32) (v2 : Int32) : wpX_word (fun r u' => wpY_word (fun r' v' => r' = r ∧ i_Rel (k + 5) u' v') v v1 v2) u v1 v2 := by
  obtain ⟨pl, w, r, t, s, dk, ex, tr, ps, ct, wl, wm, rv, rs, rn, re, ty, se, sy, ll, rfl, rfl, hl, hw, hr, ht, hs, hx, htr, hps, hW, hm, hn, he, hT⟩ := I
  obtain ⟨a, w2, wl2, wm2, ll2, hw2, hW2, hm2, hX, hY⟩ := sw_word (pl := pl) (rc := nI r) (tc := nI t) (sc := nI s) (dk := dk) (ex := ex) (tr := tr) (ps := ps) (ct := ct) (wl := wl) (wm := wm) (rv := rv) (rs := rs) (rn := rn) (re := re) (ty := ty) (se := se) (sy := sy) (ll := ll) hw hW hm v1 v2
  exact hX _ (hY _ ⟨rfl, ⟨_, _, _, _, _, _, _, _, _, _, _, _, _, _, _, _, _, _, _, _, rfl, rfl, hl, hw2, hr, ht, by omega, hx, htr, hps, hW2, hm2, hn, he, hT⟩⟩)
theorem i_vc_rule {k : Nat} {u : SX} {v : SY} (I : i_Rel k u v) (hk : k + 5 ≤ 2560) (v1 : Int32) (v2 : Int32) (v3 : Int32) (v4 : Int32) : wpX_rule (fun r u' => wpY_rule (fun r' v' => r' = r ∧ i_Rel (k + 5) u' v') v v1 v2 v3 v4) u v1 v2 v3 v4 := by
  obtain ⟨pl, w, r, t, s, dk, ex, tr, ps, ct, wl, wm, rv, rs, rn, re, ty, se, sy, ll, rfl, rfl, hl, hw, hr, ht, hs, hx, htr, hps, hW, hm, hn, he, hT⟩ := I
  refine sw_xrule hr (fun a => sw_yrule hr (fun _ => ⟨rfl, ⟨_, _, _, _, _, _, _, _, _, _, _, _, _, _, _, _, _, _, _, _, rfl, rfl, hl, hw, hr, ht, by omega, hx, htr, hps, hW, hm, hn, he, hT⟩⟩) (fun z => absurd z (by omega)) (fun z => absurd z (by omega))) (fun a b => sw_yrule hr (fun z => absurd a (by omega)) (fun _ _ => ⟨rfl, ?_⟩) (fun _ z => absurd b z)) (fun a b => sw_yrule hr (fun z => absurd a (by omega)) (fun _ z => absurd z b) (fun _ _ => ⟨rfl, ⟨_, _, _, _, _, _, _, _, _, _, _, _, _, _, _, _, _, _, _, _, rfl, rfl, hl, hw, hr, ht, by omega, hx, htr, hps, hW, hm, hn, he, hT⟩⟩))
  exact ⟨_, _, _, _, _, _, _, _, _, _, _, _, _, _, _, _, _, _, _, _, rfl, rfl, hl, hw, by omega, ht, by omega, hx, htr, hps, hW, hm, sw_C_u hn b.2.2.1, sw_E_u he b.2.2.2, hT⟩
theorem i_vc_unrule {k : Nat} {u : SX} {v : SY} (I : i_Rel k u v) (hk : k + 5 ≤ 2560) : wpX_unrule (fun r u' => wpY_unrule (fun r' v' => r' = r ∧ i_Rel (k + 5) u' v') v) u := by
  obtain ⟨pl, w, r, t, s, dk, ex, tr, ps, ct, wl, wm, rv, rs, rn, re, ty, se, sy, ll, rfl, rfl, hl, hw, hr, ht, hs, hx, htr, hps, hW, hm, hn, he, hT⟩ := I
  refine pk_eq r 0 (fun a => ?_) (fun a => ?_)
  · exact pk_eq r 0 (fun _ => ⟨rfl, ⟨_, _, _, _, _, _, _, _, _, _, _, _, _, _, _, _, _, _, _, _, rfl, rfl, hl, hw, hr, ht, by omega, hx, htr, hps, hW, hm, hn, he, hT⟩⟩) (fun z => absurd a z)
  · have e : nI r - 1 = nI (r - 1) := pk_sub (b := 1) (by omega)
    refine nm_r e (pk_eq r 0 (fun z => absurd z a) (fun _ => nm_r e ⟨rfl, ?_⟩))
    exact ⟨_, _, _, _, _, _, _, _, _, _, _, _, _, _, _, _, _, _, _, _, rfl, rfl, hl, hw, by omega, ht, by omega, hx, htr, hps, hW, hm, hn, he, hT⟩
theorem i_vc_type {k : Nat} {u : SX} {v : SY} (I : i_Rel k u v) (hk : k + 5 ≤ 2560) (v1 : Int32) : wpX_type (fun r u' => wpY_type (fun r' v' => r' = r ∧ i_Rel (k + 5) u' v') v v1) u v1 := by
  obtain ⟨pl, w, r, t, s, dk, ex, tr, ps, ct, wl, wm, rv, rs, rn, re, ty, se, sy, ll, rfl, rfl, hl, hw, hr, ht, hs, hx, htr, hps, hW, hm, hn, he, hT⟩ := I
  refine sw_xtype ht (fun a b => sw_ytype ht (fun _ _ => ⟨rfl, ?_⟩) (fun z => absurd ⟨a, b⟩ z)) (fun a => sw_ytype ht (fun b c => absurd ⟨b, c⟩ a) (fun _ => ⟨rfl, ⟨_, _, _, _, _, _, _, _, _, _, _, _, _, _, _, _, _, _, _, _, rfl, rfl, hl, hw, hr, ht, by omega, hx, htr, hps, hW, hm, hn, he, hT⟩⟩))
  exact ⟨_, _, _, _, _, _, _, _, _, _, _, _, _, _, _, _, _, _, _, _, rfl, rfl, hl, hw, hr, by omega, by omega, hx, htr, hps, hW, hm, hn, he, sw_T_u hT b⟩
theorem i_vc_enter {k : Nat} {u : SX} {v : SY} (I : i_Rel k u v) (hk : k + 5 ≤ 2560) : wpX_enter (fun r u' => wpY_enter (fun r' v' => r' = r ∧ i_Rel (k + 5) u' v') v) u := by
  obtain ⟨pl, w, r, t, s, dk, ex, tr, ps, ct, wl, wm, rv, rs, rn, re, ty, se, sy, ll, rfl, rfl, hl, hw, hr, ht, hs, hx, htr, hps, hW, hm, hn, he, hT⟩ := I
  rcases sw_read (pl := pl) (rc := nI r) (sc := nI s) (dk := dk) (ex := ex) (tr := tr) (ps := ps) (ct := ct) (wl := wl) (wm := wm) (rv := rv) (rs := rs) (rn := rn) (re := re) (ty := ty) (sy := sy) (ll := ll) hw ht hW hT hm (t + 1) 0 0 0 se (-1) (-1) (-1) (by omega) (Nat.le_refl _) (Nat.le_refl _) (fun j h1 h2 => by omega) (fun z => absurd z (by decide)) (fun z => absurd z (by decide)) (fun z => absurd z (by decide)) with ⟨cnt, se2, g1, g2, g3, hc, q1, q2, q3, hX, hY⟩ | ⟨se2, hX, hY⟩
  · rw [sw_enc_0, Nat.sub_self] at hX
    refine ⟨t + 2, hX _ ?_⟩
    have hlt : nI t < nI (t + 1) := nI_lt (by omega) (by omega)
    have hm1 : ¬ nI cnt = -1 := by
      intro z
      have : nI cnt < 0 := by rw [z]; decide
      exact nI_pos (by omega) this
    refine br_f hm1 ?_
    by_cases h0 : cnt = 0
    · subst h0
      refine br_t rfl ⟨0 + 1 + (t + 1), hY _ 0 (fun z => br_t hlt (br_t rfl (br_t rfl ⟨rfl, ?_⟩)))⟩
      exact ⟨_, _, _, 0, _, _, _, _, _, _, _, _, _, _, _, _, _, _, _, _, rfl, rfl, hl, hw, hr, Nat.zero_le 30, by omega, hx, htr, hps, hW, hm, hn, he, (fun i hi => absurd hi (Nat.not_lt_zero i))⟩
    · have hn0 : ¬ nI cnt = 0 := nI_ne0 (by omega) (by omega)
      obtain ⟨a, pl2, tr2, ps2, ct2, sy2, s2, i1, i2, i3, i4, fX, fY⟩ := sw_fin (pl := pl) (wc := nI w) (dk := dk) (ex := ex) (tr := tr) (ps := ps) (ct := ct) (wl := wl) (wm := wm) (rv := rv) (rs := rs) (rn := rn) (re := re) (ty := ty) (se := se2) (sy := sy) (ll := ll) (r := r) (s := s) hr hn he htr hl hps hx (by omega) (by omega) hc q1 q2 q3
      refine br_f hn0 (nm_e (nm_e (nm_e ?_)))
      refine fX _ ?_
      refine ⟨0 + 1 + (t + 1), hY _ 0 (fun z => br_t hlt (br_t rfl (br_f hn0 ?_)))⟩
      refine fY _ ?_
      refine ⟨rfl, ?_⟩
      exact ⟨_, _, _, 0, _, _, _, _, _, _, _, _, _, _, _, _, _, _, _, _, rfl, rfl, i1, hw, hr, Nat.zero_le 30, by omega, hx, i2, i3, hW, hm, hn, he, (fun i hi => absurd hi (Nat.not_lt_zero i))⟩
  · rw [sw_enc_0, Nat.sub_self] at hX
    refine ⟨t + 2, hX _ (br_t rfl ⟨0 + 1 + (t + 1), hY _ 0 (fun c g1 g2 g3 z => br_t (nI_lt (by omega) (by omega)) (br_f (by decide) ⟨rfl, ?_⟩))⟩)⟩
    exact ⟨_, _, _, 0, _, _, _, _, _, _, _, _, _, _, _, _, _, _, _, _, rfl, rfl, hl, hw, hr, Nat.zero_le 30, by omega, hx, htr, hps, hW, hm, hn, he, (fun i hi => absurd hi (Nat.not_lt_zero i))⟩
theorem i_vc_command {k : Nat} {u : SX} {v : SY} (I : i_Rel k u v) (hk : k + 5 ≤ 2560) (v1 : Int32) (v2 : Int32) (v3 : Int32) : wpX_command (fun r u' => wpY_command (fun r' v' => r' = r ∧ i_Rel (k + 5) u' v') v v1 v2 v3) u v1 v2 v3 := by
  obtain ⟨pl, w, r, t, s, dk, ex, tr, ps, ct, wl, wm, rv, rs, rn, re, ty, se, sy, ll, rfl, rfl, hl, hw, hr, ht, hs, hx, htr, hps, hW, hm, hn, he, hT⟩ := I
  refine sw_xcmd (fun a => ?_) (fun a => sw_ycmd (fun z => absurd z a) (fun _ => ⟨rfl, ⟨_, _, _, _, _, _, _, _, _, _, _, _, _, _, _, _, _, _, _, _, rfl, rfl, hl, hw, hr, ht, by omega, hx, htr, hps, hW, hm, hn, he, hT⟩⟩))
  have hv : ∃ vb x : Nat, vb < 6 ∧ x < 8 ∧ (vb = 0 → x < 4) ∧ v1 = nI vb ∧ v2 = nI x := by
    obtain ⟨⟨vb, hvb, rfl⟩, h2, _⟩ := a
    rcases h2 with ⟨e, x, hx4, rfl⟩ | ⟨e, x, hx8, rfl⟩
    · exact ⟨vb, x, hvb, by omega, fun _ => hx4, rfl, rfl⟩
    · exact ⟨vb, x, hvb, hx8, fun z => absurd (by rw [z]; rfl) e, rfl, rfl⟩
  obtain ⟨vb, x, hvb, hx8, hx4, e1, e2⟩ := hv
  obtain ⟨b, pl2, tr2, ps2, ct2, sy2, s2, i1, i2, i3, i4, hX, hY⟩ := sw_perform (pl := pl) (wc := nI w) (tc := nI t) (dk := dk) (ex := ex) (tr := tr) (ps := ps) (ct := ct) (wl := wl) (wm := wm) (rv := rv) (rs := rs) (rn := rn) (re := re) (ty := ty) (se := se) (sy := sy) (ll := ll) (r := r) (s := s) (vb := vb) (x := x) (y := v3) hr hn he htr hl hps hx (by omega) hvb hx8 hx4 (fun z => a.2.2 (by rw [e1, z]; rfl))
  rw [← e1, ← e2] at hX hY
  refine hX _ (sw_ycmd (fun _ => hY _ ⟨rfl, ?_⟩) (fun z => absurd a z))
  exact ⟨_, _, _, _, _, _, _, _, _, _, _, _, _, _, _, _, _, _, _, _, rfl, rfl, i1, hw, hr, ht, by omega, hx, i2, i3, hW, hm, hn, he, hT⟩
theorem i_vc_place {k : Nat} {u : SX} {v : SY} (I : i_Rel k u v) (hk : k + 5 ≤ 2560) (v1 : Int32) : wpX_place (fun r => wpY_place (fun r' => r' = r ∧ i_Rel (k + 5) u v) v v1) u v1 := by
  obtain ⟨pl, w, r, t, s, dk, ex, tr, ps, ct, wl, wm, rv, rs, rn, re, ty, se, sy, ll, rfl, rfl, hl, hw, hr, ht, hs, hx, htr, hps, hW, hm, hn, he, hT⟩ := I
  unfold wpX_place
  dsimp only
  rw [sw_xThing]
  refine ⟨fun a => br_f sw_n10 ⟨sw_I_in a (by decide), ?_⟩, fun a => br_t rfl ?_⟩
  · unfold wpY_place
    dsimp only
    rw [sw_yThing]
    exact ⟨fun _ => br_f sw_n10 ⟨sw_I_in a (by decide), ⟨rfl, ⟨_, _, _, _, _, _, _, _, _, _, _, _, _, _, _, _, _, _, _, _, rfl, rfl, hl, hw, hr, ht, by omega, hx, htr, hps, hW, hm, hn, he, hT⟩⟩⟩, fun z => absurd a z⟩
  · unfold wpY_place
    dsimp only
    rw [sw_yThing]
    exact ⟨fun z => absurd z a, fun _ => br_t rfl ⟨rfl, ⟨_, _, _, _, _, _, _, _, _, _, _, _, _, _, _, _, _, _, _, _, rfl, rfl, hl, hw, hr, ht, by omega, hx, htr, hps, hW, hm, hn, he, hT⟩⟩⟩
theorem i_vc_traits {k : Nat} {u : SX} {v : SY} (I : i_Rel k u v) (hk : k + 5 ≤ 2560) (v1 : Int32) : wpX_traits (fun r => wpY_traits (fun r' => r' = r ∧ i_Rel (k + 5) u v) v v1) u v1 := by
  obtain ⟨pl, w, r, t, s, dk, ex, tr, ps, ct, wl, wm, rv, rs, rn, re, ty, se, sy, ll, rfl, rfl, hl, hw, hr, ht, hs, hx, htr, hps, hW, hm, hn, he, hT⟩ := I
  unfold wpX_traits
  dsimp only
  rw [sw_xThing]
  refine ⟨fun a => br_f sw_n10 ⟨sw_I_in a (by decide), ?_⟩, fun a => br_t rfl ?_⟩
  · unfold wpY_traits
    dsimp only
    rw [sw_yThing]
    exact ⟨fun _ => br_f sw_n10 ⟨sw_I_in a (by decide), ⟨rfl, ⟨_, _, _, _, _, _, _, _, _, _, _, _, _, _, _, _, _, _, _, _, rfl, rfl, hl, hw, hr, ht, by omega, hx, htr, hps, hW, hm, hn, he, hT⟩⟩⟩, fun z => absurd a z⟩
  · unfold wpY_traits
    dsimp only
    rw [sw_yThing]
    exact ⟨fun z => absurd z a, fun _ => br_t rfl ⟨rfl, ⟨_, _, _, _, _, _, _, _, _, _, _, _, _, _, _, _, _, _, _, _, rfl, rfl, hl, hw, hr, ht, by omega, hx, htr, hps, hW, hm, hn, he, hT⟩⟩⟩
theorem i_vc_counter {k : Nat} {u : SX} {v : SY} (I : i_Rel k u v) (hk : k + 5 ≤ 2560) (v1 : Int32) : wpX_counter (fun r => wpY_counter (fun r' => r' = r ∧ i_Rel (k + 5) u v) v v1) u v1 := by
  obtain ⟨pl, w, r, t, s, dk, ex, tr, ps, ct, wl, wm, rv, rs, rn, re, ty, se, sy, ll, rfl, rfl, hl, hw, hr, ht, hs, hx, htr, hps, hW, hm, hn, he, hT⟩ := I
  unfold wpX_counter
  dsimp only
  rw [sw_xCtr]
  refine ⟨fun a => br_f sw_n10 ⟨sw_I_in a (by decide), ?_⟩, fun a => br_t rfl ?_⟩
  · unfold wpY_counter
    dsimp only
    rw [sw_yin3]
    exact ⟨fun _ => br_f sw_n10 ⟨sw_I_in a (by decide), ⟨rfl, ⟨_, _, _, _, _, _, _, _, _, _, _, _, _, _, _, _, _, _, _, _, rfl, rfl, hl, hw, hr, ht, by omega, hx, htr, hps, hW, hm, hn, he, hT⟩⟩⟩, fun z => absurd a z⟩
  · unfold wpY_counter
    dsimp only
    rw [sw_yin3]
    exact ⟨fun z => absurd z a, fun _ => br_t rfl ⟨rfl, ⟨_, _, _, _, _, _, _, _, _, _, _, _, _, _, _, _, _, _, _, _, rfl, rfl, hl, hw, hr, ht, by omega, hx, htr, hps, hW, hm, hn, he, hT⟩⟩⟩
theorem i_vc_player {k : Nat} {u : SX} {v : SY} (I : i_Rel k u v) (hk : k + 5 ≤ 2560) : wpX_player (fun r => wpY_player (fun r' => r' = r ∧ i_Rel (k + 5) u v) v) u := by
  obtain ⟨pl, w, r, t, s, dk, ex, tr, ps, ct, wl, wm, rv, rs, rn, re, ty, se, sy, ll, rfl, rfl, hl, hw, hr, ht, hs, hx, htr, hps, hW, hm, hn, he, hT⟩ := I
  exact ⟨rfl, ⟨_, _, _, _, _, _, _, _, _, _, _, _, _, _, _, _, _, _, _, _, rfl, rfl, hl, hw, hr, ht, by omega, hx, htr, hps, hW, hm, hn, he, hT⟩⟩
theorem i_vc_said {k : Nat} {u : SX} {v : SY} (I : i_Rel k u v) (hk : k + 5 ≤ 2560) : wpX_said (fun r => wpY_said (fun r' => r' = r ∧ i_Rel (k + 5) u v) v) u := by
  obtain ⟨pl, w, r, t, s, dk, ex, tr, ps, ct, wl, wm, rv, rs, rn, re, ty, se, sy, ll, rfl, rfl, hl, hw, hr, ht, hs, hx, htr, hps, hW, hm, hn, he, hT⟩ := I
  exact ⟨rfl, ⟨_, _, _, _, _, _, _, _, _, _, _, _, _, _, _, _, _, _, _, _, rfl, rfl, hl, hw, hr, ht, by omega, hx, htr, hps, hW, hm, hn, he, hT⟩⟩
theorem i_vc_visible {k : Nat} {u : SX} {v : SY} (I : i_Rel k u v) (hk : k + 5 ≤ 2560) (v1 : Int32) : wpX_visible (fun r => wpY_visible (fun r' => r' = r ∧ i_Rel (k + 5) u v) v v1) u v1 := by
  obtain ⟨pl, w, r, t, s, dk, ex, tr, ps, ct, wl, wm, rv, rs, rn, re, ty, se, sy, ll, rfl, rfl, hl, hw, hr, ht, hs, hx, htr, hps, hW, hm, hn, he, hT⟩ := I
  unfold wpX_visible
  dsimp only
  rw [sw_xThing]
  refine ⟨fun a => br_f sw_n10 ?_, fun a => br_t rfl ?_⟩
  · obtain ⟨j, hj, rfl⟩ := a
    refine sw_xsee hps hl hj ?_
    cases hb : sw_see ps tr dk pl j
    · refine br_t rfl (sw_ysee hps hl hj ?_)
      rw [hb]
      exact ⟨rfl, ⟨_, _, _, _, _, _, _, _, _, _, _, _, _, _, _, _, _, _, _, _, rfl, rfl, hl, hw, hr, ht, by omega, hx, htr, hps, hW, hm, hn, he, hT⟩⟩
    · refine br_f (by decide) (sw_ysee hps hl hj ?_)
      rw [hb]
      exact ⟨rfl, ⟨_, _, _, _, _, _, _, _, _, _, _, _, _, _, _, _, _, _, _, _, rfl, rfl, hl, hw, hr, ht, by omega, hx, htr, hps, hW, hm, hn, he, hT⟩⟩
  · unfold wpY_visible
    dsimp only
    rw [sw_yThing]
    exact ⟨fun z => absurd z a, fun _ => br_t rfl ⟨rfl, ⟨_, _, _, _, _, _, _, _, _, _, _, _, _, _, _, _, _, _, _, _, rfl, rfl, hl, hw, hr, ht, by omega, hx, htr, hps, hW, hm, hn, he, hT⟩⟩⟩
theorem i_vc_saying {k : Nat} {u : SX} {v : SY} (I : i_Rel k u v) (hk : k + 5 ≤ 2560) (v1 : Int32) : wpX_saying (fun r => wpY_saying (fun r' => r' = r ∧ i_Rel (k + 5) u v) v v1) u v1 := by
  obtain ⟨pl, w, r, t, s, dk, ex, tr, ps, ct, wl, wm, rv, rs, rn, re, ty, se, sy, ll, rfl, rfl, hl, hw, hr, ht, hs, hx, htr, hps, hW, hm, hn, he, hT⟩ := I
  have hy0 : ∀ post : Int32 → Prop, ¬ sw_I 40 v1 → post (-1) → wpY_saying post (pl, nI r, nI w, nI t, nI s, dk, ex, tr, ps, ct, rv, rs, rn, re, ll, wm, ty, sy) v1 := by
    intro post a h
    unfold wpY_saying
    dsimp only
    rw [sw_yin39]
    exact ⟨fun z => absurd z a, fun _ => br_t rfl h⟩
  refine br_c (fun a => hy0 _ (sw_I_lt0 (by decide) a) ⟨rfl, ⟨_, _, _, _, _, _, _, _, _, _, _, _, _, _, _, _, _, _, _, _, rfl, rfl, hl, hw, hr, ht, by omega, hx, htr, hps, hW, hm, hn, he, hT⟩⟩) (fun a => ?_)
  obtain ⟨j, hj, rfl⟩ := nI_of a
  refine pk_le 40 j (fun b => hy0 _ (fun z => ?_) ⟨rfl, ⟨_, _, _, _, _, _, _, _, _, _, _, _, _, _, _, _, _, _, _, _, rfl, rfl, hl, hw, hr, ht, by omega, hx, htr, hps, hW, hm, hn, he, hT⟩⟩) (fun b => ?_)
  · have := (sw_I_nI hj (by decide)).mp z
    omega
  · have hv : vp_in (nI j) 40 := vp_in_nI b (by decide)
    have hy1 : ∀ post : Int32 → Prop, ((nI s ≤ nI j → post (-1)) ∧ (¬ nI s ≤ nI j → (vp_in (nI j) 40 ∧ post (sy (nI j).toNatClampNeg)))) → wpY_saying post (pl, nI r, nI w, nI t, nI s, dk, ex, tr, ps, ct, rv, rs, rn, re, ll, wm, ty, sy) (nI j) := by
      intro post h
      unfold wpY_saying
      dsimp only
      rw [sw_yin39]
      exact ⟨fun _ => br_f sw_n10 h, fun z => absurd ⟨j, b, rfl⟩ z⟩
    refine pk_lt j s (fun c => ⟨hv, hy1 _ (br_f (nI_ge c (by omega)) ⟨hv, rfl, ⟨_, _, _, _, _, _, _, _, _, _, _, _, _, _, _, _, _, _, _, _, rfl, rfl, hl, hw, hr, ht, by omega, hx, htr, hps, hW, hm, hn, he, hT⟩⟩)⟩) (fun c => hy1 _ (br_t (nI_le c hj) ⟨rfl, ⟨_, _, _, _, _, _, _, _, _, _, _, _, _, _, _, _, _, _, _, _, rfl, rfl, hl, hw, hr, ht, by omega, hx, htr, hps, hW, hm, hn, he, hT⟩⟩))
end
