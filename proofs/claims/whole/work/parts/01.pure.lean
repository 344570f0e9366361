theorem pk_us {f : Nat → Int32} {k : Nat} {x : Int32} : upd f k x k = x := if_pos rfl
theorem pk_un {f : Nat → Int32} {k j : Nat} {x : Int32} (h : j ≠ k) : upd f k x j = f j := if_neg h
theorem pk_sub {a b : Nat} (h : b ≤ a) : nI a - nI b = nI (a - b) := by
  obtain ⟨c, rfl⟩ : ∃ c, a = c + b := ⟨a - b, by omega⟩
  rw [← nI_add, Int32.add_sub_cancel, Nat.add_sub_cancel]
theorem pk_m1 (n : Nat) : nI (n + 1) + (-1) = nI n := by
  rw [← nI_1, Int32.add_assoc, show (1 : Int32) + (-1) = 0 from rfl, Int32.add_zero]
theorem pk_mul (a b : Nat) : nI a * nI b = nI (a * b) := (Int32.ofNat_mul a b).symm
theorem pk_div {a d : Nat} (ha : a < 2 ^ 31) (h0 : 0 < d) (hd : d < 2 ^ 31) : nI a / nI d = nI (a / d) := by
  apply Int32.toInt_inj.mp
  rw [lg_idiv_nonneg (by rw [nI_toInt ha]; omega) (by rw [nI_toInt hd]; omega), nI_toInt ha, nI_toInt hd, nI_toInt (Nat.lt_of_le_of_lt (Nat.div_le_self a d) ha)]
  first | rfl | exact (Int.natCast_ediv _ _).symm
theorem pk_rem {a d : Nat} (ha : a < 2 ^ 31) (h0 : 0 < d) (hd : d < 2 ^ 31) : nI a - nI a / nI d * nI d = nI (a % d) := by
  rw [pk_div ha h0 hd, pk_mul, pk_sub (Nat.div_mul_le_self a d)]
  exact congrArg nI (by have := Nat.div_add_mod' a d; omega)
theorem pk_ix (x : Int32) {n : Nat} (hn : n < 2 ^ 31) : x < 0 ∨ nI n ≤ x ∨ ∃ j : Nat, j < n ∧ x = nI j := by
  by_cases h : x < 0
  · exact Or.inl h
  · obtain ⟨j, hj, rfl⟩ := nI_of h
    by_cases h2 : j < n
    · exact Or.inr (Or.inr ⟨j, h2, rfl⟩)
    · exact Or.inr (Or.inl (nI_le (by omega) hj))
theorem pk_le {x y : Int32} {A B : Prop} (a b : Nat) (f : a ≤ b → A) (g : b < a → B) (hx : x = nI a := by rfl) (hy : y = nI b := by rfl) (ha : a < 2 ^ 31 := by omega) (hb : b < 2 ^ 31 := by omega) : (x ≤ y → A) ∧ (¬ x ≤ y → B) := by
  subst hx hy
  rw [nI_leI ha hb]
  exact ⟨f, fun z => g (by omega)⟩
theorem pk_lt {x y : Int32} {A B : Prop} (a b : Nat) (f : a < b → A) (g : b ≤ a → B) (hx : x = nI a := by rfl) (hy : y = nI b := by rfl) (ha : a < 2 ^ 31 := by omega) (hb : b < 2 ^ 31 := by omega) : (x < y → A) ∧ (¬ x < y → B) := by
  subst hx hy
  rw [nI_ltI ha hb]
  exact ⟨f, fun z => g (by omega)⟩
theorem pk_eq {x y : Int32} {A B : Prop} (a b : Nat) (f : a = b → A) (g : a ≠ b → B) (hx : x = nI a := by rfl) (hy : y = nI b := by rfl) (ha : a < 2 ^ 31 := by omega) (hb : b < 2 ^ 31 := by omega) : (x = y → A) ∧ (¬ x = y → B) := by
  subst hx hy
  rw [nI_eq ha hb]
  exact ⟨f, g⟩
theorem pk_in {x : Int32} (n N : Nat) (h : n < N) (hx : x = nI n := by rfl) (hN : N < 2 ^ 31 := by omega) : vp_in x N := by
  subst hx
  exact vp_in_nI h hN
theorem pk_cl {x : Int32} (n : Nat) (hx : x = nI n := by rfl) (h : n < 2 ^ 31 := by omega) : x.toNatClampNeg = n := by
  subst hx
  exact nI_clamp h
theorem pk_tn {n : Nat} (h : n < 2 ^ 32) : (nI n).toBitVec.toNat = n := Nat.mod_eq_of_lt h
theorem pk_and (x : Int32) {m : Int32} (k : Nat) (hm : m.toBitVec.toNat = 2 ^ k - 1) : x &&& m = nI (x.toBitVec.toNat % 2 ^ k) := by
  apply Int32.toBitVec_inj.mp
  apply BitVec.eq_of_toNat_eq
  rw [Int32.toBitVec_and, BitVec.toNat_and, hm, Nat.and_two_pow_sub_one_eq_mod]
  show _ = (BitVec.ofNat 32 _).toNat
  rw [BitVec.toNat_ofNat]
  exact (Nat.mod_eq_of_lt (Nat.lt_of_le_of_lt (Nat.mod_le _ _) x.toBitVec.isLt)).symm
theorem pk_andN {n : Nat} (h : n < 2 ^ 32) {m : Int32} (k : Nat) (hm : m.toBitVec.toNat = 2 ^ k - 1) : nI n &&& m = nI (n % 2 ^ k) := by
  rw [pk_and _ k hm, pk_tn h]
theorem pk_andE (x : Int32) {m : Int32} (k : Nat) (hm : m.toBitVec.toNat = 2 ^ k - 1) : ∃ j : Nat, j < 2 ^ k ∧ x &&& m = nI j := ⟨_, Nat.mod_lt _ (Nat.two_pow_pos k), pk_and x k hm⟩
theorem pk_andIn (x : Int32) {m : Int32} (k : Nat) (hm : m.toBitVec.toNat = 2 ^ k - 1) (hk : k ≤ 30) : vp_in (x &&& m) (2 ^ k) := by
  obtain ⟨j, hj, e⟩ := pk_andE x k hm
  rw [e]
  exact vp_in_nI hj (Nat.lt_of_le_of_lt (Nat.pow_le_pow_right (by decide) hk) (by decide))
theorem pk_shl (a s : Int32) (k : Nat) (hs : (s.toBitVec.smod 32).toNat = k) : (a <<< s).toBitVec.toNat = a.toBitVec.toNat * 2 ^ k % 2 ^ 32 := by
  show (a.toBitVec <<< (s.toBitVec.smod 32).toNat).toNat = _
  rw [hs, BitVec.toNat_shiftLeft, Nat.shiftLeft_eq]
theorem pk_shlN {n : Nat} (s : Int32) (k : Nat) (hs : (s.toBitVec.smod 32).toNat = k) (h : n * 2 ^ k < 2 ^ 32) : nI n <<< s = nI (n * 2 ^ k) := by
  apply Int32.toBitVec_inj.mp
  apply BitVec.eq_of_toNat_eq
  have hn : n < 2 ^ 32 := Nat.lt_of_le_of_lt (Nat.le_mul_of_pos_right n (Nat.two_pow_pos k)) h
  rw [pk_shl _ _ k hs, pk_tn hn, pk_tn h, Nat.mod_eq_of_lt h]
theorem pk_shr (a s : Int32) (k : Nat) (hs : (s.toBitVec.smod 32).toNat = k) : (a >>> s).toInt = a.toInt >>> k := by
  show (a.toBitVec.sshiftRight (s.toBitVec.smod 32).toNat).toInt = _
  rw [hs, BitVec.toInt_sshiftRight]
  rfl
theorem pk_shrN {n : Nat} (h : n < 2 ^ 31) (s : Int32) (k : Nat) (hs : (s.toBitVec.smod 32).toNat = k) : nI n >>> s = nI (n / 2 ^ k) := by
  apply Int32.toInt_inj.mp
  have h2 : n / 2 ^ k ≤ n := Nat.div_le_self _ _
  rw [pk_shr _ _ k hs, nI_toInt h, nI_toInt (by omega), Int.shiftRight_eq_div_pow]
  rfl
theorem nx_and (a b : Nat) : nI a &&& nI b = nI (a &&& b) := by
  apply Int32.toBitVec_inj.1
  show BitVec.ofNat 32 a &&& BitVec.ofNat 32 b = BitVec.ofNat 32 (a &&& b)
  apply BitVec.eq_of_getLsbD_eq
  intro i hi
  simp [hi]
theorem nx_xor (a b : Nat) : nI a ^^^ nI b = nI (a ^^^ b) := by
  apply Int32.toBitVec_inj.1
  show BitVec.ofNat 32 a ^^^ BitVec.ofNat 32 b = BitVec.ofNat 32 (a ^^^ b)
  apply BitVec.eq_of_getLsbD_eq
  intro i hi
  simp [hi]
/-! the pigeonhole, and the chain of holders -/
theorem sw_pig : ∀ (n : Nat) (f : Nat → Nat), (∀ i, i ≤ n → f i < n) → ∃ i j, i < j ∧ j ≤ n ∧ f i = f j := by
  intro n
  induction n with
  | zero =>
    intro f h
    have := h 0 (Nat.le_refl 0)
    omega
  | succ n ih =>
    intro f h
    by_cases hx : ∃ i, i ≤ n ∧ f i = f (n + 1)
    · obtain ⟨i, hi, e⟩ := hx
      exact ⟨i, n + 1, by omega, by omega, e⟩
    · have hne : ∀ i, i ≤ n → f i ≠ f (n + 1) := fun i hi e => hx ⟨i, hi, e⟩
      have hl := h (n + 1) (by omega)
      obtain ⟨i, j, hij, hj, e⟩ := ih (fun i => if f i = n then f (n + 1) else f i) (by
        intro i hi
        have h1 := h i (by omega)
        have h2 := hne i hi
        show (if f i = n then f (n + 1) else f i) < n
        split <;> omega)
      have h1 := hne i (by omega)
      have h2 := hne j (by omega)
      refine ⟨i, j, hij, by omega, ?_⟩
      have e' : (if f i = n then f (n + 1) else f i) = (if f j = n then f (n + 1) else f j) := e
      split at e' <;> split at e' <;> omega
def sw_ch (p : Nat → Nat) (m : Nat) : Nat → Nat
  | 0 => m
  | n + 1 => p (sw_ch p m n - 8)
def sw_w (p : Nat → Nat) (t : Nat) : Nat → Nat → Bool
  | 0, _ => false
  | n + 1, m => if m < 8 then false else if m - 8 = t then true else sw_w p t n (p (m - 8))
theorem sw_ch_s (p : Nat → Nat) (m : Nat) : ∀ n, sw_ch p m (n + 1) = sw_ch p (p (m - 8)) n := by
  intro n
  induction n with
  | zero => rfl
  | succ n ih =>
    show p (sw_ch p m (n + 1) - 8) = p (sw_ch p (p (m - 8)) n - 8)
    rw [ih]
theorem sw_w_iff (p : Nat → Nat) (t : Nat) : ∀ n m, sw_w p t n m = true ↔ ∃ i, i < n ∧ (∀ j, j ≤ i → 8 ≤ sw_ch p m j) ∧ sw_ch p m i = t + 8 := by
  intro n
  induction n with
  | zero =>
    intro m
    constructor
    · intro h
      exact absurd h (by show ¬ (false = true); decide)
    · rintro ⟨i, hi, _⟩
      omega
  | succ n ih =>
    intro m
    by_cases h8 : m < 8
    · have e : sw_w p t (n + 1) m = false := by
        show (if m < 8 then false else _) = false
        rw [if_pos h8]
      rw [e]
      constructor
      · intro h
        exact absurd h (by decide)
      · rintro ⟨i, hi, ha, _⟩
        have : 8 ≤ m := ha 0 (by omega)
        omega
    · by_cases ht : m - 8 = t
      · have e : sw_w p t (n + 1) m = true := by
          show (if m < 8 then false else if m - 8 = t then true else _) = true
          rw [if_neg h8, if_pos ht]
        rw [e]
        refine ⟨fun _ => ⟨0, by omega, ?_, ?_⟩, fun _ => rfl⟩
        · intro j hj
          obtain rfl : j = 0 := by omega
          show 8 ≤ m
          omega
        · show m = t + 8
          omega
      · have e : sw_w p t (n + 1) m = sw_w p t n (p (m - 8)) := by
          show (if m < 8 then false else if m - 8 = t then true else _) = _
          rw [if_neg h8, if_neg ht]
        rw [e, ih]
        constructor
        · rintro ⟨i, hi, ha, he⟩
          refine ⟨i + 1, by omega, ?_, by rw [sw_ch_s]; exact he⟩
          intro j hj
          cases j with
          | zero => show 8 ≤ m; omega
          | succ j => rw [sw_ch_s]; exact ha j (by omega)
        · rintro ⟨i, hi, ha, he⟩
          cases i with
          | zero =>
            have : m = t + 8 := he
            omega
          | succ i =>
            refine ⟨i, by omega, ?_, by rw [← sw_ch_s]; exact he⟩
            intro j hj
            rw [← sw_ch_s]
            exact ha (j + 1) (by omega)
theorem sw_per (p : Nat → Nat) (m i j : Nat) (e : sw_ch p m i = sw_ch p m j) : ∀ k, sw_ch p m (i + k) = sw_ch p m (j + k) := by
  intro k
  induction k with
  | zero => exact e
  | succ k ih =>
    show p (sw_ch p m (i + k) - 8) = p (sw_ch p m (j + k) - 8)
    rw [ih]
theorem sw_98 (p : Nat → Nat) (t m : Nat) (hp : ∀ j, p j < 16) (hm : m < 16) : sw_w p t 9 m = sw_w p t 8 m := by
  have hb : ∀ j, sw_ch p m j < 16 := by
    intro j
    cases j with
    | zero => exact hm
    | succ j => exact hp _
  apply Bool.eq_iff_iff.mpr
  rw [sw_w_iff, sw_w_iff]
  constructor
  · rintro ⟨i, hi, ha, he⟩
    by_cases h8 : i < 8
    · exact ⟨i, h8, ha, he⟩
    · obtain rfl : i = 8 := by omega
      obtain ⟨a, b, hab, hb8, e⟩ := sw_pig 8 (fun j => sw_ch p m j - 8) (by
        intro j hj
        have h1 := ha j hj
        have h2 := hb j
        show sw_ch p m j - 8 < 8
        omega)
      have e' : sw_ch p m a - 8 = sw_ch p m b - 8 := e
      have h1 := ha a (by omega)
      have h2 := ha b (by omega)
      have e2 : sw_ch p m a = sw_ch p m b := by omega
      have e3 := sw_per p m a b e2 (8 - b)
      have e4 : b + (8 - b) = 8 := by omega
      rw [e4] at e3
      exact ⟨a + (8 - b), by omega, fun j hj => ha j (by omega), by rw [e3]; exact he⟩
  · rintro ⟨i, hi, ha, he⟩
    exact ⟨i, by omega, ha, he⟩
def sw_nr (p tr : Nat → Int32) (pr : Int32) : Nat → Nat → Bool
  | 0, m => decide (nI m = pr ∨ m = 6)
  | n + 1, m => if m < 8 then decide (nI m = pr ∨ m = 6) else if tr (m - 8) &&& 6 = 6 then sw_nr p tr pr n (p (m - 8)).toNatClampNeg else false
/-! numbers -/
theorem sw_and3 {q : Nat} (h : q < 2048) : nI q &&& 3 = nI (q % 4) := pk_andN (by omega) 2 (by decide)
theorem sw_and15 {q : Nat} (h : q < 2048) : nI q &&& 15 = nI (q % 16) := pk_andN (by omega) 4 (by decide)
theorem sw_shr2 {q : Nat} (h : q < 2048) : nI q >>> ((2 : Int32) &&& 31) = nI (q / 4) := pk_shrN (by omega) _ 2 (by decide)
theorem sw_shr6 {q : Nat} (h : q < 2048) : nI q >>> ((6 : Int32) &&& 31) = nI (q / 64) := pk_shrN (by omega) _ 6 (by decide)
theorem sw_stop : ∀ q, q < 2048 → (nI q &&& 1024 = 0 ↔ ¬ (1024 : Int32) ≤ nI q) := by decide +kernel
theorem sw_bit : ∀ q, q < 16 → ∀ b, b < 4 → (nI q &&& ((1 : Int32) <<< (nI b &&& 31)) = 0 ↔ ¬ (nI q >>> (nI b &&& 31)) &&& 1 = 1) := by decide +kernel
theorem sw_x4 : ∀ q, q < 16 → nI q ^^^ 4 = nI (q ^^^ 4) ∧ q ^^^ 4 < 16 := by decide +kernel
theorem sw_and1 (x : Int32) : x &&& 1 = 0 ∨ x &&& 1 = 1 := by
  obtain ⟨j, hj, e⟩ := pk_andE x (m := 1) 1 (by decide)
  rw [e]
  have : j = 0 ∨ j = 1 := by omega
  rcases this with rfl | rfl
  · exact Or.inl rfl
  · exact Or.inr rfl
def sw_cv (q : Nat) : Prop := q < 1024 ∧ (q % 4 = 0 ∨ (q % 4 = 1 ∧ q / 4 % 16 < 4) ∨ (q % 4 = 2 ∧ q / 4 % 16 < 8) ∨ (q % 4 = 3 ∧ q / 4 % 16 < 8 ∧ q / 64 < 4))
def sw_ev (q : Nat) : Prop := q < 2048 ∧ (q % 4 = 0 ∨ (q % 4 = 1 ∧ q / 4 % 16 < 8) ∨ (q % 4 = 2 ∧ q / 4 % 16 < 4) ∨ (q % 4 = 3 ∧ q / 4 % 16 < 6))
/-- four letters in one number -/
def sw_ok (n : Nat) : Prop := n % 27 ≠ 0 ∧ (n / 27 % 27 = 0 → n / 729 % 27 = 0) ∧ (n / 729 % 27 = 0 → n / 19683 % 27 = 0)
theorem sw_ok_iff {n : Nat} (h : n < 531441) : sw_ok n ↔ n % 27 ≠ 0 ∧ (0 < n / 27 → n / 27 % 27 ≠ 0) ∧ (0 < n / 729 → n / 729 % 27 ≠ 0) := by
  unfold sw_ok
  omega
theorem sw_dig {m n : Nat} (hm : m < 531441) (hn : n < 531441) : m = n ↔ (m % 27 = n % 27 ∧ m / 27 % 27 = n / 27 % 27 ∧ m / 729 % 27 = n / 729 % 27 ∧ m / 19683 % 27 = n / 19683 % 27) := by
  omega
theorem sw_dig4 {a b c d : Nat} (ha : a < 27) (hb : b < 27) (hc : c < 27) (hd : d < 27) (n : Nat) (e : n = a + 27 * b + 729 * c + 19683 * d) : n < 531441 ∧ n % 27 = a ∧ n / 27 % 27 = b ∧ n / 729 % 27 = c ∧ n / 19683 % 27 = d := by
  omega
/-! the letters of a typed word, added up -/
def sw_tl (c : Nat → Nat) (j i : Nat) : Nat := if j < i then c j else 0
def sw_enc (c : Nat → Nat) (s i : Nat) : Nat := sw_tl c s i + 27 * sw_tl c (s + 1) i + 729 * sw_tl c (s + 2) i + 19683 * sw_tl c (s + 3) i
def sw_wt (d : Nat) : Nat := if d = 0 then 1 else if d = 1 then 27 else if d = 2 then 729 else if d = 3 then 19683 else 0
theorem sw_wt_s (d : Nat) : sw_wt (d + 1) = if sw_wt d < 19683 then sw_wt d * 27 else 0 := by
  match d with
  | 0 => rfl
  | 1 => rfl
  | 2 => rfl
  | 3 => rfl
  | n + 4 =>
    have h1 : sw_wt (n + 4) = 0 := by
      unfold sw_wt
      rw [if_neg (by omega), if_neg (by omega), if_neg (by omega), if_neg (by omega)]
    have h2 : sw_wt (n + 4 + 1) = 0 := by
      unfold sw_wt
      rw [if_neg (by omega), if_neg (by omega), if_neg (by omega), if_neg (by omega)]
    rw [h1, h2]
    rfl
theorem sw_wt_le (d : Nat) : sw_wt d ≤ 19683 := by
  unfold sw_wt
  split
  · omega
  · split
    · omega
    · split
      · omega
      · split <;> omega
theorem sw_tl_t {c : Nat → Nat} {j i : Nat} (h : j < i) : sw_tl c j i = c j := if_pos h
theorem sw_tl_f {c : Nat → Nat} {j i : Nat} (h : i ≤ j) : sw_tl c j i = 0 := if_neg (by omega)
theorem sw_enc_0 (c : Nat → Nat) (s : Nat) : sw_enc c s s = 0 := by
  unfold sw_enc
  rw [sw_tl_f (by omega), sw_tl_f (by omega), sw_tl_f (by omega), sw_tl_f (by omega)]
theorem sw_enc_s (c : Nat → Nat) {s i : Nat} (h : s ≤ i) : sw_enc c s (i + 1) = sw_enc c s i + c i * sw_wt (i - s) := by
  have hc : i = s ∨ i = s + 1 ∨ i = s + 2 ∨ i = s + 3 ∨ s + 4 ≤ i := by omega
  rcases hc with h | h | h | h | h
  · subst h
    have w : sw_wt (i - i) = 1 := by rw [Nat.sub_self]; rfl
    unfold sw_enc
    rw [w, sw_tl_t (show i < i + 1 by omega), sw_tl_f (show i + 1 ≤ i + 1 by omega), sw_tl_f (show i + 1 ≤ i + 2 by omega), sw_tl_f (show i + 1 ≤ i + 3 by omega), sw_tl_f (show i ≤ i by omega), sw_tl_f (show i ≤ i + 1 by omega), sw_tl_f (show i ≤ i + 2 by omega), sw_tl_f (show i ≤ i + 3 by omega)]
    omega
  · subst h
    have w : sw_wt (s + 1 - s) = 27 := by rw [Nat.add_sub_cancel_left]; rfl
    unfold sw_enc
    rw [w, sw_tl_t (show s < s + 1 + 1 by omega), sw_tl_t (show s + 1 < s + 1 + 1 by omega), sw_tl_f (show s + 1 + 1 ≤ s + 2 by omega), sw_tl_f (show s + 1 + 1 ≤ s + 3 by omega), sw_tl_t (show s < s + 1 by omega), sw_tl_f (show s + 1 ≤ s + 1 by omega), sw_tl_f (show s + 1 ≤ s + 2 by omega), sw_tl_f (show s + 1 ≤ s + 3 by omega)]
    omega
  · subst h
    have w : sw_wt (s + 2 - s) = 729 := by rw [Nat.add_sub_cancel_left]; rfl
    unfold sw_enc
    rw [w, sw_tl_t (show s < s + 2 + 1 by omega), sw_tl_t (show s + 1 < s + 2 + 1 by omega), sw_tl_t (show s + 2 < s + 2 + 1 by omega), sw_tl_f (show s + 2 + 1 ≤ s + 3 by omega), sw_tl_t (show s < s + 2 by omega), sw_tl_t (show s + 1 < s + 2 by omega), sw_tl_f (show s + 2 ≤ s + 2 by omega), sw_tl_f (show s + 2 ≤ s + 3 by omega)]
    omega
  · subst h
    have w : sw_wt (s + 3 - s) = 19683 := by rw [Nat.add_sub_cancel_left]; rfl
    unfold sw_enc
    rw [w, sw_tl_t (show s < s + 3 + 1 by omega), sw_tl_t (show s + 1 < s + 3 + 1 by omega), sw_tl_t (show s + 2 < s + 3 + 1 by omega), sw_tl_t (show s + 3 < s + 3 + 1 by omega), sw_tl_t (show s < s + 3 by omega), sw_tl_t (show s + 1 < s + 3 by omega), sw_tl_t (show s + 2 < s + 3 by omega), sw_tl_f (show s + 3 ≤ s + 3 by omega)]
    omega
  · have w : sw_wt (i - s) = 0 := by
      unfold sw_wt
      rw [if_neg (by omega), if_neg (by omega), if_neg (by omega), if_neg (by omega)]
    unfold sw_enc
    rw [w, sw_tl_t (show s < i + 1 by omega), sw_tl_t (show s + 1 < i + 1 by omega), sw_tl_t (show s + 2 < i + 1 by omega), sw_tl_t (show s + 3 < i + 1 by omega), sw_tl_t (show s < i by omega), sw_tl_t (show s + 1 < i by omega), sw_tl_t (show s + 2 < i by omega), sw_tl_t (show s + 3 < i by omega)]
    omega
theorem sw_tl_lt {c : Nat → Nat} {i : Nat} (h : ∀ j, j < i → c j < 27) (j : Nat) : sw_tl c j i < 27 := by
  unfold sw_tl
  split
  · exact h j (by assumption)
  · omega
theorem sw_enc_d {c : Nat → Nat} {i : Nat} (h : ∀ j, j < i → c j < 27) (s : Nat) : sw_enc c s i < 531441 ∧ sw_enc c s i % 27 = sw_tl c s i ∧ sw_enc c s i / 27 % 27 = sw_tl c (s + 1) i ∧ sw_enc c s i / 729 % 27 = sw_tl c (s + 2) i ∧ sw_enc c s i / 19683 % 27 = sw_tl c (s + 3) i :=
  sw_dig4 (sw_tl_lt h _) (sw_tl_lt h _) (sw_tl_lt h _) (sw_tl_lt h _) _ rfl
theorem sw_enc_p {c : Nat → Nat} {s i : Nat} (h : ∀ j, j < i → 0 < c j) (hs : s < i) : 0 < sw_enc c s i := by
  have h1 := h s hs
  have h2 := sw_tl_t (c := c) hs
  unfold sw_enc
  omega
/-! literals against nI (written by wip/whole/lits.py) -/
theorem sw_lt_0 {j : Nat} (h : j < 2 ^ 31) : (nI j < 0) ↔ False := ⟨fun z => nI_pos h z, False.elim⟩
theorem sw_ge_0 {j : Nat} (h : j < 2 ^ 31) : (0 ≤ nI j) ↔ True := ⟨fun _ => trivial, fun _ => nI_pos' h⟩
theorem sw_gt_0 {j : Nat} (h : j < 2 ^ 31) : (0 < nI j) ↔ 0 < j := nI_ltI (a := 0) (by decide) h
theorem sw_le_0 {j : Nat} (h : j < 2 ^ 31) : (nI j ≤ 0) ↔ j ≤ 0 := nI_leI (b := 0) h (by decide)
theorem sw_eq_0 {j : Nat} (h : j < 2 ^ 31) : (nI j = 0) ↔ j = 0 := nI_eq (b := 0) h (by decide)
theorem sw_lt_1 {j : Nat} (h : j < 2 ^ 31) : (nI j < 1) ↔ j < 1 := nI_ltI (b := 1) h (by decide)
theorem sw_gt_1 {j : Nat} (h : j < 2 ^ 31) : (1 < nI j) ↔ 1 < j := nI_ltI (a := 1) (by decide) h
theorem sw_le_1 {j : Nat} (h : j < 2 ^ 31) : (nI j ≤ 1) ↔ j ≤ 1 := nI_leI (b := 1) h (by decide)
theorem sw_ge_1 {j : Nat} (h : j < 2 ^ 31) : (1 ≤ nI j) ↔ 1 ≤ j := nI_leI (a := 1) (by decide) h
theorem sw_eq_1 {j : Nat} (h : j < 2 ^ 31) : (nI j = 1) ↔ j = 1 := nI_eq (b := 1) h (by decide)
theorem sw_lt_2 {j : Nat} (h : j < 2 ^ 31) : (nI j < 2) ↔ j < 2 := nI_ltI (b := 2) h (by decide)
theorem sw_gt_2 {j : Nat} (h : j < 2 ^ 31) : (2 < nI j) ↔ 2 < j := nI_ltI (a := 2) (by decide) h
theorem sw_le_2 {j : Nat} (h : j < 2 ^ 31) : (nI j ≤ 2) ↔ j ≤ 2 := nI_leI (b := 2) h (by decide)
theorem sw_ge_2 {j : Nat} (h : j < 2 ^ 31) : (2 ≤ nI j) ↔ 2 ≤ j := nI_leI (a := 2) (by decide) h
theorem sw_eq_2 {j : Nat} (h : j < 2 ^ 31) : (nI j = 2) ↔ j = 2 := nI_eq (b := 2) h (by decide)
theorem sw_lt_3 {j : Nat} (h : j < 2 ^ 31) : (nI j < 3) ↔ j < 3 := nI_ltI (b := 3) h (by decide)
theorem sw_gt_3 {j : Nat} (h : j < 2 ^ 31) : (3 < nI j) ↔ 3 < j := nI_ltI (a := 3) (by decide) h
theorem sw_le_3 {j : Nat} (h : j < 2 ^ 31) : (nI j ≤ 3) ↔ j ≤ 3 := nI_leI (b := 3) h (by decide)
theorem sw_ge_3 {j : Nat} (h : j < 2 ^ 31) : (3 ≤ nI j) ↔ 3 ≤ j := nI_leI (a := 3) (by decide) h
theorem sw_eq_3 {j : Nat} (h : j < 2 ^ 31) : (nI j = 3) ↔ j = 3 := nI_eq (b := 3) h (by decide)
theorem sw_lt_4 {j : Nat} (h : j < 2 ^ 31) : (nI j < 4) ↔ j < 4 := nI_ltI (b := 4) h (by decide)
theorem sw_gt_4 {j : Nat} (h : j < 2 ^ 31) : (4 < nI j) ↔ 4 < j := nI_ltI (a := 4) (by decide) h
theorem sw_le_4 {j : Nat} (h : j < 2 ^ 31) : (nI j ≤ 4) ↔ j ≤ 4 := nI_leI (b := 4) h (by decide)
theorem sw_ge_4 {j : Nat} (h : j < 2 ^ 31) : (4 ≤ nI j) ↔ 4 ≤ j := nI_leI (a := 4) (by decide) h
theorem sw_eq_4 {j : Nat} (h : j < 2 ^ 31) : (nI j = 4) ↔ j = 4 := nI_eq (b := 4) h (by decide)
theorem sw_lt_5 {j : Nat} (h : j < 2 ^ 31) : (nI j < 5) ↔ j < 5 := nI_ltI (b := 5) h (by decide)
theorem sw_gt_5 {j : Nat} (h : j < 2 ^ 31) : (5 < nI j) ↔ 5 < j := nI_ltI (a := 5) (by decide) h
theorem sw_le_5 {j : Nat} (h : j < 2 ^ 31) : (nI j ≤ 5) ↔ j ≤ 5 := nI_leI (b := 5) h (by decide)
theorem sw_ge_5 {j : Nat} (h : j < 2 ^ 31) : (5 ≤ nI j) ↔ 5 ≤ j := nI_leI (a := 5) (by decide) h
theorem sw_eq_5 {j : Nat} (h : j < 2 ^ 31) : (nI j = 5) ↔ j = 5 := nI_eq (b := 5) h (by decide)
theorem sw_lt_6 {j : Nat} (h : j < 2 ^ 31) : (nI j < 6) ↔ j < 6 := nI_ltI (b := 6) h (by decide)
theorem sw_gt_6 {j : Nat} (h : j < 2 ^ 31) : (6 < nI j) ↔ 6 < j := nI_ltI (a := 6) (by decide) h
theorem sw_le_6 {j : Nat} (h : j < 2 ^ 31) : (nI j ≤ 6) ↔ j ≤ 6 := nI_leI (b := 6) h (by decide)
theorem sw_ge_6 {j : Nat} (h : j < 2 ^ 31) : (6 ≤ nI j) ↔ 6 ≤ j := nI_leI (a := 6) (by decide) h
theorem sw_eq_6 {j : Nat} (h : j < 2 ^ 31) : (nI j = 6) ↔ j = 6 := nI_eq (b := 6) h (by decide)
theorem sw_lt_7 {j : Nat} (h : j < 2 ^ 31) : (nI j < 7) ↔ j < 7 := nI_ltI (b := 7) h (by decide)
theorem sw_gt_7 {j : Nat} (h : j < 2 ^ 31) : (7 < nI j) ↔ 7 < j := nI_ltI (a := 7) (by decide) h
theorem sw_le_7 {j : Nat} (h : j < 2 ^ 31) : (nI j ≤ 7) ↔ j ≤ 7 := nI_leI (b := 7) h (by decide)
theorem sw_ge_7 {j : Nat} (h : j < 2 ^ 31) : (7 ≤ nI j) ↔ 7 ≤ j := nI_leI (a := 7) (by decide) h
theorem sw_eq_7 {j : Nat} (h : j < 2 ^ 31) : (nI j = 7) ↔ j = 7 := nI_eq (b := 7) h (by decide)
theorem sw_lt_8 {j : Nat} (h : j < 2 ^ 31) : (nI j < 8) ↔ j < 8 := nI_ltI (b := 8) h (by decide)
theorem sw_gt_8 {j : Nat} (h : j < 2 ^ 31) : (8 < nI j) ↔ 8 < j := nI_ltI (a := 8) (by decide) h
theorem sw_le_8 {j : Nat} (h : j < 2 ^ 31) : (nI j ≤ 8) ↔ j ≤ 8 := nI_leI (b := 8) h (by decide)
theorem sw_ge_8 {j : Nat} (h : j < 2 ^ 31) : (8 ≤ nI j) ↔ 8 ≤ j := nI_leI (a := 8) (by decide) h
theorem sw_eq_8 {j : Nat} (h : j < 2 ^ 31) : (nI j = 8) ↔ j = 8 := nI_eq (b := 8) h (by decide)
theorem sw_lt_9 {j : Nat} (h : j < 2 ^ 31) : (nI j < 9) ↔ j < 9 := nI_ltI (b := 9) h (by decide)
theorem sw_gt_9 {j : Nat} (h : j < 2 ^ 31) : (9 < nI j) ↔ 9 < j := nI_ltI (a := 9) (by decide) h
theorem sw_le_9 {j : Nat} (h : j < 2 ^ 31) : (nI j ≤ 9) ↔ j ≤ 9 := nI_leI (b := 9) h (by decide)
theorem sw_ge_9 {j : Nat} (h : j < 2 ^ 31) : (9 ≤ nI j) ↔ 9 ≤ j := nI_leI (a := 9) (by decide) h
theorem sw_eq_9 {j : Nat} (h : j < 2 ^ 31) : (nI j = 9) ↔ j = 9 := nI_eq (b := 9) h (by decide)
theorem sw_lt_10 {j : Nat} (h : j < 2 ^ 31) : (nI j < 10) ↔ j < 10 := nI_ltI (b := 10) h (by decide)
theorem sw_gt_10 {j : Nat} (h : j < 2 ^ 31) : (10 < nI j) ↔ 10 < j := nI_ltI (a := 10) (by decide) h
theorem sw_le_10 {j : Nat} (h : j < 2 ^ 31) : (nI j ≤ 10) ↔ j ≤ 10 := nI_leI (b := 10) h (by decide)
theorem sw_ge_10 {j : Nat} (h : j < 2 ^ 31) : (10 ≤ nI j) ↔ 10 ≤ j := nI_leI (a := 10) (by decide) h
theorem sw_eq_10 {j : Nat} (h : j < 2 ^ 31) : (nI j = 10) ↔ j = 10 := nI_eq (b := 10) h (by decide)
theorem sw_lt_11 {j : Nat} (h : j < 2 ^ 31) : (nI j < 11) ↔ j < 11 := nI_ltI (b := 11) h (by decide)
theorem sw_gt_11 {j : Nat} (h : j < 2 ^ 31) : (11 < nI j) ↔ 11 < j := nI_ltI (a := 11) (by decide) h
theorem sw_le_11 {j : Nat} (h : j < 2 ^ 31) : (nI j ≤ 11) ↔ j ≤ 11 := nI_leI (b := 11) h (by decide)
theorem sw_ge_11 {j : Nat} (h : j < 2 ^ 31) : (11 ≤ nI j) ↔ 11 ≤ j := nI_leI (a := 11) (by decide) h
theorem sw_eq_11 {j : Nat} (h : j < 2 ^ 31) : (nI j = 11) ↔ j = 11 := nI_eq (b := 11) h (by decide)
theorem sw_lt_12 {j : Nat} (h : j < 2 ^ 31) : (nI j < 12) ↔ j < 12 := nI_ltI (b := 12) h (by decide)
theorem sw_gt_12 {j : Nat} (h : j < 2 ^ 31) : (12 < nI j) ↔ 12 < j := nI_ltI (a := 12) (by decide) h
theorem sw_le_12 {j : Nat} (h : j < 2 ^ 31) : (nI j ≤ 12) ↔ j ≤ 12 := nI_leI (b := 12) h (by decide)
theorem sw_ge_12 {j : Nat} (h : j < 2 ^ 31) : (12 ≤ nI j) ↔ 12 ≤ j := nI_leI (a := 12) (by decide) h
theorem sw_eq_12 {j : Nat} (h : j < 2 ^ 31) : (nI j = 12) ↔ j = 12 := nI_eq (b := 12) h (by decide)
theorem sw_lt_13 {j : Nat} (h : j < 2 ^ 31) : (nI j < 13) ↔ j < 13 := nI_ltI (b := 13) h (by decide)
theorem sw_gt_13 {j : Nat} (h : j < 2 ^ 31) : (13 < nI j) ↔ 13 < j := nI_ltI (a := 13) (by decide) h
theorem sw_le_13 {j : Nat} (h : j < 2 ^ 31) : (nI j ≤ 13) ↔ j ≤ 13 := nI_leI (b := 13) h (by decide)
theorem sw_ge_13 {j : Nat} (h : j < 2 ^ 31) : (13 ≤ nI j) ↔ 13 ≤ j := nI_leI (a := 13) (by decide) h
theorem sw_eq_13 {j : Nat} (h : j < 2 ^ 31) : (nI j = 13) ↔ j = 13 := nI_eq (b := 13) h (by decide)
theorem sw_lt_15 {j : Nat} (h : j < 2 ^ 31) : (nI j < 15) ↔ j < 15 := nI_ltI (b := 15) h (by decide)
theorem sw_gt_15 {j : Nat} (h : j < 2 ^ 31) : (15 < nI j) ↔ 15 < j := nI_ltI (a := 15) (by decide) h
theorem sw_le_15 {j : Nat} (h : j < 2 ^ 31) : (nI j ≤ 15) ↔ j ≤ 15 := nI_leI (b := 15) h (by decide)
theorem sw_ge_15 {j : Nat} (h : j < 2 ^ 31) : (15 ≤ nI j) ↔ 15 ≤ j := nI_leI (a := 15) (by decide) h
theorem sw_eq_15 {j : Nat} (h : j < 2 ^ 31) : (nI j = 15) ↔ j = 15 := nI_eq (b := 15) h (by decide)
theorem sw_lt_16 {j : Nat} (h : j < 2 ^ 31) : (nI j < 16) ↔ j < 16 := nI_ltI (b := 16) h (by decide)
theorem sw_gt_16 {j : Nat} (h : j < 2 ^ 31) : (16 < nI j) ↔ 16 < j := nI_ltI (a := 16) (by decide) h
theorem sw_le_16 {j : Nat} (h : j < 2 ^ 31) : (nI j ≤ 16) ↔ j ≤ 16 := nI_leI (b := 16) h (by decide)
theorem sw_ge_16 {j : Nat} (h : j < 2 ^ 31) : (16 ≤ nI j) ↔ 16 ≤ j := nI_leI (a := 16) (by decide) h
theorem sw_eq_16 {j : Nat} (h : j < 2 ^ 31) : (nI j = 16) ↔ j = 16 := nI_eq (b := 16) h (by decide)
theorem sw_lt_20 {j : Nat} (h : j < 2 ^ 31) : (nI j < 20) ↔ j < 20 := nI_ltI (b := 20) h (by decide)
theorem sw_gt_20 {j : Nat} (h : j < 2 ^ 31) : (20 < nI j) ↔ 20 < j := nI_ltI (a := 20) (by decide) h
theorem sw_le_20 {j : Nat} (h : j < 2 ^ 31) : (nI j ≤ 20) ↔ j ≤ 20 := nI_leI (b := 20) h (by decide)
theorem sw_ge_20 {j : Nat} (h : j < 2 ^ 31) : (20 ≤ nI j) ↔ 20 ≤ j := nI_leI (a := 20) (by decide) h
theorem sw_eq_20 {j : Nat} (h : j < 2 ^ 31) : (nI j = 20) ↔ j = 20 := nI_eq (b := 20) h (by decide)
theorem sw_lt_24 {j : Nat} (h : j < 2 ^ 31) : (nI j < 24) ↔ j < 24 := nI_ltI (b := 24) h (by decide)
theorem sw_gt_24 {j : Nat} (h : j < 2 ^ 31) : (24 < nI j) ↔ 24 < j := nI_ltI (a := 24) (by decide) h
theorem sw_le_24 {j : Nat} (h : j < 2 ^ 31) : (nI j ≤ 24) ↔ j ≤ 24 := nI_leI (b := 24) h (by decide)
theorem sw_ge_24 {j : Nat} (h : j < 2 ^ 31) : (24 ≤ nI j) ↔ 24 ≤ j := nI_leI (a := 24) (by decide) h
theorem sw_eq_24 {j : Nat} (h : j < 2 ^ 31) : (nI j = 24) ↔ j = 24 := nI_eq (b := 24) h (by decide)
theorem sw_lt_26 {j : Nat} (h : j < 2 ^ 31) : (nI j < 26) ↔ j < 26 := nI_ltI (b := 26) h (by decide)
theorem sw_gt_26 {j : Nat} (h : j < 2 ^ 31) : (26 < nI j) ↔ 26 < j := nI_ltI (a := 26) (by decide) h
theorem sw_le_26 {j : Nat} (h : j < 2 ^ 31) : (nI j ≤ 26) ↔ j ≤ 26 := nI_leI (b := 26) h (by decide)
theorem sw_ge_26 {j : Nat} (h : j < 2 ^ 31) : (26 ≤ nI j) ↔ 26 ≤ j := nI_leI (a := 26) (by decide) h
theorem sw_eq_26 {j : Nat} (h : j < 2 ^ 31) : (nI j = 26) ↔ j = 26 := nI_eq (b := 26) h (by decide)
theorem sw_lt_27 {j : Nat} (h : j < 2 ^ 31) : (nI j < 27) ↔ j < 27 := nI_ltI (b := 27) h (by decide)
theorem sw_gt_27 {j : Nat} (h : j < 2 ^ 31) : (27 < nI j) ↔ 27 < j := nI_ltI (a := 27) (by decide) h
theorem sw_le_27 {j : Nat} (h : j < 2 ^ 31) : (nI j ≤ 27) ↔ j ≤ 27 := nI_leI (b := 27) h (by decide)
theorem sw_ge_27 {j : Nat} (h : j < 2 ^ 31) : (27 ≤ nI j) ↔ 27 ≤ j := nI_leI (a := 27) (by decide) h
theorem sw_eq_27 {j : Nat} (h : j < 2 ^ 31) : (nI j = 27) ↔ j = 27 := nI_eq (b := 27) h (by decide)
theorem sw_lt_30 {j : Nat} (h : j < 2 ^ 31) : (nI j < 30) ↔ j < 30 := nI_ltI (b := 30) h (by decide)
theorem sw_gt_30 {j : Nat} (h : j < 2 ^ 31) : (30 < nI j) ↔ 30 < j := nI_ltI (a := 30) (by decide) h
theorem sw_le_30 {j : Nat} (h : j < 2 ^ 31) : (nI j ≤ 30) ↔ j ≤ 30 := nI_leI (b := 30) h (by decide)
theorem sw_ge_30 {j : Nat} (h : j < 2 ^ 31) : (30 ≤ nI j) ↔ 30 ≤ j := nI_leI (a := 30) (by decide) h
theorem sw_eq_30 {j : Nat} (h : j < 2 ^ 31) : (nI j = 30) ↔ j = 30 := nI_eq (b := 30) h (by decide)
theorem sw_lt_31 {j : Nat} (h : j < 2 ^ 31) : (nI j < 31) ↔ j < 31 := nI_ltI (b := 31) h (by decide)
theorem sw_gt_31 {j : Nat} (h : j < 2 ^ 31) : (31 < nI j) ↔ 31 < j := nI_ltI (a := 31) (by decide) h
theorem sw_le_31 {j : Nat} (h : j < 2 ^ 31) : (nI j ≤ 31) ↔ j ≤ 31 := nI_leI (b := 31) h (by decide)
theorem sw_ge_31 {j : Nat} (h : j < 2 ^ 31) : (31 ≤ nI j) ↔ 31 ≤ j := nI_leI (a := 31) (by decide) h
theorem sw_eq_31 {j : Nat} (h : j < 2 ^ 31) : (nI j = 31) ↔ j = 31 := nI_eq (b := 31) h (by decide)
theorem sw_lt_32 {j : Nat} (h : j < 2 ^ 31) : (nI j < 32) ↔ j < 32 := nI_ltI (b := 32) h (by decide)
theorem sw_gt_32 {j : Nat} (h : j < 2 ^ 31) : (32 < nI j) ↔ 32 < j := nI_ltI (a := 32) (by decide) h
theorem sw_le_32 {j : Nat} (h : j < 2 ^ 31) : (nI j ≤ 32) ↔ j ≤ 32 := nI_leI (b := 32) h (by decide)
theorem sw_ge_32 {j : Nat} (h : j < 2 ^ 31) : (32 ≤ nI j) ↔ 32 ≤ j := nI_leI (a := 32) (by decide) h
theorem sw_eq_32 {j : Nat} (h : j < 2 ^ 31) : (nI j = 32) ↔ j = 32 := nI_eq (b := 32) h (by decide)
theorem sw_lt_39 {j : Nat} (h : j < 2 ^ 31) : (nI j < 39) ↔ j < 39 := nI_ltI (b := 39) h (by decide)
theorem sw_gt_39 {j : Nat} (h : j < 2 ^ 31) : (39 < nI j) ↔ 39 < j := nI_ltI (a := 39) (by decide) h
theorem sw_le_39 {j : Nat} (h : j < 2 ^ 31) : (nI j ≤ 39) ↔ j ≤ 39 := nI_leI (b := 39) h (by decide)
theorem sw_ge_39 {j : Nat} (h : j < 2 ^ 31) : (39 ≤ nI j) ↔ 39 ≤ j := nI_leI (a := 39) (by decide) h
theorem sw_eq_39 {j : Nat} (h : j < 2 ^ 31) : (nI j = 39) ↔ j = 39 := nI_eq (b := 39) h (by decide)
theorem sw_lt_40 {j : Nat} (h : j < 2 ^ 31) : (nI j < 40) ↔ j < 40 := nI_ltI (b := 40) h (by decide)
theorem sw_gt_40 {j : Nat} (h : j < 2 ^ 31) : (40 < nI j) ↔ 40 < j := nI_ltI (a := 40) (by decide) h
theorem sw_le_40 {j : Nat} (h : j < 2 ^ 31) : (nI j ≤ 40) ↔ j ≤ 40 := nI_leI (b := 40) h (by decide)
theorem sw_ge_40 {j : Nat} (h : j < 2 ^ 31) : (40 ≤ nI j) ↔ 40 ≤ j := nI_leI (a := 40) (by decide) h
theorem sw_eq_40 {j : Nat} (h : j < 2 ^ 31) : (nI j = 40) ↔ j = 40 := nI_eq (b := 40) h (by decide)
theorem sw_lt_96 {j : Nat} (h : j < 2 ^ 31) : (nI j < 96) ↔ j < 96 := nI_ltI (b := 96) h (by decide)
theorem sw_gt_96 {j : Nat} (h : j < 2 ^ 31) : (96 < nI j) ↔ 96 < j := nI_ltI (a := 96) (by decide) h
theorem sw_le_96 {j : Nat} (h : j < 2 ^ 31) : (nI j ≤ 96) ↔ j ≤ 96 := nI_leI (b := 96) h (by decide)
theorem sw_ge_96 {j : Nat} (h : j < 2 ^ 31) : (96 ≤ nI j) ↔ 96 ≤ j := nI_leI (a := 96) (by decide) h
theorem sw_eq_96 {j : Nat} (h : j < 2 ^ 31) : (nI j = 96) ↔ j = 96 := nI_eq (b := 96) h (by decide)
theorem sw_lt_97 {j : Nat} (h : j < 2 ^ 31) : (nI j < 97) ↔ j < 97 := nI_ltI (b := 97) h (by decide)
theorem sw_gt_97 {j : Nat} (h : j < 2 ^ 31) : (97 < nI j) ↔ 97 < j := nI_ltI (a := 97) (by decide) h
theorem sw_le_97 {j : Nat} (h : j < 2 ^ 31) : (nI j ≤ 97) ↔ j ≤ 97 := nI_leI (b := 97) h (by decide)
theorem sw_ge_97 {j : Nat} (h : j < 2 ^ 31) : (97 ≤ nI j) ↔ 97 ≤ j := nI_leI (a := 97) (by decide) h
theorem sw_eq_97 {j : Nat} (h : j < 2 ^ 31) : (nI j = 97) ↔ j = 97 := nI_eq (b := 97) h (by decide)
theorem sw_lt_122 {j : Nat} (h : j < 2 ^ 31) : (nI j < 122) ↔ j < 122 := nI_ltI (b := 122) h (by decide)
theorem sw_gt_122 {j : Nat} (h : j < 2 ^ 31) : (122 < nI j) ↔ 122 < j := nI_ltI (a := 122) (by decide) h
theorem sw_le_122 {j : Nat} (h : j < 2 ^ 31) : (nI j ≤ 122) ↔ j ≤ 122 := nI_leI (b := 122) h (by decide)
theorem sw_ge_122 {j : Nat} (h : j < 2 ^ 31) : (122 ≤ nI j) ↔ 122 ≤ j := nI_leI (a := 122) (by decide) h
theorem sw_eq_122 {j : Nat} (h : j < 2 ^ 31) : (nI j = 122) ↔ j = 122 := nI_eq (b := 122) h (by decide)
theorem sw_lt_729 {j : Nat} (h : j < 2 ^ 31) : (nI j < 729) ↔ j < 729 := nI_ltI (b := 729) h (by decide)
theorem sw_gt_729 {j : Nat} (h : j < 2 ^ 31) : (729 < nI j) ↔ 729 < j := nI_ltI (a := 729) (by decide) h
theorem sw_le_729 {j : Nat} (h : j < 2 ^ 31) : (nI j ≤ 729) ↔ j ≤ 729 := nI_leI (b := 729) h (by decide)
theorem sw_ge_729 {j : Nat} (h : j < 2 ^ 31) : (729 ≤ nI j) ↔ 729 ≤ j := nI_leI (a := 729) (by decide) h
theorem sw_eq_729 {j : Nat} (h : j < 2 ^ 31) : (nI j = 729) ↔ j = 729 := nI_eq (b := 729) h (by decide)
theorem sw_lt_1023 {j : Nat} (h : j < 2 ^ 31) : (nI j < 1023) ↔ j < 1023 := nI_ltI (b := 1023) h (by decide)
theorem sw_gt_1023 {j : Nat} (h : j < 2 ^ 31) : (1023 < nI j) ↔ 1023 < j := nI_ltI (a := 1023) (by decide) h
theorem sw_le_1023 {j : Nat} (h : j < 2 ^ 31) : (nI j ≤ 1023) ↔ j ≤ 1023 := nI_leI (b := 1023) h (by decide)
theorem sw_ge_1023 {j : Nat} (h : j < 2 ^ 31) : (1023 ≤ nI j) ↔ 1023 ≤ j := nI_leI (a := 1023) (by decide) h
theorem sw_eq_1023 {j : Nat} (h : j < 2 ^ 31) : (nI j = 1023) ↔ j = 1023 := nI_eq (b := 1023) h (by decide)
theorem sw_lt_1024 {j : Nat} (h : j < 2 ^ 31) : (nI j < 1024) ↔ j < 1024 := nI_ltI (b := 1024) h (by decide)
theorem sw_gt_1024 {j : Nat} (h : j < 2 ^ 31) : (1024 < nI j) ↔ 1024 < j := nI_ltI (a := 1024) (by decide) h
theorem sw_le_1024 {j : Nat} (h : j < 2 ^ 31) : (nI j ≤ 1024) ↔ j ≤ 1024 := nI_leI (b := 1024) h (by decide)
theorem sw_ge_1024 {j : Nat} (h : j < 2 ^ 31) : (1024 ≤ nI j) ↔ 1024 ≤ j := nI_leI (a := 1024) (by decide) h
theorem sw_eq_1024 {j : Nat} (h : j < 2 ^ 31) : (nI j = 1024) ↔ j = 1024 := nI_eq (b := 1024) h (by decide)
theorem sw_lt_2047 {j : Nat} (h : j < 2 ^ 31) : (nI j < 2047) ↔ j < 2047 := nI_ltI (b := 2047) h (by decide)
theorem sw_gt_2047 {j : Nat} (h : j < 2 ^ 31) : (2047 < nI j) ↔ 2047 < j := nI_ltI (a := 2047) (by decide) h
theorem sw_le_2047 {j : Nat} (h : j < 2 ^ 31) : (nI j ≤ 2047) ↔ j ≤ 2047 := nI_leI (b := 2047) h (by decide)
theorem sw_ge_2047 {j : Nat} (h : j < 2 ^ 31) : (2047 ≤ nI j) ↔ 2047 ≤ j := nI_leI (a := 2047) (by decide) h
theorem sw_eq_2047 {j : Nat} (h : j < 2 ^ 31) : (nI j = 2047) ↔ j = 2047 := nI_eq (b := 2047) h (by decide)
theorem sw_lt_19683 {j : Nat} (h : j < 2 ^ 31) : (nI j < 19683) ↔ j < 19683 := nI_ltI (b := 19683) h (by decide)
theorem sw_gt_19683 {j : Nat} (h : j < 2 ^ 31) : (19683 < nI j) ↔ 19683 < j := nI_ltI (a := 19683) (by decide) h
theorem sw_le_19683 {j : Nat} (h : j < 2 ^ 31) : (nI j ≤ 19683) ↔ j ≤ 19683 := nI_leI (b := 19683) h (by decide)
theorem sw_ge_19683 {j : Nat} (h : j < 2 ^ 31) : (19683 ≤ nI j) ↔ 19683 ≤ j := nI_leI (a := 19683) (by decide) h
theorem sw_eq_19683 {j : Nat} (h : j < 2 ^ 31) : (nI j = 19683) ↔ j = 19683 := nI_eq (b := 19683) h (by decide)
theorem sw_lt_531440 {j : Nat} (h : j < 2 ^ 31) : (nI j < 531440) ↔ j < 531440 := nI_ltI (b := 531440) h (by decide)
theorem sw_gt_531440 {j : Nat} (h : j < 2 ^ 31) : (531440 < nI j) ↔ 531440 < j := nI_ltI (a := 531440) (by decide) h
theorem sw_le_531440 {j : Nat} (h : j < 2 ^ 31) : (nI j ≤ 531440) ↔ j ≤ 531440 := nI_leI (b := 531440) h (by decide)
theorem sw_ge_531440 {j : Nat} (h : j < 2 ^ 31) : (531440 ≤ nI j) ↔ 531440 ≤ j := nI_leI (a := 531440) (by decide) h
theorem sw_eq_531440 {j : Nat} (h : j < 2 ^ 31) : (nI j = 531440) ↔ j = 531440 := nI_eq (b := 531440) h (by decide)
