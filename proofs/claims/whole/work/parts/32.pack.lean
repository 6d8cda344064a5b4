/-! eight nibbles in an int -/
def pkn : Nat → (Nat → Nat) → Nat
  | 0, _ => 0
  | n + 1, f => f 0 + 16 * pkn n (fun k => f (k + 1))
theorem pkn_cong : ∀ {n : Nat} {f g : Nat → Nat}, (∀ k, k < n → f k = g k) → pkn n f = pkn n g
  | 0, _, _, _ => rfl
  | n + 1, f, g, h => by
    show f 0 + 16 * _ = g 0 + 16 * _
    rw [h 0 (by omega), pkn_cong (n := n) (fun k hk => h (k + 1) (by omega))]
theorem pkn_add : ∀ (n : Nat) (f g : Nat → Nat), pkn n f + pkn n g = pkn n (fun k => f k + g k)
  | 0, _, _ => rfl
  | n + 1, f, g => by
    show f 0 + 16 * _ + (g 0 + 16 * _) = f 0 + g 0 + 16 * _
    rw [← pkn_add n (fun k => f (k + 1)) (fun k => g (k + 1))]
    omega
theorem pkn_lt : ∀ {n : Nat} {f : Nat → Nat}, (∀ k, k < n → f k < 16) → pkn n f < 16 ^ n
  | 0, _, _ => Nat.zero_lt_one
  | n + 1, f, h => by
    have h1 := pkn_lt (n := n) (f := fun k => f (k + 1)) (fun k hk => h (k + 1) (by omega))
    have h2 := h 0 (by omega)
    show f 0 + 16 * _ < 16 ^ (n + 1)
    rw [Nat.pow_succ]
    omega
theorem pkn_get : ∀ {n : Nat} {f : Nat → Nat}, (∀ k, k < n → f k < 16) → ∀ {k : Nat}, k < n → pkn n f / 16 ^ k % 16 = f k
  | 0, _, _, k, hk => by omega
  | n + 1, f, h, 0, _ => by
    show (f 0 + 16 * _) / 16 ^ 0 % 16 = f 0
    have h2 := h 0 (by omega)
    rw [Nat.pow_zero, Nat.div_one]
    omega
  | n + 1, f, h, k + 1, hk => by
    have ih := pkn_get (n := n) (f := fun k => f (k + 1)) (fun k hk => h (k + 1) (by omega)) (k := k) (by omega)
    show (f 0 + 16 * _) / 16 ^ (k + 1) % 16 = f (k + 1)
    have h2 := h 0 (by omega)
    rw [Nat.pow_succ, Nat.mul_comm (16 ^ k) 16, ← Nat.div_div_eq_div_mul]
    rw [show (f 0 + 16 * pkn n fun k => f (k + 1)) / 16 = pkn n (fun k => f (k + 1)) by omega]
    exact ih
theorem tb16 {a b : Nat} (h : a < 16) (i : Nat) : (a + 16 * b).testBit i = if i < 4 then a.testBit i else b.testBit (i - 4) := by
  rw [Nat.add_comm]
  exact Nat.testBit_two_pow_mul_add b (i := 4) h i
theorem pkn_bit : ∀ {n : Nat} {f : Nat → Nat}, (∀ k, k < n → f k < 16) → ∀ {k j : Nat}, k < n → j < 4 → (pkn n f).testBit (4 * k + j) = (f k).testBit j
  | 0, _, _, k, _, hk, _ => by omega
  | n + 1, f, h, 0, j, _, hj => by
    show (f 0 + 16 * _).testBit _ = _
    rw [tb16 (h 0 (by omega)), if_pos (by omega)]
    congr 1
    omega
  | n + 1, f, h, k + 1, j, hk, hj => by
    show (f 0 + 16 * _).testBit _ = _
    rw [tb16 (h 0 (by omega)), if_neg (by omega), show 4 * (k + 1) + j - 4 = 4 * k + j by omega]
    exact pkn_bit (n := n) (f := fun k => f (k + 1)) (fun k hk => h (k + 1) (by omega)) (k := k) (by omega) hj
theorem pkn_high {n : Nat} {f : Nat → Nat} (h : ∀ k, k < n → f k < 16) {i : Nat} (hi : 4 * n ≤ i) : (pkn n f).testBit i = false := by
  apply Nat.testBit_lt_two_pow
  have h1 := pkn_lt h
  have h2 : 16 ^ n ≤ 2 ^ i := by
    rw [show 16 = 2 ^ 4 from rfl, ← Nat.pow_mul]
    exact Nat.pow_le_pow_right (by decide) hi
  omega
theorem pkn_ext {n : Nat} {f : Nat → Nat} (h : ∀ k, k < n → f k < 16) {x : Nat} (hx : x < 16 ^ n) (hb : ∀ k j, k < n → j < 4 → x.testBit (4 * k + j) = (f k).testBit j) : x = pkn n f := by
  apply Nat.eq_of_testBit_eq
  intro i
  by_cases hi : 4 * n ≤ i
  · rw [pkn_high h hi]
    apply Nat.testBit_lt_two_pow
    have h2 : 16 ^ n ≤ 2 ^ i := by
      rw [show 16 = 2 ^ 4 from rfl, ← Nat.pow_mul]
      exact Nat.pow_le_pow_right (by decide) hi
    omega
  · have e : i = 4 * (i / 4) + i % 4 := by omega
    rw [e, hb (i / 4) (i % 4) (by omega) (by omega), pkn_bit h (by omega) (by omega)]
/-- the int of eight nibbles; of a set -/
def pk (f : Nat → Nat) : Int32 := nI (pkn 8 f)
def bs (p : Nat → Bool) : Nat → Nat := fun k => if p k = true then 1 else 0
def ps (p : Nat → Bool) : Int32 := pk (bs p)
theorem bs_lt (p : Nat → Bool) (k : Nat) : bs p k < 16 := by unfold bs; split <;> omega
theorem pk_cong {f g : Nat → Nat} (h : ∀ k, k < 8 → f k = g k) : pk f = pk g := by unfold pk; rw [pkn_cong h]
theorem ps_cong {p q : Nat → Bool} (h : ∀ k, k < 8 → p k = q k) : ps p = ps q := pk_cong (fun k hk => by unfold bs; rw [h k hk])
theorem pkn8 {f : Nat → Nat} (h : ∀ k, k < 8 → f k < 16) : pkn 8 f < 2 ^ 32 := pkn_lt h
theorem nI_inj32 {a b : Nat} (ha : a < 2 ^ 32) (hb : b < 2 ^ 32) (h : nI a = nI b) : a = b := by
  have h1 := congrArg (fun x : Int32 => x.toBitVec.toNat) h
  simp only [pk_tn ha, pk_tn hb] at h1
  exact h1
theorem pk_inj {f g : Nat → Nat} (hf : ∀ k, k < 8 → f k < 16) (hg : ∀ k, k < 8 → g k < 16) (h : pk f = pk g) : ∀ k, k < 8 → f k = g k := by
  intro k hk
  have e := nI_inj32 (pkn8 hf) (pkn8 hg) h
  rw [← pkn_get hf hk, ← pkn_get hg hk, e]
theorem ps_inj {p q : Nat → Bool} (h : ps p = ps q) : ∀ k, k < 8 → p k = q k := by
  intro k hk
  have e := pk_inj (fun k _ => bs_lt p k) (fun k _ => bs_lt q k) h k hk
  unfold bs at e
  cases hp : p k <;> cases hq : q k <;> simp [hp, hq] at e ⊢
theorem ps_0 : ps (fun _ => false) = 0 := by decide +kernel
theorem ps_eq0 {p : Nat → Bool} : ps p = 0 ↔ ∀ k, k < 8 → p k = false := by
  rw [← ps_0]
  exact ⟨fun h => ps_inj h, fun h => ps_cong h⟩
theorem ush4 {n k : Nat} (hn : n < 2 ^ 32) (hk : k < 8) : ush (nI n) (4 * nI k) = nI (n / 16 ^ k) := by
  have h1 : k = 0 ∨ k = 1 ∨ k = 2 ∨ k = 3 ∨ k = 4 ∨ k = 5 ∨ k = 6 ∨ k = 7 := by omega
  unfold ush
  rcases h1 with rfl | rfl | rfl | rfl | rfl | rfl | rfl | rfl
  · rw [pk_ushrN hn _ 0 (by decide)]
  · rw [pk_ushrN hn _ 4 (by decide)]
  · rw [pk_ushrN hn _ 8 (by decide)]
  · rw [pk_ushrN hn _ 12 (by decide)]
  · rw [pk_ushrN hn _ 16 (by decide)]
  · rw [pk_ushrN hn _ 20 (by decide)]
  · rw [pk_ushrN hn _ 24 (by decide)]
  · rw [pk_ushrN hn _ 28 (by decide)]
theorem sIn_pk {f : Nat → Nat} (hf : ∀ k, k < 8 → f k < 16) {k : Nat} (hk : k < 8) : ush (pk f) (4 * nI k) &&& 15 = nI (f k) := by
  unfold pk
  rw [ush4 (pkn8 hf) hk]
  have h1 : pkn 8 f / 16 ^ k < 2 ^ 32 := Nat.lt_of_le_of_lt (Nat.div_le_self _ _) (pkn8 hf)
  rw [pk_andN h1 4 (by decide)]
  rw [show 2 ^ 4 = 16 from rfl, pkn_get hf hk]
theorem bit_pk {f : Nat → Nat} (hf : ∀ k, k < 8 → f k < 16) {k : Nat} (hk : k < 8) : ush (pk f) (4 * nI k) &&& 1 = nI (f k % 2) := by
  unfold pk
  rw [ush4 (pkn8 hf) hk]
  have h1 : pkn 8 f / 16 ^ k < 2 ^ 32 := Nat.lt_of_le_of_lt (Nat.div_le_self _ _) (pkn8 hf)
  rw [pk_andN h1 1 (by decide)]
  have h2 := pkn_get hf hk
  congr 1
  rw [← h2]
  omega
theorem bit_ps {p : Nat → Bool} {k : Nat} (hk : k < 8) : ush (ps p) (4 * nI k) &&& 1 = if p k = true then 1 else 0 := by
  unfold ps
  rw [bit_pk (fun k _ => bs_lt p k) hk]
  unfold bs
  cases p k <;> rfl
theorem has_ok {p : Nat → Bool} {k : Nat} (hk : k < 8) (S : Sg) : fX8_has (ps p) (nI k) S = some ((if p k = true then 1 else 0), S) := by
  unfold fX8_has
  rw [bit_ps hk]
  cases p k <;> rfl
theorem strIn_ok {f : Nat → Nat} (hf : ∀ k, k < 8 → f k < 16) {k : Nat} (hk : k < 8) (S : Sg) : fX8_strengthIn (pk f) (nI k) S = some (nI (f k), S) := by
  unfold fX8_strengthIn
  rw [sIn_pk hf hk]
theorem only_val : ∀ k, k < 8 → (1 : Int32) <<< ((4 * nI k) &&& 31) = ps (fun i => i == k) := by decide +kernel
theorem only_ok {k : Nat} (hk : k < 8) (S : Sg) : fX8_only (nI k) S = some (ps (fun i => i == k), S) := by
  unfold fX8_only
  rw [only_val k hk]
theorem pk_and2 {f g : Nat → Nat} (hf : ∀ k, k < 8 → f k < 16) (hg : ∀ k, k < 8 → g k < 16) : pk f &&& pk g = pk (fun k => f k &&& g k) := by
  unfold pk
  rw [fa_and]
  congr 1
  refine pkn_ext (fun k hk => Nat.and_lt_two_pow (n := 4) _ (hg k hk)) (Nat.lt_of_le_of_lt Nat.and_le_left (pkn_lt hf)) (fun k j hk hj => ?_)
  rw [Nat.testBit_and, pkn_bit hf hk hj, pkn_bit hg hk hj, Nat.testBit_and]
theorem pk_or2 {f g : Nat → Nat} (hf : ∀ k, k < 8 → f k < 16) (hg : ∀ k, k < 8 → g k < 16) : pk f ||| pk g = pk (fun k => f k ||| g k) := by
  unfold pk
  rw [fa_or]
  congr 1
  refine pkn_ext (fun k hk => Nat.or_lt_two_pow (n := 4) (hf k hk) (hg k hk)) (Nat.or_lt_two_pow (n := 32) (pkn_lt hf) (pkn_lt hg)) (fun k j hk hj => ?_)
  rw [Nat.testBit_or, pkn_bit hf hk hj, pkn_bit hg hk hj, Nat.testBit_or]
theorem pk_xor2 {f g : Nat → Nat} (hf : ∀ k, k < 8 → f k < 16) (hg : ∀ k, k < 8 → g k < 16) : pk f ^^^ pk g = pk (fun k => f k ^^^ g k) := by
  unfold pk
  rw [fb_xorI]
  congr 1
  refine pkn_ext (fun k hk => Nat.xor_lt_two_pow (n := 4) (hf k hk) (hg k hk)) (Nat.xor_lt_two_pow (n := 32) (pkn_lt hf) (pkn_lt hg)) (fun k j hk hj => ?_)
  rw [Nat.testBit_xor, pkn_bit hf hk hj, pkn_bit hg hk hj, Nat.testBit_xor]
theorem pk_15 : (-1 : Int32) = pk (fun _ => 15) := by decide +kernel
theorem ps_and {p q : Nat → Bool} : ps p &&& ps q = ps (fun k => p k && q k) := by
  unfold ps
  rw [pk_and2 (fun k _ => bs_lt p k) (fun k _ => bs_lt q k)]
  refine pk_cong (fun k _ => ?_)
  show ((if p k = true then 1 else 0) &&& (if q k = true then 1 else 0)) = (if (p k && q k) = true then 1 else 0)
  cases p k <;> cases q k <;> rfl
theorem ps_or {p q : Nat → Bool} : ps p ||| ps q = ps (fun k => p k || q k) := by
  unfold ps
  rw [pk_or2 (fun k _ => bs_lt p k) (fun k _ => bs_lt q k)]
  refine pk_cong (fun k _ => ?_)
  show ((if p k = true then 1 else 0) ||| (if q k = true then 1 else 0)) = (if (p k || q k) = true then 1 else 0)
  cases p k <;> cases q k <;> rfl
theorem ps_m1 {p : Nat → Bool} : ps p &&& (-1) = ps p := by
  rw [pk_15]
  unfold ps
  rw [pk_and2 (fun k _ => bs_lt p k) (fun _ _ => by decide)]
  refine pk_cong (fun k _ => ?_)
  unfold bs
  cases p k <;> rfl
/-- a set less what another int has at its lowest bits -/
theorem ps_diff {p : Nat → Bool} {f : Nat → Nat} (hf : ∀ k, k < 8 → f k < 16) : ps p &&& (pk f ^^^ (-1)) = ps (fun k => p k && !((f k).testBit 0)) := by
  rw [pk_15, pk_xor2 hf (fun _ _ => by decide)]
  unfold ps
  rw [pk_and2 (fun k _ => bs_lt p k) (fun k hk => Nat.xor_lt_two_pow (n := 4) (hf k hk) (by decide))]
  refine pk_cong (fun k hk => ?_)
  show ((if p k = true then 1 else 0) &&& (f k ^^^ 15)) = (if (p k && !((f k).testBit 0)) = true then 1 else 0)
  have h := hf k hk
  have key : ∀ v, v < 16 → (1 &&& (v ^^^ 15)) = if (v.testBit 0) = true then 0 else 1 := by decide
  cases p k with
  | false => simp
  | true =>
    rw [if_pos rfl, key _ h]
    cases (f k).testBit 0 <;> rfl
theorem ps_sub {p q : Nat → Bool} : ps p &&& (ps q ^^^ (-1)) = ps (fun k => p k && !q k) := by
  have h := ps_diff (p := p) (f := bs q) (fun k _ => bs_lt q k)
  have e : ps q = pk (bs q) := rfl
  rw [e, h]
  refine ps_cong (fun k _ => ?_)
  unfold bs
  cases q k <;> simp
