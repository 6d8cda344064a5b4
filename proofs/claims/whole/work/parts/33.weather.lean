/-! counting a set, a day's weather, on nibbles -/
def ob : Nat → (Nat → Bool) → Nat
  | 0, _ => 0
  | n + 1, p => (if p 0 = true then 1 else 0) + 2 * ob n (fun k => p (k + 1))
theorem ob_lt : ∀ (n : Nat) (p : Nat → Bool), ob n p < 2 ^ n
  | 0, _ => Nat.zero_lt_one
  | n + 1, p => by
    have h := ob_lt n (fun k => p (k + 1))
    show (if p 0 = true then 1 else 0) + 2 * _ < 2 ^ (n + 1)
    rw [Nat.pow_succ]
    split <;> omega
theorem ob_bit : ∀ {n : Nat} {p : Nat → Bool} {k : Nat}, k < n → (ob n p).testBit k = p k
  | 0, _, k, h => by omega
  | n + 1, p, 0, _ => by
    show ((if p 0 = true then 1 else 0) + 2 * _).testBit 0 = p 0
    rw [Nat.add_comm, Nat.testBit_two_pow_mul_add (i := 1) _ (by split <;> omega), if_pos (by omega)]
    cases p 0 <;> rfl
  | n + 1, p, k + 1, h => by
    show ((if p 0 = true then 1 else 0) + 2 * _).testBit (k + 1) = p (k + 1)
    rw [Nat.add_comm, Nat.testBit_two_pow_mul_add (i := 1) _ (by split <;> omega), if_neg (by omega)]
    exact ob_bit (n := n) (p := fun k => p (k + 1)) (by omega)
def bcv (x : Int32) : Int32 := match fJ6_bitCount_0f7a4 x (fun _ _ => 0, fun _ _ => 0) with
  | some q => q.1
  | none => 0
theorem bc_ok (x : Int32) (S : Sg) : fJ6_bitCount_0f7a4 x S = some (bcv x, S) := rfl
set_option maxRecDepth 100000 in
theorem bc_256 : ∀ m, m < 256 → bcv (ps (fun k => m.testBit k)) = nI (fb_ct (fun k => m.testBit k) 8) := by decide +kernel
theorem bc_ps (p : Nat → Bool) : bcv (ps p) = nI (fb_ct p 8) := by
  have h1 := bc_256 (ob 8 p) (ob_lt 8 p)
  rw [ps_cong (q := p) (fun k hk => ob_bit hk), fb_ct_cong (q := p) (fun k hk => ob_bit hk)] at h1
  exact h1
theorem bc_64 : ∀ m, m < 64 → bcv (nI m) = nI (fb_ct (fun k => m.testBit k) 6) := by decide +kernel
theorem any_pk {n : Nat} (h : n < 2 ^ 32) : nI n = pk (fun k => n / 16 ^ k % 16) := by
  unfold pk
  congr 1
  refine pkn_ext (fun k _ => Nat.mod_lt _ (by decide)) h (fun k j hk hj => ?_)
  have e : (16 : Nat) = 2 ^ 4 := rfl
  rw [show n / 16 ^ k % 16 = n / 2 ^ (4 * k) % 2 ^ 4 by rw [e, ← Nat.pow_mul], Nat.testBit_mod_two_pow, Nat.testBit_div_two_pow]
  simp [hj]
  congr 1
  omega
theorem nib_bit0 {n k : Nat} : (n / 16 ^ k % 16).testBit 0 = n.testBit (4 * k) := by
  have e : (16 : Nat) = 2 ^ 4 := rfl
  rw [show n / 16 ^ k % 16 = n / 2 ^ (4 * k) % 2 ^ 4 by rw [e, ← Nat.pow_mul], Nat.testBit_mod_two_pow, Nat.testBit_div_two_pow]
  simp
theorem ps_diffN {p : Nat → Bool} {n : Nat} (h : n < 2 ^ 32) : ps p &&& (nI n ^^^ (-1)) = ps (fun k => p k && !(n.testBit (4 * k))) := by
  rw [any_pk h, ps_diff (fun k _ => Nat.mod_lt _ (by decide))]
  refine ps_cong (fun k _ => ?_)
  show (p k && !((n / 16 ^ k % 16).testBit 0)) = (p k && !(n.testBit (4 * k)))
  rw [nib_bit0]
theorem ps_andN {p : Nat → Bool} {n : Nat} (h : n < 2 ^ 32) : ps p &&& nI n = ps (fun k => p k && n.testBit (4 * k)) := by
  rw [any_pk h]
  unfold ps
  rw [pk_and2 (fun k _ => bs_lt p k) (fun k _ => Nat.mod_lt _ (by decide))]
  refine pk_cong (fun k _ => ?_)
  show ((if p k = true then 1 else 0) &&& (n / 16 ^ k % 16)) = (if (p k && n.testBit (4 * k)) = true then 1 else 0)
  rw [← nib_bit0]
  have key : ∀ v, v < 16 → (1 &&& v) = if (v.testBit 0) = true then 1 else 0 := by decide
  cases p k with
  | false => simp
  | true =>
    rw [if_pos rfl, key _ (Nat.mod_lt _ (by decide))]
    rfl
theorem ush_k {n : Nat} (h : n < 2 ^ 32) : ush (nI n) 1 = nI (n / 2) ∧ ush (nI n) 2 = nI (n / 4) ∧ ush (nI n) 3 = nI (n / 8) := by
  unfold ush
  exact ⟨pk_ushrN h _ 1 (by decide), pk_ushrN h _ 2 (by decide), pk_ushrN h _ 3 (by decide)⟩
theorem pk_addF (f g : Nat → Nat) : pk f + pk g = pk (fun k => f k + g k) := by
  unfold pk
  rw [nI_add, pkn_add]
theorem pk_subF {f g : Nat → Nat} (h : ∀ k, k < 8 → g k ≤ f k) : pk f - pk g = pk (fun k => f k - g k) := by
  have e : pk f = pk (fun k => f k - g k) + pk g := by
    rw [pk_addF]
    exact pk_cong (fun k hk => by have := h k hk; omega)
  rw [e]
  exact Int32.add_sub_cancel _ _
theorem bit09 : ∀ v, v ≤ 9 → (v.testBit 0 && v.testBit 3) = (v == 9) := by decide
theorem bitn0 : ∀ v, v ≤ 9 → (((v.testBit 0 || v.testBit 1) || v.testBit 2) || v.testBit 3) = !(v == 0) := by decide
/-- the strengths behind a day -/
theorem weather_val {f : Nat → Nat} (hf : ∀ k, k < 8 → f k ≤ 9) (p q : Nat → Bool) : (pk f + (ps p &&& ((pk f &&& (ush (pk f) 3)) ^^^ (-1)))) - (ps q &&& (((pk f ||| (ush (pk f) 1)) ||| (ush (pk f) 2)) ||| (ush (pk f) 3))) = pk (fun k => f k + (if p k = true ∧ f k < 9 then 1 else 0) - (if q k = true ∧ 0 < f k then 1 else 0)) := by
  have hf16 : ∀ k, k < 8 → f k < 16 := fun k hk => by have := hf k hk; omega
  have hn := pkn8 hf16
  have hb : ∀ k j, k < 8 → j < 4 → (pkn 8 f).testBit (4 * k + j) = (f k).testBit j := fun k j hk hj => pkn_bit hf16 hk hj
  have e3 : ush (pk f) 3 = nI (pkn 8 f / 8) := (ush_k hn).2.2
  have e2 : ush (pk f) 2 = nI (pkn 8 f / 4) := (ush_k hn).2.1
  have e1 : ush (pk f) 1 = nI (pkn 8 f / 2) := (ush_k hn).1
  have e0 : pk f = nI (pkn 8 f) := rfl
  have d8 : pkn 8 f / 8 < 2 ^ 32 := by omega
  have d4 : pkn 8 f / 4 < 2 ^ 32 := by omega
  have d2 : pkn 8 f / 2 < 2 ^ 32 := by omega
  have A : ps p &&& ((pk f &&& (ush (pk f) 3)) ^^^ (-1)) = ps (fun k => p k && !(f k == 9)) := by
    rw [e3, e0, fa_and, ps_diffN (Nat.lt_of_le_of_lt Nat.and_le_left hn)]
    refine ps_cong (fun k hk => ?_)
    have h0 := hb k 0 hk (by omega)
    rw [Nat.add_zero] at h0
    rw [Nat.testBit_and, show pkn 8 f / 8 = pkn 8 f / 2 ^ 3 from rfl, Nat.testBit_div_two_pow, h0, hb k 3 hk (by omega), ← bit09 (f k) (hf k hk)]
  have B : ps q &&& (((pk f ||| (ush (pk f) 1)) ||| (ush (pk f) 2)) ||| (ush (pk f) 3)) = ps (fun k => q k && !(f k == 0)) := by
    rw [e3, e2, e1, e0, fa_or, fa_or, fa_or, ps_andN (Nat.or_lt_two_pow (Nat.or_lt_two_pow (Nat.or_lt_two_pow hn d2) d4) d8)]
    refine ps_cong (fun k hk => ?_)
    rw [Nat.testBit_or, Nat.testBit_or, Nat.testBit_or, show pkn 8 f / 8 = pkn 8 f / 2 ^ 3 from rfl, show pkn 8 f / 4 = pkn 8 f / 2 ^ 2 from rfl, show pkn 8 f / 2 = pkn 8 f / 2 ^ 1 from rfl, Nat.testBit_div_two_pow, Nat.testBit_div_two_pow, Nat.testBit_div_two_pow, hb k 1 hk (by omega), hb k 2 hk (by omega), hb k 3 hk (by omega), ← bitn0 (f k) (hf k hk)]
    have h0 := hb k 0 hk (by omega)
    rw [Nat.add_zero] at h0
    rw [h0]
  rw [A, B]
  unfold ps
  rw [pk_addF, pk_subF]
  · refine pk_cong (fun k hk => ?_)
    have h9 := hf k hk
    show f k + (if (p k && !(f k == 9)) = true then 1 else 0) - (if (q k && !(f k == 0)) = true then 1 else 0) = _
    have c1 : ((p k && !(f k == 9)) = true) = (p k = true ∧ f k < 9) := by
      apply propext
      simp
      intro _
      omega
    have c2 : ((q k && !(f k == 0)) = true) = (q k = true ∧ 0 < f k) := by
      apply propext
      simp
      intro _
      omega
    simp only [c1, c2]
  · intro k hk
    show (if (q k && !(f k == 0)) = true then 1 else 0) ≤ f k + (if (p k && !(f k == 9)) = true then 1 else 0)
    split
    · rename_i h
      simp at h
      omega
    · omega
