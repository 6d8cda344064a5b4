/-! lowest terms -/
theorem sh_1 {a : Nat} (h : a < 2 ^ 62) : lN a >>> (Int32.toInt64 (1 : Int32) &&& 63) = lN (a / 2) := by
  have hD : ((Int32.toInt64 (1 : Int32) &&& 63).toBitVec.smod 64).toNat = 1 := by decide
  apply Int64.toInt_inj.mp
  have e : (lN a >>> (Int32.toInt64 (1 : Int32) &&& 63)).toInt = (lN a).toInt >>> 1 := by
    rw [← hD]
    exact BitVec.toInt_sshiftRight ..
  rw [e, Int.shiftRight_eq_div_pow, pk_lT (by omega), pk_lT (by omega)]
  rfl
theorem cmp_0 {a : Nat} (h : a < 2 ^ 62) : (lg_cmp (lN a) 0 = 0) = (a = 0) := by
  apply propext
  unfold lg_cmp
  have e0 : (0 : Int64) = lN 0 := rfl
  by_cases q : a = 0
  · subst q
    exact ⟨fun _ => rfl, fun _ => by decide⟩
  · refine ⟨fun z => ?_, fun z => absurd z q⟩
    exfalso
    have hg : lN a > 0 := by
      show (0 : Int64) < lN a
      rw [e0, pk_lLT (by omega) (by omega)]
      omega
    rw [if_pos hg] at z
    exact absurd z (by decide)
/-- how often r can be halved, p times at most -/
def hv : Nat → Nat → Nat
  | 0, _ => 0
  | p + 1, r => if r % 2 = 0 then hv p (r / 2) + 1 else 0
theorem hv_le : ∀ p r, hv p r ≤ p
  | 0, _ => Nat.le_refl _
  | p + 1, r => by
    have := hv_le p (r / 2)
    show (if r % 2 = 0 then hv p (r / 2) + 1 else 0) ≤ p + 1
    split <;> omega
theorem hv_gcd : ∀ p r, Nat.gcd r (2 ^ p) = 2 ^ hv p r
  | 0, r => by
    show Nat.gcd r 1 = 1
    exact Nat.gcd_one_right r
  | p + 1, r => by
    show _ = 2 ^ (if r % 2 = 0 then hv p (r / 2) + 1 else 0)
    by_cases q : r % 2 = 0
    · rw [if_pos q]
      have e : r = 2 * (r / 2) := by omega
      have e2 : Nat.gcd r (2 ^ (p + 1)) = Nat.gcd (2 * (r / 2)) (2 * 2 ^ p) := by rw [← e, Nat.pow_succ, Nat.mul_comm]
      rw [e2, Nat.gcd_mul_left, hv_gcd p (r / 2), Nat.pow_succ, Nat.mul_comm]
    · rw [if_neg q]
      have h2 : Nat.Coprime r 2 := by
        show Nat.gcd r 2 = 1
        rw [Nat.gcd_comm, Nat.gcd_rec, show r % 2 = 1 by omega]
        exact Nat.gcd_one_left 2
      exact Nat.Coprime.pow_right (p + 1) h2
theorem one_shlL : ∀ q, q ≤ 40 → (1 : Int64) <<< (Int32.toInt64 (nI q) &&& 63) = lN (2 ^ q) := by decide +kernel
theorem reduce_ok {S : Sg} {r p : Nat} (hr : r < 2 ^ 62) (hp : p ≤ 40) : fX2_reduce (lN r) (nI p) S = some ((), sL (sL S 41 4 (lN (r / 2 ^ hv p r))) 41 5 (lN (2 ^ (p - hv p r)))) := by
  obtain ⟨a, S', e1, hS', ha⟩ := lp_invF (B := bX2_reduce_6 (nI p)) (fun i a Sx => Sx = S ∧ ∃ z, a = (lN z, nI i) ∧ i ≤ p ∧ 2 ^ i * z = r ∧ z < 2 ^ 62 ∧ hv p r = i + hv (p - i) z) (fun a Sx => Sx = S ∧ a = (lN (r / 2 ^ hv p r), nI (hv p r))) p (by omega) (by
    rintro i a Sx hi ⟨hSx, z, ha, hip, hz, hz2, hh⟩
    subst hSx
    subst ha
    by_cases hin : i < p
    · by_cases q : z % 2 = 0
      · refine Or.inl ⟨hin, (lN (z / 2), nI (i + 1)), Sx, fun rec => ?_, rfl, z / 2, rfl, by omega, ?_, by omega, ?_⟩
        · have e2 : lN z &&& 1 = lN 0 := by
            have : lN z &&& lN 1 = lN (z &&& 1) := fb_andL z 1
            rw [Nat.and_one_is_mod, q] at this
            exact this
          have e3 : lg_cmp (lN 0) 0 = 0 := by decide
          unfold bX2_reduce_6
          dsimp only
          rw [if_neg (by rw [ns_le (by omega) (by omega)]; omega), e2, if_pos e3, sh_1 hz2, lit_1, nI_add]
        · rw [Nat.pow_succ, Nat.mul_assoc, show 2 * (z / 2) = z by omega]; exact hz
        · rw [hh, show p - i = (p - (i + 1)) + 1 by omega]
          show i + (if z % 2 = 0 then hv (p - (i + 1)) (z / 2) + 1 else 0) = _
          rw [if_pos q]
          omega
      · have h0 : hv (p - i) z = 0 := by
          rw [show p - i = (p - (i + 1)) + 1 by omega]
          show (if z % 2 = 0 then hv (p - (i + 1)) (z / 2) + 1 else 0) = 0
          rw [if_neg q]
        have hpi : hv p r = i := by omega
        have hdiv : r / 2 ^ i = z := by rw [← hz, Nat.mul_div_cancel_left _ (Nat.two_pow_pos i)]
        refine Or.inr ⟨(lN z, nI i), Sx, fun rec => ?_, rfl, by rw [hpi, hdiv]⟩
        have e2 : lN z &&& 1 = lN 1 := by
          have : lN z &&& lN 1 = lN (z &&& 1) := fb_andL z 1
          rw [Nat.and_one_is_mod, show z % 2 = 1 by omega] at this
          exact this
        have e3 : ¬ lg_cmp (lN 1) 0 = 0 := by decide
        unfold bX2_reduce_6
        dsimp only
        rw [if_neg (by rw [ns_le (by omega) (by omega)]; omega), e2, if_neg e3]
    · have hin2 : i = p := by omega
      subst hin2
      have h0 : hv (i - i) z = 0 := by rw [Nat.sub_self]; rfl
      have hpi : hv i r = i := by omega
      have hdiv : r / 2 ^ i = z := by rw [← hz, Nat.mul_div_cancel_left _ (Nat.two_pow_pos i)]
      refine Or.inr ⟨(lN z, nI i), Sx, fun rec => ?_, rfl, by rw [hpi, hdiv]⟩
      unfold bX2_reduce_6
      dsimp only
      rw [if_pos (by rw [ns_le (by omega) (by omega)]; omega)]) (lN r, nI 0) S ⟨rfl, r, rfl, by omega, by rw [Nat.pow_zero, Nat.one_mul], hr, by rw [Nat.sub_zero]; omega⟩
  have hl := hv_le p r
  rw [hS', ha] at e1
  unfold fX2_reduce
  rw [lit_0, e1, bd_some]
  dsimp only
  rw [ns_sub hl, one_shlL (p - hv p r) (by omega)]
/-- the reference: Euclid -/
theorem eu_go {S : Sg} {rec : Int64 × Int64 → Sg → Option ((Int64 × Int64) × Sg)} {x y : Nat} (hx : x < 2 ^ 62) (hy : y < 2 ^ 62) (h0 : ¬ y = 0) : bX9_lowest_6 rec (lN x, lN y) S = rec (lN y, lN (x % y)) S := by
  have hne : (!(lN y == 0)) = true := by
    have : ¬ lN y = 0 := by
      rw [show (0 : Int64) = lN 0 from rfl, pk_lEQ (by omega) (by omega)]
      exact h0
    simp [this]
  unfold bX9_lowest_6
  dsimp only
  rw [if_neg (by rw [cmp_0 hy]; exact h0), gd_t hne, pk_lRem (by omega) (by omega) (by omega)]
theorem eu_end {S : Sg} {rec : Int64 × Int64 → Sg → Option ((Int64 × Int64) × Sg)} {x : Nat} : bX9_lowest_6 rec (lN x, lN 0) S = some ((lN x, lN 0), S) := by
  unfold bX9_lowest_6
  dsimp only
  rw [if_pos (by decide)]
theorem eu_ok {S : Sg} : ∀ k n x y, y ≤ x → x < 2 ^ k → k ≤ 62 → 2 * k < n → lp bX9_lowest_6 n (lN x, lN y) S = some ((lN (Nat.gcd x y), lN 0), S) := by
  intro k
  induction k with
  | zero =>
    intro n x y h1 h2 _ h3
    have hx : x = 0 := by have : x < 1 := h2; omega
    have hy : y = 0 := by omega
    subst hx; subst hy
    obtain ⟨n, rfl⟩ : ∃ m, n = m + 1 := ⟨n - 1, by omega⟩
    show bX9_lowest_6 (lp bX9_lowest_6 n) (lN 0, lN 0) S = _
    rw [eu_end, Nat.gcd_zero_right]
  | succ k ih =>
    intro n x y h1 h2 hk h3
    have hp62 : 2 ^ (k + 1) ≤ 2 ^ 62 := Nat.pow_le_pow_right (by decide) hk
    obtain ⟨n, rfl⟩ : ∃ m, n = m + 2 := ⟨n - 2, by omega⟩
    show bX9_lowest_6 (lp bX9_lowest_6 (n + 1)) (lN x, lN y) S = _
    by_cases hy : y = 0
    · subst hy
      rw [eu_end, Nat.gcd_zero_right]
    · rw [eu_go (by omega) (by omega) hy]
      show bX9_lowest_6 (lp bX9_lowest_6 n) (lN y, lN (x % y)) S = _
      have hlt := Nat.mod_lt x (show 0 < y by omega)
      have e1 : Nat.gcd x y = Nat.gcd y (x % y) := by rw [Nat.gcd_comm x y, Nat.gcd_rec y x, Nat.gcd_comm]
      by_cases hz : x % y = 0
      · rw [hz, eu_end, e1, hz, Nat.gcd_zero_right]
      · rw [eu_go (by omega) (by omega) hz]
        have hsm : x % y < 2 ^ k := by
          have hd := Nat.div_add_mod x y
          have hq : 1 ≤ x / y := (Nat.le_div_iff_mul_le (by omega)).mpr (by omega)
          have : y * 1 ≤ y * (x / y) := Nat.mul_le_mul_left y hq
          have hpw : 2 ^ (k + 1) = 2 ^ k * 2 := Nat.pow_succ ..
          omega
        have hlt2 := Nat.mod_lt y (show 0 < x % y by omega)
        rw [ih n (x % y) (y % (x % y)) (by omega) hsm (by omega) (by omega), e1]
        congr 3
        rw [Nat.gcd_comm y (x % y), Nat.gcd_rec (x % y) y, Nat.gcd_comm]
