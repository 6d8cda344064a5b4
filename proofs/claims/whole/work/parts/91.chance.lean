/-! dry days by chance: numbers -/
/-- the strengths behind day d, with damp a -/
def nxS (c : Cf) (d a : Nat) (s : Nat → Nat) : Nat → Nat := fun k => if now c k d = 2 then adj (uA c (fun _ => a)) d s k else cK c k
def noUp (c : Cf) (d a : Nat) (s : Nat → Nat) : Bool := !exB (fun k => upS (uA c (fun _ => a)) d s k) (cN c)
/-- nothing comes up m days on -/
def stil (c : Cf) (g : Nat → Nat) : Nat → Nat → (Nat → Nat) → Bool
  | 0, d, s => noUp c d (g d) s
  | m + 1, d, s => stil c g m (d + 1) (nxS c d (g d) s)
theorem stil_0 {c : Cf} {g : Nat → Nat} {d : Nat} {s : Nat → Nat} : stil c g 0 d s = noUp c d (g d) s := rfl
theorem stil_s {c : Cf} {g : Nat → Nat} {m d : Nat} {s : Nat → Nat} : stil c g (m + 1) d s = stil c g m (d + 1) (nxS c d (g d) s) := rfl
theorem stg_nx {c : Cf} {g : Nat → Nat} {d : Nat} : stg (uA c g) (d + 1) = nxS c d (g d) (stg (uA c g) d) := rfl
theorem up_nx {c : Cf} {g : Nat → Nat} {d k : Nat} : up (uA c g) d k = upS (uA c (fun _ => g d)) d (stg (uA c g) d) k := rfl
theorem stil_stg {c : Cf} {g : Nat → Nat} : ∀ m d, stil c g m d (stg (uA c g) d) = noUp c (d + m) (g (d + m)) (stg (uA c g) (d + m))
  | 0, _ => rfl
  | m + 1, d => by
    rw [stil_s, ← stg_nx, stil_stg m (d + 1), show d + 1 + m = d + (m + 1) by omega]
theorem stil_up {c : Cf} {g : Nat → Nat} {m : Nat} : stil c g m 0 (cK c) = !exB (fun k => up (uA c g) m k) (cN c) := by
  have h := stil_stg (c := c) (g := g) m 0
  rw [Nat.zero_add] at h
  exact h
theorem stil_cong {c : Cf} {g h : Nat → Nat} : ∀ m d s, (∀ e, d ≤ e → e ≤ d + m → g e = h e) → stil c g m d s = stil c h m d s
  | 0, d, s, q => by rw [stil_0, stil_0, q d (by omega) (by omega)]
  | m + 1, d, s, q => by
    rw [stil_s, stil_s, q d (by omega) (by omega)]
    exact stil_cong m (d + 1) _ (fun e h1 h2 => q e (by omega) (by omega))
/-- the weight of a set of dry days -/
def wtS (x : Nat) : Nat → Nat → Nat
  | 0, _ => 1
  | n + 1, t => wtS x n t * (if t.testBit n = true then x else 16 - x)
theorem wtS_s {x n t : Nat} : wtS x (n + 1) t = wtS x n t * (if t.testBit n = true then x else 16 - x) := rfl
theorem wtS_low {x : Nat} : ∀ n t, wtS x (n + 1) t = (if t.testBit 0 = true then x else 16 - x) * wtS x n (t / 2)
  | 0, t => by rw [wtS_s]; simp [wtS]
  | n + 1, t => by
    rw [wtS_s, wtS_low n t, wtS_s, Nat.mul_assoc]
    have e : (t / 2).testBit n = t.testBit (n + 1) := by
      have : (t / 2 ^ 1).testBit n = t.testBit (n + 1) := Nat.testBit_div_two_pow t n
      rw [Nat.pow_one] at this
      exact this
    rw [e]
theorem sm_eo (h : Nat → Nat) : ∀ m, fb_sm h (2 * m) = fb_sm (fun t => h (2 * t) + h (2 * t + 1)) m
  | 0 => rfl
  | m + 1 => by
    rw [show 2 * (m + 1) = 2 * m + 1 + 1 by omega, fb_sm_succ, fb_sm_succ, fb_sm_succ, sm_eo h m]
    omega
theorem tb_even {t : Nat} : (2 * t).testBit 0 = false := by
  rw [Nat.testBit_zero]
  simp
theorem tb_odd {t : Nat} : (2 * t + 1).testBit 0 = true := by
  rw [Nat.testBit_zero]
  simp
theorem sm_mul (x : Nat) (f : Nat → Nat) : ∀ n, fb_sm (fun t => x * f t) n = x * fb_sm f n
  | 0 => rfl
  | n + 1 => by rw [fb_sm_succ, fb_sm_succ, sm_mul x f n, Nat.mul_add]
theorem wtS_sum {x : Nat} (hx : x ≤ 16) : ∀ n, fb_sm (wtS x n) (2 ^ n) = 16 ^ n
  | 0 => rfl
  | n + 1 => by
    rw [Nat.pow_succ, Nat.mul_comm (2 ^ n) 2, sm_eo]
    have e : fb_sm (fun t => wtS x (n + 1) (2 * t) + wtS x (n + 1) (2 * t + 1)) (2 ^ n) = fb_sm (fun t => 16 * wtS x n t) (2 ^ n) := fb_sm_cong (fun t _ => by
      rw [wtS_low, wtS_low, tb_even, tb_odd, if_neg (by simp), if_pos rfl, show 2 * t / 2 = t by omega, show (2 * t + 1) / 2 = t by omega, ← Nat.add_mul]
      congr 1
      omega)
    rw [e, sm_mul, wtS_sum hx n, Nat.pow_succ, Nat.mul_comm]
/-- damps with a set of dry days from day d on -/
def dmS (a : Nat → Nat) (d n t : Nat) : Nat → Nat := fun e => if d ≤ e ∧ e < d + n ∧ t.testBit (e - d) = true then 0 else a e
def bN (b : Bool) : Nat := if b = true then 1 else 0
/-- cases in which nothing comes up m days on: n days by chance -/
def vvS (c : Cf) (x : Nat) (a : Nat → Nat) : Nat → Nat → Nat → (Nat → Nat) → Nat
  | 0, m, d, s => bN (stil c a m d s)
  | n + 1, 0, d, s => (x * bN (noUp c d 0 s) + (16 - x) * bN (noUp c d (a d) s)) * 16 ^ n
  | n + 1, m + 1, d, s => x * vvS c x a n m (d + 1) (nxS c d 0 s) + (16 - x) * vvS c x a n m (d + 1) (nxS c d (a d) s)
theorem vv_0 {c : Cf} {x : Nat} {a : Nat → Nat} {m d : Nat} {s : Nat → Nat} : vvS c x a 0 m d s = bN (stil c a m d s) := by
  cases m <;> rfl
theorem vv_s0 {c : Cf} {x : Nat} {a : Nat → Nat} {n d : Nat} {s : Nat → Nat} : vvS c x a (n + 1) 0 d s = (x * bN (noUp c d 0 s) + (16 - x) * bN (noUp c d (a d) s)) * 16 ^ n := rfl
theorem vv_ss {c : Cf} {x : Nat} {a : Nat → Nat} {n m d : Nat} {s : Nat → Nat} : vvS c x a (n + 1) (m + 1) d s = x * vvS c x a n m (d + 1) (nxS c d 0 s) + (16 - x) * vvS c x a n m (d + 1) (nxS c d (a d) s) := rfl
theorem vv_sum {c : Cf} {x : Nat} (hx : x ≤ 16) {a : Nat → Nat} : ∀ n m d s, fb_sm (fun t => wtS x n t * bN (stil c (dmS a d n t) m d s)) (2 ^ n) = vvS c x a n m d s
  | 0, m, d, s => by
    rw [vv_0]
    have e : dmS a d 0 0 = a := by
      funext e
      unfold dmS
      rw [if_neg (by omega)]
    show 0 + wtS x 0 0 * bN (stil c (dmS a d 0 0) m d s) = _
    rw [e]
    simp [wtS]
  | n + 1, m, d, s => by
    rw [Nat.pow_succ, Nat.mul_comm (2 ^ n) 2, sm_eo]
    have d0 : ∀ t, dmS a d (n + 1) (2 * t) d = a d := fun t => by
      unfold dmS
      rw [if_neg]
      rintro ⟨-, -, q⟩
      rw [Nat.sub_self, tb_even] at q
      cases q
    have d1 : ∀ t, dmS a d (n + 1) (2 * t + 1) d = 0 := fun t => by
      unfold dmS
      rw [if_pos ⟨Nat.le_refl _, by omega, by rw [Nat.sub_self, tb_odd]⟩]
    have dk : ∀ u t e, u / 2 = t → d + 1 ≤ e → dmS a d (n + 1) u e = dmS a (d + 1) n t e := fun u t e hu he => by
      unfold dmS
      have hb : u.testBit (e - d) = t.testBit (e - (d + 1)) := by
        have : (u / 2 ^ 1).testBit (e - (d + 1)) = u.testBit (e - (d + 1) + 1) := Nat.testBit_div_two_pow u (e - (d + 1))
        rw [Nat.pow_one, hu] at this
        rw [this]
        congr 1
        omega
      rw [hb]
      by_cases q : d + 1 ≤ e ∧ e < d + 1 + n ∧ t.testBit (e - (d + 1)) = true
      · rw [if_pos q, if_pos ⟨by omega, by omega, q.2.2⟩]
      · rw [if_neg q, if_neg (fun z => q ⟨he, by omega, z.2.2⟩)]
    cases m with
    | zero =>
      rw [vv_s0]
      have e : fb_sm (fun t => wtS x (n + 1) (2 * t) * bN (stil c (dmS a d (n + 1) (2 * t)) 0 d s) + wtS x (n + 1) (2 * t + 1) * bN (stil c (dmS a d (n + 1) (2 * t + 1)) 0 d s)) (2 ^ n) = fb_sm (fun t => (x * bN (noUp c d 0 s) + (16 - x) * bN (noUp c d (a d) s)) * wtS x n t) (2 ^ n) := fb_sm_cong (fun t _ => by
        rw [wtS_low, wtS_low, tb_even, tb_odd, if_neg (by simp), if_pos rfl, show 2 * t / 2 = t by omega, show (2 * t + 1) / 2 = t by omega, stil_0, stil_0, d0, d1, Nat.add_mul, Nat.add_comm]
        congr 1
        · rw [Nat.mul_assoc, Nat.mul_assoc, Nat.mul_comm (wtS x n t)]
        · rw [Nat.mul_assoc, Nat.mul_assoc, Nat.mul_comm (wtS x n t)])
      rw [e, sm_mul, wtS_sum hx]
    | succ m =>
      rw [vv_ss, ← vv_sum hx n m (d + 1) (nxS c d 0 s), ← vv_sum hx n m (d + 1) (nxS c d (a d) s), ← sm_mul, ← sm_mul, ← fb_sm_add]
      refine fb_sm_cong (fun t _ => ?_)
      rw [wtS_low, wtS_low, tb_even, tb_odd, if_neg (by simp), if_pos rfl, show 2 * t / 2 = t by omega, show (2 * t + 1) / 2 = t by omega, stil_s, stil_s, d0, d1, stil_cong (g := dmS a d (n + 1) (2 * t)) (h := dmS a (d + 1) n t) m (d + 1) _ (fun e h1 _ => dk _ _ e (by omega) h1), stil_cong (g := dmS a d (n + 1) (2 * t + 1)) (h := dmS a (d + 1) n t) m (d + 1) _ (fun e h1 _ => dk _ _ e (by omega) h1), Nat.add_comm, Nat.mul_assoc, Nat.mul_assoc]
theorem vv_more {c : Cf} {x : Nat} {a : Nat → Nat} {e : Nat} : ∀ m d s, vvS c x a (m + 1 + e) m d s = 16 ^ e * vvS c x a (m + 1) m d s
  | 0, d, s => by
    rw [show 0 + 1 + e = e + 1 by omega, vv_s0, show 0 + 1 = 0 + 1 from rfl, vv_s0, Nat.pow_zero, Nat.mul_one, Nat.mul_comm]
  | m + 1, d, s => by
    rw [show m + 1 + 1 + e = (m + 1 + e) + 1 by omega, vv_ss, vv_ss, vv_more m, vv_more m, Nat.mul_add]
    congr 1
    · rw [Nat.mul_left_comm]
    · rw [Nat.mul_left_comm]
theorem bN_le {b : Bool} : bN b ≤ 1 := by unfold bN; split <;> omega
theorem vv_le {c : Cf} {x : Nat} (hx : x ≤ 16) {a : Nat → Nat} : ∀ n m d s, vvS c x a n m d s ≤ 16 ^ n
  | 0, m, d, s => by rw [vv_0]; exact bN_le
  | n + 1, 0, d, s => by
    rw [vv_s0, Nat.pow_succ, Nat.mul_comm (16 ^ n) 16]
    have h1 : x * bN (noUp c d 0 s) ≤ x * 1 := Nat.mul_le_mul_left _ bN_le
    have h2 : (16 - x) * bN (noUp c d (a d) s) ≤ (16 - x) * 1 := Nat.mul_le_mul_left _ bN_le
    exact Nat.mul_le_mul_right _ (by omega)
  | n + 1, m + 1, d, s => by
    rw [vv_ss, Nat.pow_succ, Nat.mul_comm (16 ^ n) 16]
    have h1 := Nat.mul_le_mul_left x (vv_le (c := c) hx (a := a) n m (d + 1) (nxS c d 0 s))
    have h2 := Nat.mul_le_mul_left (16 - x) (vv_le (c := c) hx (a := a) n m (d + 1) (nxS c d (a d) s))
    have h3 : x * 16 ^ n + (16 - x) * 16 ^ n = 16 * 16 ^ n := by rw [← Nat.add_mul]; congr 1; omega
    omega
