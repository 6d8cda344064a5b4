/-! the board's days, over naturals -/
/-- a board: how many strokes; day, cell, chalk of each; which are there; wiped (day, line); oiled (line, day); damp of a day; fine -/
abbrev Cf : Type := Nat × (Nat → Nat) × (Nat → Nat) × (Nat → Nat) × (Nat → Bool) × (Nat → Nat → Bool) × (Nat → Nat → Bool) × (Nat → Nat) × Nat
def cN (c : Cf) : Nat := c.1
def cD (c : Cf) : Nat → Nat := c.2.1
def cC (c : Cf) : Nat → Nat := c.2.2.1
def cK (c : Cf) : Nat → Nat := c.2.2.2.1
def cP (c : Cf) : Nat → Bool := c.2.2.2.2.1
def cW (c : Cf) : Nat → Nat → Bool := c.2.2.2.2.2.1
def cO (c : Cf) : Nat → Nat → Bool := c.2.2.2.2.2.2.1
def cA (c : Cf) : Nat → Nat := c.2.2.2.2.2.2.2.1
def cF (c : Cf) : Nat := c.2.2.2.2.2.2.2.2
/-- is there a k below n with p -/
def exB (p : Nat → Bool) : Nat → Bool
  | 0 => false
  | n + 1 => exB p n || p n
theorem exB_iff {p : Nat → Bool} : ∀ {n : Nat}, exB p n = true ↔ ∃ k, k < n ∧ p k = true
  | 0 => by simp [exB]
  | n + 1 => by
    simp only [exB, Bool.or_eq_true, exB_iff (n := n)]
    constructor
    · rintro (⟨k, h1, h2⟩ | h)
      · exact ⟨k, by omega, h2⟩
      · exact ⟨n, by omega, h⟩
    · rintro ⟨k, h1, h2⟩
      by_cases hk : k = n
      · subst hk; exact Or.inr h2
      · exact Or.inl ⟨k, by omega, h2⟩
theorem exB_cong {p q : Nat → Bool} : ∀ {n : Nat}, (∀ k, k < n → p k = q k) → exB p n = exB q n
  | 0, _ => rfl
  | n + 1, h => by rw [exB, exB, exB_cong (fun k hk => h k (by omega)), h n (by omega)]
theorem exB_false {p : Nat → Bool} {n : Nat} : exB p n = false ↔ ∀ k, k < n → p k = false := by
  rw [← Bool.not_eq_true, exB_iff]
  constructor
  · intro h k hk
    cases hp : p k with
    | false => rfl
    | true => exact absurd ⟨k, hk, hp⟩ h
  · rintro h ⟨k, hk, hp⟩
    rw [h k hk] at hp
    cases hp
/-- j is written behind k, on the same cell -/
def lat (c : Cf) (k j : Nat) : Bool := cP c j && (cC c j == cC c k) && (decide (cD c k < cD c j) || (cD c j == cD c k && decide (k < j)))
/-- has k gone in by day d (its own day or later) -/
def gone (c : Cf) (k d : Nat) : Bool := exB (fun e => decide (cD c k < e) && cW c e (cC c k / 6)) (d + 1) || exB (fun j => lat c k j && decide (cD c j ≤ d)) (cN c)
/-- 0 not there yet, 1 written, 2 in -/
def now (c : Cf) (k d : Nat) : Nat := if cP c k = false ∨ d < cD c k then 0 else if gone c k d = true then 2 else 1
def top (c : Cf) (d : Nat) (s : Nat → Nat) (k : Nat) : Bool := !exB (fun i => !(i == k) && (cC c i == cC c k) && (now c i d == 1 || (now c i d == 2 && (decide (s k < s i) || (s i == s k && decide (k < i)))))) (cN c)
/-- does k come up on day d, with strengths s -/
def upS (c : Cf) (d : Nat) (s : Nat → Nat) (k : Nat) : Bool := (now c k d == 2) && decide (10 ≤ s k + cA c d) && !(cO c (cC c k / 6) d) && top c d s k
def adj (c : Cf) (d : Nat) (s : Nat → Nat) (k : Nat) : Nat := if upS c d s k = true then (if s k < 9 then s k + 1 else s k) else if cA c d < cF c then s k - 1 else s k
/-- the strength of k as day d looks at it -/
def stg (c : Cf) : Nat → Nat → Nat
  | 0 => cK c
  | d + 1 => fun k => if now c k d = 2 then adj c d (stg c d) k else cK c k
def up (c : Cf) (d k : Nat) : Bool := upS c d (stg c d) k
theorem now_le {c : Cf} {k d : Nat} : now c k d ≤ 2 := by
  unfold now
  split
  · omega
  · split <;> omega
theorem gone_mono {c : Cf} {k d : Nat} (h : gone c k d = true) : gone c k (d + 1) = true := by
  simp only [gone, Bool.or_eq_true, exB_iff, Bool.and_eq_true, decide_eq_true_eq] at h ⊢
  rcases h with ⟨e, h1, h2⟩ | ⟨j, h1, h2, h3⟩
  · exact Or.inl ⟨e, by omega, h2⟩
  · exact Or.inr ⟨j, h1, h2, by omega⟩
theorem now2_mono {c : Cf} {k d : Nat} (h : now c k d = 2) : now c k (d + 1) = 2 := by
  unfold now at h ⊢
  by_cases h1 : cP c k = false ∨ d < cD c k
  · rw [if_pos h1] at h; omega
  · rw [if_neg h1] at h
    by_cases h2 : gone c k d = true
    · have h3 : ¬ (cP c k = false ∨ d + 1 < cD c k) := by
        intro q; apply h1; rcases q with q | q
        · exact Or.inl q
        · exact Or.inr (by omega)
      rw [if_neg h3, if_pos (gone_mono h2)]
    · rw [if_neg h2] at h; omega
theorem stg_in {c : Cf} {k d : Nat} (h : ¬ now c k d = 2) : stg c (d + 1) k = cK c k := by
  show (if now c k d = 2 then _ else _) = _
  rw [if_neg h]
theorem stg_start {c : Cf} {k : Nat} : ∀ {d : Nat}, (d = 0 ∨ ¬ now c k (d - 1) = 2) → stg c d k = cK c k
  | 0, _ => rfl
  | d + 1, h => stg_in (h.elim (fun q => absurd q (by omega)) id)
theorem stg_le {c : Cf} {k : Nat} (hk : cK c k ≤ 9) : ∀ d, stg c d k ≤ 9
  | 0 => hk
  | d + 1 => by
    have ih := stg_le hk d
    show (if now c k d = 2 then _ else _) ≤ 9
    split
    · unfold adj
      split
      · split <;> omega
      · split <;> omega
    · exact hk
/-- only what stands on the same cell matters: two boards that agree on a set X of strokes that shares no cell with the others -/
theorem loc_now {c e : Cf} {X : Nat → Bool} (hn : cN c = cN e) (hW : cW c = cW e) (hD : ∀ k, X k = true → cD c k = cD e k) (hC : ∀ k, X k = true → cC c k = cC e k) (hP : ∀ k, X k = true → cP c k = cP e k) (hX : ∀ k j, X k = true → j < cN c → X j = false → (cP c j = true → ¬ cC c j = cC c k) ∧ (cP e j = true → ¬ cC e j = cC e k)) (k : Nat) (hk : X k = true) (d : Nat) : now c k d = now e k d := by
  have hg : gone c k d = gone e k d := by
    unfold gone
    rw [hD k hk, hC k hk, hW, hn]
    congr 1
    refine exB_cong (fun j hj => ?_)
    rw [← hn] at hj
    cases hj2 : X j with
    | true => unfold lat; rw [hP j hj2, hC j hj2, hC k hk, hD k hk, hD j hj2]
    | false =>
      have h1 : lat c k j = false := by
        unfold lat
        cases hp : cP c j with
        | false => rfl
        | true => simp [(hX k j hk hj hj2).1 hp]
      have h2 : lat e k j = false := by
        unfold lat
        cases hp : cP e j with
        | false => rfl
        | true => simp [(hX k j hk hj hj2).2 hp]
      rw [h1, h2]
      rfl
  unfold now
  rw [hg, hP k hk, hD k hk]
theorem now_nP {c : Cf} {k d : Nat} (h : cP c k = false) : now c k d = 0 := by
  unfold now
  rw [if_pos (Or.inl h)]
theorem loc_up {c e : Cf} {X : Nat → Bool} (hn : cN c = cN e) (hW : cW c = cW e) (hO : cO c = cO e) (hA : cA c = cA e) (hF : cF c = cF e) (hD : ∀ k, X k = true → cD c k = cD e k) (hC : ∀ k, X k = true → cC c k = cC e k) (hK : ∀ k, X k = true → cK c k = cK e k) (hP : ∀ k, X k = true → cP c k = cP e k) (hX : ∀ k j, X k = true → j < cN c → X j = false → (cP c j = true → ¬ cC c j = cC c k) ∧ (cP e j = true → ¬ cC e j = cC e k)) (hXn : ∀ k, X k = true → k < cN c) : ∀ (d : Nat) (k : Nat), X k = true → stg c d k = stg e d k ∧ up c d k = up e d k := by
  have hnow := loc_now (c := c) (e := e) hn hW hD hC hP hX
  have hup : ∀ d, (∀ k, X k = true → stg c d k = stg e d k) → ∀ k, X k = true → upS c d (stg c d) k = upS e d (stg e d) k := by
    intro d hs k hk
    have ht : top c d (stg c d) k = top e d (stg e d) k := by
      unfold top
      rw [hn]
      congr 1
      refine exB_cong (fun i hi => ?_)
      rw [← hn] at hi
      cases hi2 : X i with
      | true => rw [hnow i hi2, hC i hi2, hC k hk, hs i hi2, hs k hk]
      | false =>
        have h1 : ((cC c i == cC c k) && (now c i d == 1 || now c i d == 2 && (decide (stg c d k < stg c d i) || stg c d i == stg c d k && decide (k < i)))) = false := by
          cases hp : cP c i with
          | false => simp [now_nP hp]
          | true => simp [(hX k i hk hi hi2).1 hp]
        have h2 : ((cC e i == cC e k) && (now e i d == 1 || now e i d == 2 && (decide (stg e d k < stg e d i) || stg e d i == stg e d k && decide (k < i)))) = false := by
          cases hp : cP e i with
          | false => simp [now_nP hp]
          | true => simp [(hX k i hk hi hi2).2 hp]
        rw [Bool.and_assoc, Bool.and_assoc, h1, h2]
    unfold upS
    rw [hnow k hk, hs k hk, hA, hO, hC k hk, ht]
  have hst : ∀ d k, X k = true → stg c d k = stg e d k := by
    intro d
    induction d with
    | zero => exact fun k hk => hK k hk
    | succ d ih =>
      intro k hk
      show (if now c k d = 2 then adj c d (stg c d) k else cK c k) = (if now e k d = 2 then adj e d (stg e d) k else cK e k)
      rw [hnow k hk, hK k hk]
      congr 1
      unfold adj
      rw [hup d ih k hk, ih k hk, hA, hF]
  exact fun d k hk => ⟨hst d k hk, hup d (hst d) k hk⟩
