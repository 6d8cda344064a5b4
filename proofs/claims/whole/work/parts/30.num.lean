/-! numbers: small ints as naturals -/
theorem lit_0 : (0 : Int32) = nI 0 := rfl
theorem lit_1 : (1 : Int32) = nI 1 := rfl
theorem lit_2 : (2 : Int32) = nI 2 := rfl
theorem lit_3 : (3 : Int32) = nI 3 := rfl
theorem lit_4 : (4 : Int32) = nI 4 := rfl
theorem lit_5 : (5 : Int32) = nI 5 := rfl
theorem lit_6 : (6 : Int32) = nI 6 := rfl
theorem lit_7 : (7 : Int32) = nI 7 := rfl
theorem lit_8 : (8 : Int32) = nI 8 := rfl
theorem lit_9 : (9 : Int32) = nI 9 := rfl
theorem lit_10 : (10 : Int32) = nI 10 := rfl
theorem lit_15 : (15 : Int32) = nI 15 := rfl
theorem lit_16 : (16 : Int32) = nI 16 := rfl
theorem lit_19 : (19 : Int32) = nI 19 := rfl
theorem lit_20 : (20 : Int32) = nI 20 := rfl
theorem lit_31 : (31 : Int32) = nI 31 := rfl
theorem lit_35 : (35 : Int32) = nI 35 := rfl
theorem lit_36 : (36 : Int32) = nI 36 := rfl
theorem lit_48 : (48 : Int32) = nI 48 := rfl
theorem lit_49 : (49 : Int32) = nI 49 := rfl
theorem lit_53 : (53 : Int32) = nI 53 := rfl
theorem lit_55 : (55 : Int32) = nI 55 := rfl
theorem lit_57 : (57 : Int32) = nI 57 := rfl
theorem lit_59 : (59 : Int32) = nI 59 := rfl
theorem lit_60 : (60 : Int32) = nI 60 := rfl
theorem lit_63 : (63 : Int32) = nI 63 := rfl
theorem lit_64 : (64 : Int32) = nI 64 := rfl
theorem lit_97 : (97 : Int32) = nI 97 := rfl
theorem lit_102 : (102 : Int32) = nI 102 := rfl
theorem lit_110 : (110 : Int32) = nI 110 := rfl
theorem lit_160 : (160 : Int32) = nI 160 := rfl
theorem lit_255 : (255 : Int32) = nI 255 := rfl
theorem b31 {a : Nat} (h : a < 2147483648) : a < 2 ^ 31 := h
theorem ns_sub {a b : Nat} (h : b ≤ a) : nI a - nI b = nI (a - b) := pk_sub h
theorem ns_div {a d : Nat} (ha : a < 2147483648) (h0 : 0 < d) (hd : d < 2147483648) : nI a / nI d = nI (a / d) := pk_div ha h0 hd
theorem ns_rem {a d : Nat} (ha : a < 2147483648) (h0 : 0 < d) (hd : d < 2147483648) : nI a - nI a / nI d * nI d = nI (a % d) := pk_rem ha h0 hd
theorem ns_le {a b : Nat} (ha : a < 2147483648) (hb : b < 2147483648) : (nI a ≤ nI b) = (a ≤ b) := propext (nI_leI ha hb)
theorem ns_lt {a b : Nat} (ha : a < 2147483648) (hb : b < 2147483648) : (nI a < nI b) = (a < b) := propext (nI_ltI ha hb)
theorem ns_eq {a b : Nat} (ha : a < 2147483648) (hb : b < 2147483648) : (nI a = nI b) = (a = b) := propext (nI_eq ha hb)
theorem ns_cl {a : Nat} (h : a < 2147483648) : (nI a).toNatClampNeg = a := nI_clamp h
theorem ix_nI {i n : Nat} (h : i < n) (hn : n < 2147483648) : ix (nI i) n = true := by
  have h1 : (0 : Int32) ≤ nI i := nI_pos' (by omega)
  have h2 : (nI i).toNatClampNeg < n := by rw [ns_cl (by omega)]; exact h
  simp [ix, h1, h2]
theorem gd_ix {τ : Type} {i n : Nat} {x : Option τ} (h : i < n) (hn : n < 2147483648) : gd (ix (nI i) n) x = x := gd_t (ix_nI h hn)
theorem sI1 {S : Sg} {i k : Nat} {v : Int32} {a j : Nat} : (sI S i k v).1 a j = if a = i ∧ j = k then v else S.1 a j := rfl
theorem sI2 {S : Sg} {i k : Nat} {v : Int32} : (sI S i k v).2 = S.2 := rfl
theorem sC1 {S : Sg} {i : Nat} {f : Nat → Int32} {a j : Nat} : (sC S i f).1 a j = if a = i then f j else S.1 a j := rfl
theorem sC2 {S : Sg} {i : Nat} {f : Nat → Int32} : (sC S i f).2 = S.2 := rfl
theorem sL1 {S : Sg} {i k : Nat} {v : Int64} : (sL S i k v).1 = S.1 := rfl
theorem sL2 {S : Sg} {i k : Nat} {v : Int64} {a j : Nat} : (sL S i k v).2 a j = if a = i ∧ j = k then v else S.2 a j := rfl
theorem bd_ite {ρ τ : Type} {c : Prop} [Decidable c] {x y : Option (ρ × Sg)} {k : ρ → Sg → Option τ} : bd (if c then x else y) k = if c then bd x k else bd y k := by
  by_cases h : c
  · rw [if_pos h, if_pos h]
  · rw [if_neg h, if_neg h]
theorem ite_s {ρ : Type} {c : Prop} [Decidable c] {a b : ρ} {S : Sg} : (if c then some (a, S) else some (b, S)) = some ((if c then a else b), S) := by
  by_cases h : c
  · rw [if_pos h, if_pos h]
  · rw [if_neg h, if_neg h]
theorem ite_S {ρ : Type} {c : Prop} [Decidable c] {a : ρ} {S S' : Sg} : (if c then some (a, S) else some (a, S')) = some (a, (if c then S else S')) := by
  by_cases h : c
  · rw [if_pos h, if_pos h]
  · rw [if_neg h, if_neg h]
/-- loops: a run through given states, the end by any step -/
theorem lp_run {α τ : Type} {B : (α → Sg → Option (τ × Sg)) → α → Sg → Option (τ × Sg)} (f : Nat → α) (g : Nat → Sg) (N : Nat) {out : Option (τ × Sg)} (hs : ∀ i, i < N → ∀ rec, B rec (f i) (g i) = rec (f (i + 1)) (g (i + 1))) (he : ∀ rec, B rec (f N) (g N) = out) : ∀ (n i : Nat), i ≤ N → N < i + n → lp B n (f i) (g i) = out := by
  intro n
  induction n with
  | zero => intro i h1 h2; omega
  | succ n ih =>
    intro i h1 h2
    show B (lp B n) (f i) (g i) = out
    by_cases hi : i = N
    · subst hi; exact he _
    · rw [hs i (by omega)]
      exact ih (i + 1) (by omega) (by omega)
theorem lp_fl {α τ : Type} {B : (α → Sg → Option (τ × Sg)) → α → Sg → Option (τ × Sg)} (f : Nat → α) (g : Nat → Sg) (N : Nat) {out : Option (τ × Sg)} (hN : N < 4096) (hs : ∀ i, i < N → ∀ rec, B rec (f i) (g i) = rec (f (i + 1)) (g (i + 1))) (he : ∀ rec, B rec (f N) (g N) = out) : lp B fl (f 0) (g 0) = out := lp_run f g N hs he fl 0 (Nat.zero_le _) (by show N < 0 + 4096; omega)
/-- loops: an invariant that goes on or ends -/
theorem lp_inv {α τ : Type} {B : (α → Sg → Option (τ × Sg)) → α → Sg → Option (τ × Sg)} (I : Nat → α → Sg → Prop) (Q : τ → Sg → Prop) (N : Nat) (hs : ∀ i a S, i ≤ N → I i a S → (i < N ∧ ∃ a' S', (∀ rec, B rec a S = rec a' S') ∧ I (i + 1) a' S') ∨ (∃ t S', (∀ rec, B rec a S = some (t, S')) ∧ Q t S')) : ∀ (n i : Nat) (a : α) (S : Sg), i ≤ N → N < i + n → I i a S → ∃ t S', lp B n a S = some (t, S') ∧ Q t S' := by
  intro n
  induction n with
  | zero => intro i a S h1 h2; omega
  | succ n ih =>
    intro i a S h1 h2 hI
    rcases hs i a S h1 hI with ⟨hi, a', S', e, hI'⟩ | ⟨t, S', e, hQ⟩
    · obtain ⟨t, S2, e2, hQ⟩ := ih (i + 1) a' S' (by omega) (by omega) hI'
      exact ⟨t, S2, by show B (lp B n) a S = _; rw [e]; exact e2, hQ⟩
    · exact ⟨t, S', by show B (lp B n) a S = _; rw [e], hQ⟩
theorem lp_invF {α τ : Type} {B : (α → Sg → Option (τ × Sg)) → α → Sg → Option (τ × Sg)} (I : Nat → α → Sg → Prop) (Q : τ → Sg → Prop) (N : Nat) (hN : N < 4096) (hs : ∀ i a S, i ≤ N → I i a S → (i < N ∧ ∃ a' S', (∀ rec, B rec a S = rec a' S') ∧ I (i + 1) a' S') ∨ (∃ t S', (∀ rec, B rec a S = some (t, S')) ∧ Q t S')) (a : α) (S : Sg) (h : I 0 a S) : ∃ t S', lp B fl a S = some (t, S') ∧ Q t S' := lp_inv I Q N hs fl 0 a S (Nat.zero_le _) (by show N < 0 + 4096; omega) h
/-- the guards of both sides -/
theorem in_ok (x a b : Int32) (S : Sg) : fX9_in x a b S = some ((if x < a ∨ b < x then 0 else 1), S) := by
  unfold fX9_in
  by_cases h1 : x < a
  · simp [h1]
  · by_cases h2 : b < x
    · simp [h1, h2]
    · simp [h1, h2]
theorem ne10 : ((1 : Nat) = 0) = False := by simp
