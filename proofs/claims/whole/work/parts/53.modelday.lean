/-! the reference: who comes up, as a set -/
theorem sI_over {S : Sg} {a k : Nat} {v w : Int32} : sI (sI S a k v) a k w = sI S a k w := by
  apply Prod.ext
  · funext b j
    show (sI (sI S a k v) a k w).1 b j = (sI S a k w).1 b j
    rw [sI1, sI1, sI1]
    by_cases h : b = a ∧ j = k
    · rw [if_pos h, if_pos h]
    · rw [if_neg h, if_neg h, if_neg h]
  · rfl
def upF (c : Cf) (d : Nat) (f g : Nat → Nat) (k : Nat) : Bool := (f k == 2) && decide (10 ≤ g k + cA c d) && !(cO c (cC c k / 6) d) && !exB (topB c f g k) (cN c)
theorem pb_skip {p : Nat → Bool} {i : Nat} (q : p i = false) : pb (fun k => decide (k < i) && p k) ||| nI 0 = pb (fun k => decide (k < i + 1) && p k) := by
  have z : pb (fun k => decide (k < i) && p k) ||| nI 0 = pb (fun k => decide (k < i) && p k) := by
    unfold pb
    rw [fa_or, Nat.or_zero]
  rw [z]
  refine pb_cong (fun k hk => ?_)
  by_cases hki : k = i
  · subst hki; rw [q]; simp
  · simp [show (k < i + 1) ↔ k < i by omega]
theorem pb_add {p : Nat → Bool} {i : Nat} (hi : i < 8) (q : p i = true) : pb (fun k => decide (k < i) && p k) ||| (nI 1 <<< (nI i &&& nI 31)) = pb (fun k => decide (k < i + 1) && p k) := by
  rw [← lit_1, ← lit_31, pb_or hi]
  refine pb_cong (fun k hk => ?_)
  by_cases hki : k = i
  · subst hki; rw [q]; simp
  · simp [show (k < i + 1) ↔ k < i by omega, hki]
theorem Nw.fl {S S' : Sg} {n : Nat} {f g : Nat → Nat} (h : Nw S n f g) (e : ∀ a j, a = 13 ∨ a = 14 → S'.1 a j = S.1 a j) : Nw S' n f g := by
  intro k hk
  rw [e 13 k (Or.inl rfl), e 14 k (Or.inr rfl)]
  exact h k hk
theorem ups_ok {S : Sg} {c : Cf} {nw no : Nat} {wd wl od ol : Nat → Nat} {mo : Nat → Bool} (h : Md S c nw wd wl no od ol mo) {d : Nat} (hd : d < 20) {f g : Nat → Nat} (hN : Nw S (cN c) f g) (hg : ∀ i, i < cN c → g i ≤ 9) : lp (bX9_goesBy_172 (nI d)) fl (nI 0) (sI S 0 21 (nI 0)) = some (nI (cN c), sI S 0 21 (pb (fun k => decide (k < cN c) && upF c d f g k))) := by
  have h8 := h.1
  have := lp_fl (B := bX9_goesBy_172 (nI d)) (fun i => nI i) (fun i => sI S 0 21 (pb (fun k => decide (k < i) && upF c d f g k))) (cN c) (out := some (nI (cN c), sI S 0 21 (pb (fun k => decide (k < cN c) && upF c d f g k)))) (by omega) (by
    intro i hi rec
    have h' : Md (sI S 0 21 (pb (fun k => decide (k < i) && upF c d f g k))) c nw wd wl no od ol mo := h.mf (mf.rf.I (by omega))
    have hN' : Nw (sI S 0 21 (pb (fun k => decide (k < i) && upF c d f g k))) (cN c) f g := hN.fl (fun a j q => by rw [sI1, if_neg (by omega)])
    have hT := isTop_ok h' hN' hg hi
    have hV : (sI S 0 21 (pb (fun k => decide (k < i) && upF c d f g k))).1 0 21 = pb (fun k => decide (k < i) && upF c d f g k) := by rw [sI1, if_pos ⟨rfl, rfl⟩]
    have hno : upF c d f g i = false → sI (sI S 0 21 (pb (fun k => decide (k < i) && upF c d f g k))) 0 21 (pb (fun k => decide (k < i) && upF c d f g k) ||| nI 0) = sI S 0 21 (pb (fun k => decide (k < i + 1) && upF c d f g k)) := fun q => by rw [sI_over, pb_skip q]
    have hyes : upF c d f g i = true → sI (sI S 0 21 (pb (fun k => decide (k < i) && upF c d f g k))) 0 21 (pb (fun k => decide (k < i) && upF c d f g k) ||| (nI 1 <<< (nI i &&& nI 31))) = sI S 0 21 (pb (fun k => decide (k < i + 1) && upF c d f g k)) := fun q => by rw [sI_over, pb_add (by omega) q]
    generalize hX : sI S 0 21 (pb (fun k => decide (k < i) && upF c d f g k)) = X at h' hN' hT hV hno hyes ⊢
    generalize hY : sI S 0 21 (pb (fun k => decide (k < i + 1) && upF c d f g k)) = Y at hno hyes ⊢
    generalize hW : pb (fun k => decide (k < i) && upF c d f g k) = W at hV hno hyes
    have h04 := h'.2.1
    obtain ⟨-, -, i5, i6, -⟩ := h'.2.2.1 i hi
    obtain ⟨n1, n2, n3⟩ := hN' i hi
    obtain ⟨a1, a2⟩ := h'.2.2.2.2.2.2.2.2.2.1 d hd
    have hgi := hg i hi
    have hni : ¬ cN c ≤ i := by omega
    by_cases c1 : f i = 2
    · have n14 := n3 c1
      by_cases c2 : g i + cA c d < 10
      · have e : upF c d f g i = false := by simp [upF, show ¬ 10 ≤ g i + cA c d by omega]
        rw [← hno e]
        simp (disch := omega) only [bX9_goesBy_172, h04, bd_some, gd_ix, lit_0, lit_1, lit_2, lit_3, lit_4, lit_5, lit_6, lit_7, lit_8, lit_9, lit_10, lit_15, lit_16, lit_19, lit_20, lit_31, lit_35, lit_36, lit_48, lit_49, lit_53, lit_55, lit_57, lit_59, lit_60, lit_63, lit_64, lit_97, lit_102, lit_110, lit_160, lit_255, nI_add, ns_sub, ns_div, ns_le, ns_lt, ns_eq, ns_cl, pk_mul, ne10, eq_self, ↓reduceIte, hni, n1, c1, n14, a1, c2, hV]
      · have hO := isOiled_ok h' hd (show cC c i / 6 < 6 by omega)
        have hT := hT c1
        cases c3 : cO c (cC c i / 6) d with
        | true =>
          have e : upF c d f g i = false := by simp [upF, c3]
          rw [c3] at hO
          rw [← hno e]
          simp (disch := omega) only [bX9_goesBy_172, h04, bd_some, gd_ix, lit_0, lit_1, lit_2, lit_3, lit_4, lit_5, lit_6, lit_7, lit_8, lit_9, lit_10, lit_15, lit_16, lit_19, lit_20, lit_31, lit_35, lit_36, lit_48, lit_49, lit_53, lit_55, lit_57, lit_59, lit_60, lit_63, lit_64, lit_97, lit_102, lit_110, lit_160, lit_255, nI_add, ns_sub, ns_div, ns_le, ns_lt, ns_eq, ns_cl, pk_mul, ne10, eq_self, ↓reduceIte, hni, n1, c1, n14, a1, c2, i5, hO, bI_t, hV]
        | false =>
          rw [c3] at hO
          cases c4 : exB (topB c f g i) (cN c) with
          | true =>
            have e : upF c d f g i = false := by simp [upF, c4]
            rw [c4] at hT
            rw [← hno e]
            simp (disch := omega) only [bX9_goesBy_172, h04, bd_some, gd_ix, lit_0, lit_1, lit_2, lit_3, lit_4, lit_5, lit_6, lit_7, lit_8, lit_9, lit_10, lit_15, lit_16, lit_19, lit_20, lit_31, lit_35, lit_36, lit_48, lit_49, lit_53, lit_55, lit_57, lit_59, lit_60, lit_63, lit_64, lit_97, lit_102, lit_110, lit_160, lit_255, nI_add, ns_sub, ns_div, ns_le, ns_lt, ns_eq, ns_cl, pk_mul, ne10, eq_self, ↓reduceIte, hni, n1, c1, n14, a1, c2, i5, hO, hT, Bool.not_true, bI_f, hV]
          | false =>
            have e : upF c d f g i = true := by simp [upF, c1, c2, c3, c4]; omega
            rw [c4] at hT
            rw [← hyes e]
            simp (disch := omega) only [bX9_goesBy_172, h04, bd_some, gd_ix, lit_0, lit_1, lit_2, lit_3, lit_4, lit_5, lit_6, lit_7, lit_8, lit_9, lit_10, lit_15, lit_16, lit_19, lit_20, lit_31, lit_35, lit_36, lit_48, lit_49, lit_53, lit_55, lit_57, lit_59, lit_60, lit_63, lit_64, lit_97, lit_102, lit_110, lit_160, lit_255, nI_add, ns_sub, ns_div, ns_le, ns_lt, ns_eq, ns_cl, pk_mul, ne10, eq_self, ↓reduceIte, hni, n1, c1, n14, a1, c2, i5, hO, hT, Bool.not_false, bI_f, bI_t, hV]
    · have e : upF c d f g i = false := by simp [upF, c1]
      rw [← hno e]
      simp (disch := omega) only [bX9_goesBy_172, h04, bd_some, gd_ix, lit_0, lit_1, lit_2, lit_3, lit_4, lit_5, lit_6, lit_7, lit_8, lit_9, lit_10, lit_15, lit_16, lit_19, lit_20, lit_31, lit_35, lit_36, lit_48, lit_49, lit_53, lit_55, lit_57, lit_59, lit_60, lit_63, lit_64, lit_97, lit_102, lit_110, lit_160, lit_255, nI_add, ns_sub, ns_div, ns_le, ns_lt, ns_eq, ns_cl, pk_mul, ne10, eq_self, ↓reduceIte, hni, n1, c1, hV]) (by
    intro rec
    have h' : Md (sI S 0 21 (pb (fun k => decide (k < cN c) && upF c d f g k))) c nw wd wl no od ol mo := h.mf (mf.rf.I (by omega))
    generalize sI S 0 21 (pb (fun k => decide (k < cN c) && upF c d f g k)) = X at h' ⊢
    simp (disch := omega) only [bX9_goesBy_172, h'.2.1, bd_some, gd_ix, lit_0, lit_1, lit_2, lit_3, lit_4, lit_5, lit_6, lit_7, lit_8, lit_9, lit_10, lit_15, lit_16, lit_19, lit_20, lit_31, lit_35, lit_36, lit_48, lit_49, lit_53, lit_55, lit_57, lit_59, lit_60, lit_63, lit_64, lit_97, lit_102, lit_110, lit_160, lit_255, nI_add, ns_sub, ns_div, ns_le, ns_lt, ns_eq, ns_cl, pk_mul, ne10, eq_self, ↓reduceIte, Nat.le_refl])
  have z : pb (fun k => decide (k < 0) && upF c d f g k) = nI 0 := by
    rw [← lit_0, ← pb_0]
    exact pb_cong (fun k hk => by simp)
  rw [z] at this
  exact this
theorem upF_up {c : Cf} {d k : Nat} {f : Nat → Nat} (hf : ∀ i, i < cN c → f i = now c i d) (hP : ∀ k, cP c k = true → k < cN c) : (decide (k < cN c) && upF c d f (stg c d) k) = up c d k := by
  by_cases hk : k < cN c
  · simp only [hk, decide_true, Bool.true_and]
    unfold upF up upS top
    rw [hf k hk]
    congr 2
    refine exB_cong (fun i hi => ?_)
    unfold topB
    rw [hf i hi]
  · have hp : cP c k = false := by
      cases q : cP c k with
      | false => rfl
      | true => exact absurd (hP k q) hk
    simp [hk, up, upS, now_nP hp]
