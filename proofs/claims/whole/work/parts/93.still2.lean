/-! dry days by chance: stillFrom -/
theorem litL_0 : (0 : Int64) = lN 0 := rfl
theorem litL_1 : (1 : Int64) = lN 1 := rfl
theorem litL_16 : (16 : Int64) = lN 16 := rfl
theorem fair_if {a b : Nat} (ha : a < 2147483648) (hb : b < 2147483648) {S : Sg} : (if nI b ≤ nI a then some ((0 : Int32), S) else some ((1 : Int32), S)) = some ((if decide (a < b) = true then nI 1 else nI 0), S) := by
  by_cases q : a < b
  · rw [if_neg (by rw [ns_le hb ha]; omega), decide_eq_true q]; rfl
  · rw [if_pos (by rw [ns_le hb ha]; omega), decide_eq_false q]; rfl
/-- the day itself -/
theorem stl_end {rec : Nat → Nat → Int32 → Int32 → Sg → Option (Int64 × Sg)} {S : Sg} {c : Cf} {x L d : Nat} {s : Nat → Nat} (hB : Bd 24 S c) (hS : Stl 24 S c) (hP : ∀ k, cP c k = true → k < cN c) (hc : chI S c x L d) (hi : invS c d s) : fX8_stillFromB rec 24 5 (nI d) (pkS c s) S = some (lN (vvS c x (cA c) (L + 1 - d) 0 d s), S) := by
  obtain ⟨hx, hL, hd, c0, c1, c2, c3, hF, h5⟩ := hc
  obtain ⟨w1, w2⟩ := h5 d hd
  have er := risenA_ok hB hS hP (a := cA c d) hi hd w2
  have h8 := hB.1
  obtain ⟨v1, v2⟩ := wide16 x hx
  have et : (if ps (fun k => upS (uA c (fun _ => cA c d)) d s k) = 0 then some ((1 : Int64), S) else some ((0 : Int64), S)) = some (lN (bN (noUp c d (cA c d) s)), S) := by
    cases q : noUp c d (cA c d) s with
    | true =>
      have z : ps (fun k => upS (uA c (fun _ => cA c d)) d s k) = 0 := (noUp_ps h8 hP).mpr q
      rw [if_pos z]; rfl
    | false =>
      rw [if_neg (fun z => by rw [(noUp_ps h8 hP).mp z] at q; cases q)]
      rfl
  unfold fX8_stillFromB
  rw [gd_ix hd (by omega), ns_cl (by omega), w1, er, bd_some, c2, if_neg (by rw [ns_lt (by omega) (by omega)]; omega), et, bd_some, c1]
  by_cases q : L < d
  · rw [if_pos (by rw [ns_lt (by omega) (by omega)]; exact q), show L + 1 - d = 0 by omega, vv_0, stil_0]
  · rw [if_neg (by rw [ns_lt (by omega) (by omega)]; exact q), show L + 1 - d = 0 + 1 by omega, vv_s0, noUp_0 hi, c0, lit_16, v1, v2, lN_mul, lN_add, Nat.pow_zero, Nat.mul_one, show bN true = 1 from rfl, Nat.mul_one]
/-- a day ahead of it -/
theorem stl_go {rec : Nat → Nat → Int32 → Int32 → Sg → Option (Int64 × Sg)} {S : Sg} {c : Cf} {x L day d : Nat} {s : Nat → Nat} (hB : Bd 24 S c) (hS : Stl 24 S c) (hP : ∀ k, cP c k = true → k < cN c) (hc : chI S c x L day) (hi : invS c d s) (hdd : d < day) (hr : ∀ t, invS c (d + 1) t → rec 24 5 (nI (d + 1)) (pkS c t) S = some (lN (vvS c x (cA c) (L + 1 - (d + 1)) (day - (d + 1)) (d + 1) t), S)) : fX8_stillFromB rec 24 5 (nI d) (pkS c s) S = some (lN (vvS c x (cA c) (L + 1 - d) (day - d) d s), S) := by
  obtain ⟨hx, hL, hday, c0, c1, c2, c3, hF, h5⟩ := hc
  have hd : d < 20 := by omega
  obtain ⟨w1, w2⟩ := h5 d hd
  have hK : ∀ k, k < cN c → cK c k ≤ 9 := fun k hk => (hB.2.2 k hk).2.2.2.2.2.2
  have er := risenA_ok hB hS hP (a := cA c d) hi hd w2
  have h8 := hB.1
  obtain ⟨v1, v2⟩ := wide16 x hx
  have ew := wetA_ok (a := cA c d) hS hP hi hd
  have ed := dryA_ok hS hP hi hd
  have iw := inv_nx (a := cA c d) hK hi
  have id := inv_nx (a := 0) hK hi
  have rw' := hr _ iw
  have rd' := hr _ id
  have e1 : nI d + 1 = nI (d + 1) := nI_add d 1
  have ef : (if nI (cF c) ≤ (0 : Int32) then some ((0 : Int32), S) else some ((1 : Int32), S)) = some ((if decide (0 < cF c) = true then nI 1 else nI 0), S) := fair_if (a := 0) (b := cF c) (by omega) (by omega)
  have ed' : fX0_weathered 24 (nI d) (0 : Int32) (pkS c s) (if decide (0 < cF c) = true then nI 1 else nI 0) S = some (pkS c (nxS c d 0 s), S) := ed
  unfold fX8_stillFromB
  rw [gd_ix hd (by omega), ns_cl (by omega), w1, er, bd_some, c2, if_pos (by rw [ns_lt (by omega) (by omega)]; exact hdd), gd_ix hd (by omega), c3, w1, fair_if (by omega) (by omega), bd_some, ew, bd_some, c1, c3]
  by_cases q : L < d
  · rw [if_neg (by rw [ns_le (by omega) (by omega)]; omega), e1, rw', bd_some, show L + 1 - d = 0 by omega, show L + 1 - (d + 1) = 0 by omega, vv_0, vv_0, show day - d = (day - (d + 1)) + 1 by omega, stil_s]
  · rw [if_pos (by rw [ns_le (by omega) (by omega)]; omega), ef, bd_some, ed', bd_some, show L + 1 - d = (L + 1 - (d + 1)) + 1 by omega, show day - d = (day - (d + 1)) + 1 by omega, vv_ss]
    by_cases q2 : pkS c (nxS c d 0 s) = pkS c (nxS c d (cA c d) s)
    · rw [if_pos q2, e1, rw', bd_some, litL_16, lN_mul]
      have hcg := vv_congS (c := c) (x := x) (a := cA c) (L + 1 - (d + 1)) (day - (d + 1)) (d + 1) _ _ (pkS_inj h8 (fun k hk => (id k hk).1) (fun k hk => (iw k hk).1) q2)
      rw [hcg, ← Nat.add_mul, show x + (16 - x) = 16 by omega]
    · rw [if_neg q2, e1, rd', c0]
      have a1 : (if nI x = (0 : Int32) then some ((0 : Int64), S) else bd (some (lN (vvS c x (cA c) (L + 1 - (d + 1)) (day - (d + 1)) (d + 1) (nxS c d 0 s)), S)) (fun r16 S17 => some (Int32.toInt64 (nI x) * r16, S17))) = some (lN (x * vvS c x (cA c) (L + 1 - (d + 1)) (day - (d + 1)) (d + 1) (nxS c d 0 s)), S) := by
        by_cases z : x = 0
        · rw [z, if_pos (show nI 0 = (0 : Int32) from rfl), Nat.zero_mul]; rfl
        · rw [if_neg (by rw [lit_0, ns_eq (by omega) (by omega)]; exact z), bd_some, v1, lN_mul]
      rw [a1, bd_some, rw']
      have a2 : (if nI x = (16 : Int32) then some ((0 : Int64), S) else bd (some (lN (vvS c x (cA c) (L + 1 - (d + 1)) (day - (d + 1)) (d + 1) (nxS c d (cA c d) s)), S)) (fun r21 S22 => some (Int32.toInt64 ((16 : Int32) - nI x) * r21, S22))) = some (lN ((16 - x) * vvS c x (cA c) (L + 1 - (d + 1)) (day - (d + 1)) (d + 1) (nxS c d (cA c d) s)), S) := by
        by_cases z : x = 16
        · rw [z, if_pos (show nI 16 = (16 : Int32) from rfl), Nat.sub_self, Nat.zero_mul]; rfl
        · rw [if_neg (by rw [lit_16, ns_eq (by omega) (by omega)]; exact z), bd_some, lit_16, v2, lN_mul]
      rw [a2, bd_some, lN_add]
theorem still_ok {S : Sg} {c : Cf} {x L day : Nat} (hB : Bd 24 S c) (hS : Stl 24 S c) (hP : ∀ k, cP c k = true → k < cN c) (hc : chI S c x L day) : ∀ f d s, d ≤ day → day - d < f → invS c d s → fX8_stillFrom f 24 5 (nI d) (pkS c s) S = some (lN (vvS c x (cA c) (L + 1 - d) (day - d) d s), S) := by
  have hK : ∀ k, k < cN c → cK c k ≤ 9 := fun k hk => (hB.2.2 k hk).2.2.2.2.2.2
  intro f
  induction f with
  | zero => intro d s h1 h2; omega
  | succ f ih =>
    intro d s h1 h2 hi
    show fX8_stillFromB (fX8_stillFrom f) 24 5 (nI d) (pkS c s) S = _
    by_cases q : d = day
    · subst q
      rw [Nat.sub_self]
      exact stl_end hB hS hP hc hi
    · exact stl_go hB hS hP hc hi (by omega) (fun t ht => ih (d + 1) t (by omega) (by omega) ht)
