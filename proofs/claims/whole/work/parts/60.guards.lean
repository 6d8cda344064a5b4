/-! ranges and guards, both sides -/
def rg (x : Int32) (n : Nat) : Prop := ∃ m, m < n ∧ x = nI m
theorem rg_no {x : Int32} {n : Nat} (hn : n < 2147483648) (h : ¬ rg x n) : x < nI 0 ∨ nI n ≤ x := by
  rcases Int.lt_or_le x.toInt 0 with q | q
  · left
    rw [fa_lt, nI_toInt (by omega)]
    exact q
  · rcases Int.lt_or_le x.toInt n with q2 | q2
    · exfalso
      apply h
      refine ⟨x.toInt.toNat, by omega, ?_⟩
      rw [fa_eq, nI_toInt (by omega)]
      omega
    · right
      rw [fa_le, nI_toInt hn]
      exact q2
theorem rg_no2 {x : Int32} {n : Nat} (hn : n < 2147483648) (h : ¬ rg x n) {b : Nat} (hb : n = b + 1) : x < nI 0 ∨ nI b < x := by
  rcases rg_no hn h with q | q
  · exact Or.inl q
  · right
    rw [fa_le, nI_toInt hn] at q
    rw [fa_lt, nI_toInt (by omega)]
    omega
theorem in_y {m b : Nat} (h : m ≤ b) (hb : b < 2147483648) {S : Sg} : fX9_in (nI m) (nI 0) (nI b) S = some (nI 1, S) := by
  unfold fX9_in
  rw [if_neg (by rw [ns_lt (by omega) (by omega)]; omega), if_neg (by rw [ns_lt (by omega) (by omega)]; omega)]
  rfl
theorem in_y2 {m a b : Nat} (h : a ≤ m) (h2 : m ≤ b) (hb : b < 2147483648) {S : Sg} : fX9_in (nI m) (nI a) (nI b) S = some (nI 1, S) := by
  unfold fX9_in
  rw [if_neg (by rw [ns_lt (by omega) (by omega)]; omega), if_neg (by rw [ns_lt (by omega) (by omega)]; omega)]
  rfl
theorem in_n2 {m a b : Nat} (h : m < a ∨ b < m) (hm : m < 2147483648) (ha : a < 2147483648) (hb : b < 2147483648) {S : Sg} : fX9_in (nI m) (nI a) (nI b) S = some (nI 0, S) := by
  unfold fX9_in
  by_cases q : m < a
  · rw [if_pos (by rw [ns_lt (by omega) (by omega)]; omega)]
    rfl
  · rw [if_neg (by rw [ns_lt (by omega) (by omega)]; omega), if_pos (by rw [ns_lt (by omega) (by omega)]; omega)]
    rfl
theorem in_n {x : Int32} {n b : Nat} (h : ¬ rg x n) (hb : n = b + 1) (hn : n < 2147483648) {S : Sg} : fX9_in x (nI 0) (nI b) S = some (nI 0, S) := by
  unfold fX9_in
  rcases rg_no2 hn h hb with q | q
  · rw [if_pos q]; rfl
  · by_cases q2 : x < nI 0
    · rw [if_pos q2]; rfl
    · rw [if_neg q2, if_pos q]; rfl
theorem gd_tt {τ : Type} {x : Option τ} : gd true x = x := rfl
theorem zb_1 : zb (nI 1) = true := by decide
theorem zb_0 : zb (nI 0) = true := by decide
theorem mText_y {m : Nat} (h : m < 2) {S : Sg} : fX9_isText (nI m) S = some (nI 1, S) := by
  unfold fX9_isText
  rw [lit_0, lit_1, in_y (by omega) (by omega), bd_some, gd_t zb_1]
theorem mText_n {x : Int32} (h : ¬ rg x 2) {S : Sg} : fX9_isText x S = some (nI 0, S) := by
  unfold fX9_isText
  rw [lit_0, lit_1, in_n h rfl (by omega), bd_some, gd_t zb_0]
theorem mDay_y {m : Nat} (h : m < 20) {S : Sg} : fX9_isDay (nI m) S = some (nI 1, S) := by
  unfold fX9_isDay
  rw [lit_0, lit_19, in_y (by omega) (by omega), bd_some, gd_t zb_1]
theorem mDay_n {x : Int32} (h : ¬ rg x 20) {S : Sg} : fX9_isDay x S = some (nI 0, S) := by
  unfold fX9_isDay
  rw [lit_0, lit_19, in_n h rfl (by omega), bd_some, gd_t zb_0]
theorem mCell_y {m : Nat} (h : m < 36) {S : Sg} : fX9_isCell (nI m) S = some (nI 1, S) := by
  unfold fX9_isCell
  rw [lit_0, lit_35, in_y (by omega) (by omega), bd_some, gd_t zb_1]
theorem mCell_n {x : Int32} (h : ¬ rg x 36) {S : Sg} : fX9_isCell x S = some (nI 0, S) := by
  unfold fX9_isCell
  rw [lit_0, lit_35, in_n h rfl (by omega), bd_some, gd_t zb_0]
theorem mSheet_y {m : Nat} (h : m < 4) {S : Sg} : fX9_isSheet (nI m) S = some (nI 1, S) := by
  unfold fX9_isSheet
  rw [lit_0, lit_3, in_y (by omega) (by omega), bd_some, gd_t zb_1]
theorem mSheet_n {x : Int32} (h : ¬ rg x 4) {S : Sg} : fX9_isSheet x S = some (nI 0, S) := by
  unfold fX9_isSheet
  rw [lit_0, lit_3, in_n h rfl (by omega), bd_some, gd_t zb_0]
/-- the class: x < 0, then n ≤ x -/
theorem lo_y {m n : Nat} (h : m < n) (hn : n < 2147483648) {S : Sg} : (if nI m < nI 0 then some (nI 0, S) else (if nI n ≤ nI m then some (nI 0, S) else some (nI 1, S))) = some (nI 1, S) := by
  rw [if_neg (by rw [ns_lt (by omega) (by omega)]; omega), if_neg (by rw [ns_le (by omega) (by omega)]; omega)]
theorem lo_n {x : Int32} {n : Nat} (h : ¬ rg x n) (hn : n < 2147483648) {S : Sg} : (if x < nI 0 then some (nI 0, S) else (if nI n ≤ x then some (nI 0, S) else some (nI 1, S))) = some (nI 0, S) := by
  by_cases q : x < nI 0
  · rw [if_pos q]
  · rcases rg_no hn h with q2 | q2
    · exact absurd q2 q
    · rw [if_neg q, if_pos q2]
theorem cDay_y {m : Nat} (h : m < 20) {S : Sg} : fX8_isDay (nI m) S = some (nI 1, S) := lo_y h (by omega)
theorem cDay_n {x : Int32} (h : ¬ rg x 20) {S : Sg} : fX8_isDay x S = some (nI 0, S) := lo_n h (by omega)
theorem cCell_y {m : Nat} (h : m < 36) {S : Sg} : fX8_isCell (nI m) S = some (nI 1, S) := lo_y h (by omega)
theorem cCell_n {x : Int32} (h : ¬ rg x 36) {S : Sg} : fX8_isCell x S = some (nI 0, S) := lo_n h (by omega)
theorem cSheet_y {m : Nat} (h : m < 4) {S : Sg} : fX8_isSheet (nI m) S = some (nI 1, S) := lo_y h (by omega)
theorem cSheet_n {x : Int32} (h : ¬ rg x 4) {S : Sg} : fX8_isSheet x S = some (nI 0, S) := lo_n h (by omega)
theorem cLine_y {m : Nat} (h : m < 6) {S : Sg} : fX8_isLine (nI m) S = some (nI 1, S) := lo_y h (by omega)
theorem cLine_n {x : Int32} (h : ¬ rg x 6) {S : Sg} : fX8_isLine x S = some (nI 0, S) := lo_n h (by omega)
theorem cForm_y {m : Nat} (h : m < 3) {S : Sg} : fX8_isForm (nI m) S = some (nI 1, S) := by
  unfold fX8_isForm
  simp (disch := omega) only [bd_some, gd_ix, lit_0, lit_1, lit_2, lit_3, lit_4, lit_5, lit_6, lit_7, lit_8, lit_9, lit_10, lit_15, lit_16, lit_19, lit_20, lit_31, lit_35, lit_36, lit_48, lit_49, lit_53, lit_55, lit_57, lit_59, lit_60, lit_63, lit_64, lit_97, lit_102, lit_110, lit_160, lit_255, nI_add, ns_sub, ns_div, ns_le, ns_lt, ns_eq, ns_cl, pk_mul, ne10, eq_self, ↓reduceIte, show ¬ m < 0 from by omega, show ¬ 2 < m from by omega]
theorem cForm_n {x : Int32} (h : ¬ rg x 3) {S : Sg} : fX8_isForm x S = some (nI 0, S) := by
  unfold fX8_isForm
  by_cases q : x < 0
  · rw [if_pos q]; rfl
  · rcases rg_no2 (by omega) h (b := 2) rfl with q2 | q2
    · exact absurd q2 q
    · rw [if_neg q, lit_2, if_pos q2]; rfl
theorem two_y {m : Nat} (h : m < 2) {S : Sg} : (if nI m = nI 0 then some (nI 1, S) else (if nI m = nI 1 then some (nI 1, S) else some (nI 0, S))) = some (nI 1, S) := by
  by_cases q : m = 0
  · subst q; rw [if_pos rfl]
  · have : m = 1 := by omega
    subst this
    rw [if_neg (by decide), if_pos rfl]
theorem two_n {x : Int32} (h : ¬ rg x 2) {S : Sg} : (if x = nI 0 then some (nI 1, S) else (if x = nI 1 then some (nI 1, S) else some (nI 0, S))) = some (nI 0, S) := by
  rw [if_neg (fun q => h ⟨0, by omega, q⟩), if_neg (fun q => h ⟨1, by omega, q⟩)]
theorem cText_y {m : Nat} (h : m < 2) {S : Sg} : fX8_isText (nI m) S = some (nI 1, S) := two_y h
theorem cText_n {x : Int32} (h : ¬ rg x 2) {S : Sg} : fX8_isText x S = some (nI 0, S) := two_n h
theorem cEith_y {m : Nat} (h : m < 2) {S : Sg} : fX8_isEither (nI m) S = some (nI 1, S) := two_y h
theorem cEith_n {x : Int32} (h : ¬ rg x 2) {S : Sg} : fX8_isEither x S = some (nI 0, S) := two_n h
theorem ns_rem7 {a : Nat} (ha : a < 2147483648) : nI a - nI a / nI 7 * nI 7 = nI (a % 7) := ns_rem ha (by omega) (by omega)
