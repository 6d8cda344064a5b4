def fX9_in (x0 : Int32) (x1 : Int32) (x2 : Int32) (S : Sg) : Option (Int32 × Sg) :=
  (if x0 < x1 then some ((0 : Int32), S) else (if x2 < x0 then some ((0 : Int32), S) else some ((1 : Int32), S)))
set_option maxHeartbeats 4000000 in
set_option maxRecDepth 100000 in
theorem tX9_in (G : Gd) (l : Launch) (D : Nat) (x0 : Int32) (x1 : Int32) (x2 : Int32) (S : Sg) : Ct LM G l rI yX9_in cX9_in 3 (some .boolean) (D + 0) [.int x0, .int x1, .int x2] S (fX9_in x0 x1 x2 S) := by
  refine Ct.of (by decide) (Nat.le_of_ble_eq_true rfl) (fun Z hZ X => ?_)
  subst hZ
  show Go LM G Z 3 rI 0 [(0, .int x0), (1, .int x1), (2, .int x2)] [] S (fX9_in x0 x1 x2 S) kz
  unfold fX9_in
  refine g_iload_n 1 X 0 dX9_in_0 rfl rfl rfl ?_
  refine g_iload_n 2 X 1 dX9_in_1 rfl rfl rfl ?_
  refine g_icmp_lt 14 5 X dX9_in_2 (by decide) rfl (fun _ => ?_) (fun _ => ?_)
  · refine g_iconst 15 X dX9_in_14 rfl ci_0 ?_
    exact g_zret X dX9_in_15 rfl rfl
  · refine g_iload_n 6 X 0 dX9_in_5 rfl rfl rfl ?_
    refine g_iload_n 7 X 2 dX9_in_6 rfl rfl rfl ?_
    refine g_icmp_gt 14 10 X dX9_in_7 (by decide) rfl (fun _ => ?_) (fun _ => ?_)
    · refine g_iconst 15 X dX9_in_14 rfl ci_0 ?_
      exact g_zret X dX9_in_15 rfl rfl
    · refine g_iconst 11 X dX9_in_10 rfl ci_1 ?_
      refine g_goto 15 X dX9_in_11 (by decide) ?_
      exact g_zret X dX9_in_15 rfl rfl
def fX9_isIn (x0 : Int32) (x1 : Int32) (S : Sg) : Option (Int32 × Sg) :=
  (if ((x0 >>> (x1 &&& 31)) &&& (1 : Int32)) = (1 : Int32) then some ((1 : Int32), S) else some ((0 : Int32), S))
set_option maxHeartbeats 4000000 in
set_option maxRecDepth 100000 in
theorem tX9_isIn (G : Gd) (l : Launch) (D : Nat) (x0 : Int32) (x1 : Int32) (S : Sg) : Ct LM G l rI yX9_isIn cX9_isIn 2 (some .boolean) (D + 0) [.int x0, .int x1] S (fX9_isIn x0 x1 S) := by
  refine Ct.of (by decide) (Nat.le_of_ble_eq_true rfl) (fun Z hZ X => ?_)
  subst hZ
  show Go LM G Z 2 rI 0 [(0, .int x0), (1, .int x1)] [] S (fX9_isIn x0 x1 S) kz
  unfold fX9_isIn
  refine g_iload_n 1 X 0 dX9_isIn_0 rfl rfl rfl ?_
  refine g_iload_n 2 X 1 dX9_isIn_1 rfl rfl rfl ?_
  refine g_ishr 3 X dX9_isIn_2 rfl ?_
  refine g_iconst 4 X dX9_isIn_3 rfl ci_1 ?_
  refine g_iand 5 X dX9_isIn_4 rfl ?_
  refine g_iconst 6 X dX9_isIn_5 rfl ci_1 ?_
  refine g_icmp_ne 13 9 X dX9_isIn_6 (by decide) rfl (fun _ => ?_) (fun _ => ?_)
  · refine g_iconst 14 X dX9_isIn_13 rfl ci_0 ?_
    exact g_zret X dX9_isIn_14 rfl rfl
  · refine g_iconst 10 X dX9_isIn_9 rfl ci_1 ?_
    refine g_goto 14 X dX9_isIn_10 (by decide) ?_
    exact g_zret X dX9_isIn_14 rfl rfl
def bX9_ones_4 (c0 : Int32) (rec : (Int32 × Int32) → Sg → Option ((Int32 × Int32) × Sg)) (a1 : Int32 × Int32) (S2 : Sg) : Option ((Int32 × Int32) × Sg) :=
  (if (8 : Int32) ≤ a1.2 then some ((a1.1, a1.2), S2) else rec ((a1.1 + ((c0 >>> (a1.2 &&& 31)) &&& (1 : Int32))), (a1.2 + (1 : Int32))) S2)
def fX9_ones (x0 : Int32) (S : Sg) : Option (Int32 × Sg) :=
  bd (lp (bX9_ones_4 x0) fl ((0 : Int32), (0 : Int32)) S) (fun (a6 : Int32 × Int32) S7 => some (a6.1, S7))
set_option maxHeartbeats 4000000 in
set_option maxRecDepth 100000 in
theorem tX9_ones (G : Gd) (l : Launch) (D : Nat) (x0 : Int32) (S : Sg) : Ct LM G l rI yX9_ones cX9_ones 3 (some .int) (D + 0) [.int x0] S (fX9_ones x0 S) := by
  refine Ct.of (by decide) (Nat.le_of_ble_eq_true rfl) (fun Z hZ X => ?_)
  subst hZ
  show Go LM G Z 3 rI 0 [(0, .int x0)] [] S (fX9_ones x0 S) kz
  unfold fX9_ones
  refine g_iconst 1 X dX9_ones_0 rfl ci_0 ?_
  refine g_istore_n 2 X [(1, _), (0, _)] dX9_ones_1 rfl rfl (Nat.le_of_ble_eq_true rfl) rfl ?_
  refine g_iconst 3 X dX9_ones_2 rfl ci_0 ?_
  refine g_istore_n 4 X [(2, _), (1, _), (0, _)] dX9_ones_3 rfl rfl (Nat.le_of_ble_eq_true rfl) rfl ?_
  refine g_joinK 24 (fun (a6 : Int32 × Int32) => [(1, .int a6.1)]) (fun (a6 : Int32 × Int32) => []) (fun a6 S7 => ?_) (fun J3 => ?_)
  · refine g_iload_n 25 X 0 dX9_ones_24 rfl rfl rfl ?_
    exact g_iret X dX9_ones_25 rfl
  · refine g_sub [2, 1, 0] rfl (g_lp (fun (a1 : Int32 × Int32) => [(0, .int x0), (1, .int a1.1), (2, .int a1.2)]) (fun rec5 ih4 a1 S2 => ?_) fl ((0 : Int32), (0 : Int32)) _)
    unfold bX9_ones_4
    refine g_iload_n 5 X 2 dX9_ones_4 rfl rfl rfl ?_
    refine g_bipush 7 X dX9_ones_5 rfl cb_8 ?_
    refine g_icmp_ge 24 10 X dX9_ones_7 (by decide) rfl (fun _ => ?_) (fun _ => ?_)
    · exact g_sub [1] rfl (J3 (a1.1, a1.2) _)
    · refine g_iload_n 11 X 1 dX9_ones_10 rfl rfl rfl ?_
      refine g_iload_n 12 X 0 dX9_ones_11 rfl rfl rfl ?_
      refine g_iload_n 13 X 2 dX9_ones_12 rfl rfl rfl ?_
      refine g_ishr 14 X dX9_ones_13 rfl ?_
      refine g_iconst 15 X dX9_ones_14 rfl ci_1 ?_
      refine g_iand 16 X dX9_ones_15 rfl ?_
      refine g_iadd 17 X dX9_ones_16 rfl ?_
      refine g_istore_n 18 X [(1, _), (0, _), (2, _)] dX9_ones_17 rfl rfl (Nat.le_of_ble_eq_true rfl) rfl ?_
      refine g_iinc 21 X 2 [(2, _), (1, _), (0, _)] dX9_ones_18 rfl rfl (ii_1 _) (Nat.le_of_ble_eq_true rfl) rfl ?_
      refine g_goto 4 X dX9_ones_21 (by decide) ?_
      exact g_sub [2, 1, 0] rfl (ih4 ((a1.1 + ((x0 >>> (a1.2 &&& 31)) &&& (1 : Int32))), (a1.2 + (1 : Int32))) _)
def fX9_no (x0 : Int32) (S : Sg) : Option (Int64 × Sg) :=
  some (((-9223372036854775808 : Int64) - (Int32.toInt64 x0)), S)
set_option maxHeartbeats 4000000 in
set_option maxRecDepth 100000 in
theorem tX9_no (G : Gd) (l : Launch) (D : Nat) (x0 : Int32) (S : Sg) : Ct LM G l rL yX9_no cX9_no 1 (some .long) (D + 0) [.int x0] S (fX9_no x0 S) := by
  refine Ct.of (by decide) (Nat.le_of_ble_eq_true rfl) (fun Z hZ X => ?_)
  subst hZ
  show Go LM G Z 1 rL 0 [(0, .int x0)] [] S (fX9_no x0 S) kz
  unfold fX9_no
  refine g_ldc2 3 X dX9_no_0 rfl conX9_93 ?_
  refine g_iload_n 4 X 0 dX9_no_3 rfl rfl rfl ?_
  refine g_i2l 5 X dX9_no_4 rfl ?_
  refine g_lsub 6 X dX9_no_5 rfl ?_
  exact g_lret X dX9_no_6 rfl
def bX9_lowest_6 (rec : (Int64 × Int64) → Sg → Option ((Int64 × Int64) × Sg)) (a1 : Int64 × Int64) (S2 : Sg) : Option ((Int64 × Int64) × Sg) :=
  (if (lg_cmp a1.2 (0 : Int64)) = 0 then some ((a1.1, a1.2), S2) else gd (!(a1.2 == 0)) (rec (a1.2, (a1.1 - a1.1 / a1.2 * a1.2)) S2))
def fX9_lowest (x0 : Int64) (x2 : Int64) (x4 : Int32) (S : Sg) : Option (Int64 × Sg) :=
  bd (lp (bX9_lowest_6) fl (x0, x2) S) (fun (a6 : Int64 × Int64) S7 => (if x4 = 0 then gd (!(a6.1 == 0)) (some ((x0 / a6.1), S7)) else gd (!(a6.1 == 0)) (some ((x2 / a6.1), S7))))
set_option maxHeartbeats 4000000 in
set_option maxRecDepth 100000 in
theorem tX9_lowest (G : Gd) (l : Launch) (D : Nat) (x0 : Int64) (x2 : Int64) (x4 : Int32) (S : Sg) : Ct LM G l rL yX9_lowest cX9_lowest 11 (some .long) (D + 0) [.long x0, .long x2, .int x4] S (fX9_lowest x0 x2 x4 S) := by
  refine Ct.of (by decide) (Nat.le_of_ble_eq_true rfl) (fun Z hZ X => ?_)
  subst hZ
  show Go LM G Z 11 rL 0 [(0, .long x0), (2, .long x2), (4, .int x4)] [] S (fX9_lowest x0 x2 x4 S) kz
  unfold fX9_lowest
  refine g_lload_n 1 X 0 dX9_lowest_0 rfl rfl rfl ?_
  refine g_lstore 3 X [(5, _), (0, _), (2, _), (4, _)] dX9_lowest_1 rfl (Nat.le_of_ble_eq_true rfl) rfl ?_
  refine g_lload_n 4 X 2 dX9_lowest_3 rfl rfl rfl ?_
  refine g_lstore 6 X [(7, _), (5, _), (0, _), (2, _), (4, _)] dX9_lowest_4 rfl (Nat.le_of_ble_eq_true rfl) rfl ?_
  refine g_joinK 31 (fun (a6 : Int64 × Int64) => [(0, .long x0), (2, .long x2), (4, .int x4), (5, .long a6.1)]) (fun (a6 : Int64 × Int64) => []) (fun a6 S7 => ?_) (fun J3 => ?_)
  · refine g_iload 33 X 2 dX9_lowest_31 rfl rfl ?_
    refine g_if_ne 43 36 X dX9_lowest_33 (by decide) rfl (fun _ => ?_) (fun _ => ?_)
    · refine g_lload_n 44 X 1 dX9_lowest_43 rfl rfl rfl ?_
      refine g_lload 46 X 3 dX9_lowest_44 rfl rfl ?_
      refine g_ldiv 47 X dX9_lowest_46 rfl ?_
      exact g_lret X dX9_lowest_47 rfl
    · refine g_lload_n 37 X 0 dX9_lowest_36 rfl rfl rfl ?_
      refine g_lload 39 X 3 dX9_lowest_37 rfl rfl ?_
      refine g_ldiv 40 X dX9_lowest_39 rfl ?_
      refine g_goto 47 X dX9_lowest_40 (by decide) ?_
      exact g_lret X dX9_lowest_47 rfl
  · refine g_sub [2, 3, 4, 1, 0] rfl (g_lp (fun (a1 : Int64 × Int64) => [(0, .long x0), (2, .long x2), (4, .int x4), (5, .long a1.1), (7, .long a1.2)]) (fun rec5 ih4 a1 S2 => ?_) fl (x0, x2) _)
    unfold bX9_lowest_6
    refine g_lload 8 X 4 dX9_lowest_6 rfl rfl ?_
    refine g_lconst (v := (0 : Int64)) 9 X dX9_lowest_8 rfl (by decide) ?_
    refine g_lcmp 10 X dX9_lowest_9 rfl ?_
    refine g_if_eq 31 13 X dX9_lowest_10 (by decide) rfl (fun _ => ?_) (fun _ => ?_)
    · exact g_sub [0, 1, 2, 3] rfl (J3 (a1.1, a1.2) _)
    · refine g_lload 15 X 3 dX9_lowest_13 rfl rfl ?_
      refine g_lload 17 X 4 dX9_lowest_15 rfl rfl ?_
      refine g_lrem 18 X dX9_lowest_17 rfl ?_
      refine g_lstore 20 X [(9, _), (0, _), (2, _), (4, _), (5, _), (7, _)] dX9_lowest_18 rfl (Nat.le_of_ble_eq_true rfl) rfl ?_
      refine g_lload 22 X 5 dX9_lowest_20 rfl rfl ?_
      refine g_lstore 24 X [(5, _), (9, _), (0, _), (2, _), (4, _), (7, _)] dX9_lowest_22 rfl (Nat.le_of_ble_eq_true rfl) rfl ?_
      refine g_lload 26 X 1 dX9_lowest_24 rfl rfl ?_
      refine g_lstore 28 X [(7, _), (5, _), (9, _), (0, _), (2, _), (4, _)] dX9_lowest_26 rfl (Nat.le_of_ble_eq_true rfl) rfl ?_
      refine g_goto 6 X dX9_lowest_28 (by decide) ?_
      exact g_sub [3, 4, 5, 1, 0] rfl (ih4 (a1.2, (a1.1 - a1.1 / a1.2 * a1.2)) _)
def fX9_isText (x0 : Int32) (S : Sg) : Option (Int32 × Sg) :=
  bd (fX9_in x0 (0 : Int32) (1 : Int32) S) (fun r1 S2 => gd (zb r1) (some (r1, S2)))
set_option maxHeartbeats 4000000 in
set_option maxRecDepth 100000 in
theorem tX9_isText (G : Gd) (l : Launch) (D : Nat) (x0 : Int32) (S : Sg) : Ct LM G l rI yX9_isText cX9_isText 1 (some .boolean) (D + 1) [.int x0] S (fX9_isText x0 S) := by
  refine Ct.of (by decide) (Nat.le_of_ble_eq_true rfl) (fun Z hZ X => ?_)
  subst hZ
  show Go LM G Z 1 rI 0 [(0, .int x0)] [] S (fX9_isText x0 S) kz
  unfold fX9_isText
  refine g_iload_n 1 X 0 dX9_isText_0 rfl rfl rfl ?_
  refine g_iconst 2 X dX9_isText_1 rfl ci_0 ?_
  refine g_iconst 3 X dX9_isText_2 rfl ci_1 ?_
  refine g_cSi3 6 X (tX9_in _ _ (D) _ _ _ _) mfX9_in msX9_in lkX9_95 (Nat.le_of_ble_eq_true rfl) dX9_isText_3 rfl (fun r1 S2 => ?_)
  exact g_gd (fun hz => g_zret X dX9_isText_6 hz rfl)
def fX9_isDay (x0 : Int32) (S : Sg) : Option (Int32 × Sg) :=
  bd (fX9_in x0 (0 : Int32) (19 : Int32) S) (fun r1 S2 => gd (zb r1) (some (r1, S2)))
set_option maxHeartbeats 4000000 in
set_option maxRecDepth 100000 in
theorem tX9_isDay (G : Gd) (l : Launch) (D : Nat) (x0 : Int32) (S : Sg) : Ct LM G l rI yX9_isDay cX9_isDay 1 (some .boolean) (D + 1) [.int x0] S (fX9_isDay x0 S) := by
  refine Ct.of (by decide) (Nat.le_of_ble_eq_true rfl) (fun Z hZ X => ?_)
  subst hZ
  show Go LM G Z 1 rI 0 [(0, .int x0)] [] S (fX9_isDay x0 S) kz
  unfold fX9_isDay
  refine g_iload_n 1 X 0 dX9_isDay_0 rfl rfl rfl ?_
  refine g_iconst 2 X dX9_isDay_1 rfl ci_0 ?_
  refine g_bipush 4 X dX9_isDay_2 rfl cb_19 ?_
  refine g_cSi3 7 X (tX9_in _ _ (D) _ _ _ _) mfX9_in msX9_in lkX9_95 (Nat.le_of_ble_eq_true rfl) dX9_isDay_4 rfl (fun r1 S2 => ?_)
  exact g_gd (fun hz => g_zret X dX9_isDay_7 hz rfl)
def fX9_isCell (x0 : Int32) (S : Sg) : Option (Int32 × Sg) :=
  bd (fX9_in x0 (0 : Int32) (35 : Int32) S) (fun r1 S2 => gd (zb r1) (some (r1, S2)))
set_option maxHeartbeats 4000000 in
set_option maxRecDepth 100000 in
theorem tX9_isCell (G : Gd) (l : Launch) (D : Nat) (x0 : Int32) (S : Sg) : Ct LM G l rI yX9_isCell cX9_isCell 1 (some .boolean) (D + 1) [.int x0] S (fX9_isCell x0 S) := by
  refine Ct.of (by decide) (Nat.le_of_ble_eq_true rfl) (fun Z hZ X => ?_)
  subst hZ
  show Go LM G Z 1 rI 0 [(0, .int x0)] [] S (fX9_isCell x0 S) kz
  unfold fX9_isCell
  refine g_iload_n 1 X 0 dX9_isCell_0 rfl rfl rfl ?_
  refine g_iconst 2 X dX9_isCell_1 rfl ci_0 ?_
  refine g_bipush 4 X dX9_isCell_2 rfl cb_35 ?_
  refine g_cSi3 7 X (tX9_in _ _ (D) _ _ _ _) mfX9_in msX9_in lkX9_95 (Nat.le_of_ble_eq_true rfl) dX9_isCell_4 rfl (fun r1 S2 => ?_)
  exact g_gd (fun hz => g_zret X dX9_isCell_7 hz rfl)
def fX9_type (x1 : Int32) (x2 : Int32) (S : Sg) : Option (Int32 × Sg) :=
  bd (fX9_isText x1 S) (fun r1 S2 => (if r1 = 0 then some ((-2 : Int32), S2) else bd (fX9_in x2 (0 : Int32) (255 : Int32) S2) (fun r3 S4 => (if r3 = 0 then some ((-2 : Int32), S4) else gd (ix x1 2) (bd ((if x1 = 0 then some ((20 : Int32), S4) else some ((55 : Int32), S4))) (fun (t5 : Int32) S6 => (if (S4.1 1 (Int32.toNatClampNeg x1)) = t5 then some ((-4 : Int32), S6) else gd (ix x1 2) (gd (ix (((55 : Int32) * x1) + (S6.1 1 (Int32.toNatClampNeg x1))) 110) (gd (ix x1 2) (gd (ix x1 2) (gd (ix x1 2) (some (((sI (sI S6 2 (Int32.toNatClampNeg (((55 : Int32) * x1) + (S6.1 1 (Int32.toNatClampNeg x1)))) x2) 1 (Int32.toNatClampNeg x1) (((sI S6 2 (Int32.toNatClampNeg (((55 : Int32) * x1) + (S6.1 1 (Int32.toNatClampNeg x1)))) x2).1 1 (Int32.toNatClampNeg x1)) + (1 : Int32))).1 1 (Int32.toNatClampNeg x1)), (sI (sI S6 2 (Int32.toNatClampNeg (((55 : Int32) * x1) + (S6.1 1 (Int32.toNatClampNeg x1)))) x2) 1 (Int32.toNatClampNeg x1) (((sI S6 2 (Int32.toNatClampNeg (((55 : Int32) * x1) + (S6.1 1 (Int32.toNatClampNeg x1)))) x2).1 1 (Int32.toNatClampNeg x1)) + (1 : Int32))))))))))))))))
set_option maxHeartbeats 4000000 in
set_option maxRecDepth 100000 in
theorem tX9_type (G : Gd) (l : Launch) (D : Nat) (x1 : Int32) (x2 : Int32) (S : Sg) : Ct LM G l rI yX9_type cX9_type 3 (some .int) (D + 2) [.ref (G.2.1 0), .int x1, .int x2] S (fX9_type x1 x2 S) := by
  refine Ct.of (by decide) (Nat.le_of_ble_eq_true rfl) (fun Z hZ X => ?_)
  subst hZ
  show Go LM G Z 3 rI 0 [(0, .ref (G.2.1 0)), (1, .int x1), (2, .int x2)] [] S (fX9_type x1 x2 S) kz
  unfold fX9_type
  refine g_iload_n 1 X 1 dX9_type_0 rfl rfl rfl ?_
  refine g_cSi1 4 X (tX9_isText _ _ (D) _ _) mfX9_isText msX9_isText lkX9_99 (Nat.le_of_ble_eq_true rfl) dX9_type_1 rfl (fun r1 S2 => ?_)
  refine g_if_eq 18 7 X dX9_type_4 (by decide) rfl (fun _ => ?_) (fun _ => ?_)
  · refine g_bipush 20 X dX9_type_18 rfl cb_m2 ?_
    exact g_iret X dX9_type_20 rfl
  · refine g_iload_n 8 X 2 dX9_type_7 rfl rfl rfl ?_
    refine g_iconst 9 X dX9_type_8 rfl ci_0 ?_
    refine g_sipush 12 X dX9_type_9 rfl cs_255 ?_
    refine g_cSi3 15 X (tX9_in _ _ (D + 1) _ _ _ _) mfX9_in msX9_in lkX9_95 (Nat.le_of_ble_eq_true rfl) dX9_type_12 rfl (fun r3 S4 => ?_)
    refine g_if_ne 21 18 X dX9_type_15 (by decide) rfl (fun _ => ?_) (fun _ => ?_)
    · refine g_aload_n 22 X 0 dX9_type_21 rfl rfl rfl ?_
      refine g_getr 25 X 1 rfl flX9_7 rfl dX9_type_22 rfl ?_
      refine g_iload_n 26 X 1 dX9_type_25 rfl rfl rfl ?_
      refine g_iald 27 X rfl dX9_type_26 rfl ?_
      refine g_iload_n 28 X 1 dX9_type_27 rfl rfl rfl ?_
      refine g_joinK 38 (fun (t5 : Int32) => [(0, .ref (G.2.1 0)), (1, .int x1), (2, .int x2)]) (fun (t5 : Int32) => [.int t5, .int (S4.1 1 (Int32.toNatClampNeg x1))]) (fun t5 S6 => ?_) (fun J7 => ?_)
      · refine g_icmp_ne 44 41 X dX9_type_38 (by decide) rfl (fun _ => ?_) (fun _ => ?_)
        · refine g_aload_n 45 X 0 dX9_type_44 rfl rfl rfl ?_
          refine g_getr 48 X 2 rfl flX9_13 rfl dX9_type_45 rfl ?_
          refine g_bipush 50 X dX9_type_48 rfl cb_55 ?_
          refine g_iload_n 51 X 1 dX9_type_50 rfl rfl rfl ?_
          refine g_imul 52 X dX9_type_51 rfl ?_
          refine g_aload_n 53 X 0 dX9_type_52 rfl rfl rfl ?_
          refine g_getr 56 X 1 rfl flX9_7 rfl dX9_type_53 rfl ?_
          refine g_iload_n 57 X 1 dX9_type_56 rfl rfl rfl ?_
          refine g_iald 58 X rfl dX9_type_57 rfl ?_
          refine g_iadd 59 X dX9_type_58 rfl ?_
          refine g_iload_n 60 X 2 dX9_type_59 rfl rfl rfl ?_
          refine g_iast 61 X rfl dX9_type_60 rfl ?_
          refine g_aload_n 62 X 0 dX9_type_61 rfl rfl rfl ?_
          refine g_getr 65 X 1 rfl flX9_7 rfl dX9_type_62 rfl ?_
          refine g_iload_n 66 X 1 dX9_type_65 rfl rfl rfl ?_
          refine g_dup2 67 X dX9_type_66 rfl rfl rfl ?_
          refine g_iald 68 X rfl dX9_type_67 rfl ?_
          refine g_iconst 69 X dX9_type_68 rfl ci_1 ?_
          refine g_iadd 70 X dX9_type_69 rfl ?_
          refine g_iast 71 X rfl dX9_type_70 rfl ?_
          refine g_aload_n 72 X 0 dX9_type_71 rfl rfl rfl ?_
          refine g_getr 75 X 1 rfl flX9_7 rfl dX9_type_72 rfl ?_
          refine g_iload_n 76 X 1 dX9_type_75 rfl rfl rfl ?_
          refine g_iald 77 X rfl dX9_type_76 rfl ?_
          exact g_iret X dX9_type_77 rfl
        · refine g_bipush 43 X dX9_type_41 rfl cb_m4 ?_
          exact g_iret X dX9_type_43 rfl
      · refine g_if_ne 36 31 X dX9_type_28 (by decide) rfl (fun _ => ?_) (fun _ => ?_)
        · refine g_bipush 38 X dX9_type_36 rfl cb_55 ?_
          exact g_sub [0, 1, 2] rfl (J7 (55 : Int32) _)
        · refine g_bipush 33 X dX9_type_31 rfl cb_20 ?_
          refine g_goto 38 X dX9_type_33 (by decide) ?_
          exact g_sub [0, 1, 2] rfl (J7 (20 : Int32) _)
    · refine g_bipush 20 X dX9_type_18 rfl cb_m2 ?_
      exact g_iret X dX9_type_20 rfl
def fX9_wipe (x1 : Int32) (S : Sg) : Option (Int32 × Sg) :=
  bd (fX9_isText x1 S) (fun r1 S2 => (if r1 = 0 then some ((-2 : Int32), S2) else gd (ix x1 2) (gd (ix x1 2) (some ((S2.1 1 (Int32.toNatClampNeg x1)), (sI S2 1 (Int32.toNatClampNeg x1) (0 : Int32)))))))
set_option maxHeartbeats 4000000 in
set_option maxRecDepth 100000 in
theorem tX9_wipe (G : Gd) (l : Launch) (D : Nat) (x1 : Int32) (S : Sg) : Ct LM G l rI yX9_wipe cX9_wipe 3 (some .int) (D + 2) [.ref (G.2.1 0), .int x1] S (fX9_wipe x1 S) := by
  refine Ct.of (by decide) (Nat.le_of_ble_eq_true rfl) (fun Z hZ X => ?_)
  subst hZ
  show Go LM G Z 3 rI 0 [(0, .ref (G.2.1 0)), (1, .int x1)] [] S (fX9_wipe x1 S) kz
  unfold fX9_wipe
  refine g_iload_n 1 X 1 dX9_wipe_0 rfl rfl rfl ?_
  refine g_cSi1 4 X (tX9_isText _ _ (D) _ _) mfX9_isText msX9_isText lkX9_99 (Nat.le_of_ble_eq_true rfl) dX9_wipe_1 rfl (fun r1 S2 => ?_)
  refine g_if_ne 10 7 X dX9_wipe_4 (by decide) rfl (fun _ => ?_) (fun _ => ?_)
  · refine g_aload_n 11 X 0 dX9_wipe_10 rfl rfl rfl ?_
    refine g_getr 14 X 1 rfl flX9_7 rfl dX9_wipe_11 rfl ?_
    refine g_iload_n 15 X 1 dX9_wipe_14 rfl rfl rfl ?_
    refine g_iald 16 X rfl dX9_wipe_15 rfl ?_
    refine g_istore_n 17 X [(2, _), (0, _), (1, _)] dX9_wipe_16 rfl rfl (Nat.le_of_ble_eq_true rfl) rfl ?_
    refine g_aload_n 18 X 1 dX9_wipe_17 rfl rfl rfl ?_
    refine g_getr 21 X 1 rfl flX9_7 rfl dX9_wipe_18 rfl ?_
    refine g_iload_n 22 X 2 dX9_wipe_21 rfl rfl rfl ?_
    refine g_iconst 23 X dX9_wipe_22 rfl ci_0 ?_
    refine g_iast 24 X rfl dX9_wipe_23 rfl ?_
    refine g_iload_n 25 X 0 dX9_wipe_24 rfl rfl rfl ?_
    exact g_iret X dX9_wipe_25 rfl
  · refine g_bipush 9 X dX9_wipe_7 rfl cb_m2 ?_
    exact g_iret X dX9_wipe_9 rfl
def fX9_undo (x1 : Int32) (S : Sg) : Option (Int32 × Sg) :=
  bd (fX9_isText x1 S) (fun r1 S2 => (if r1 = 0 then some ((-2 : Int32), S2) else gd (ix x1 2) ((if (S2.1 1 (Int32.toNatClampNeg x1)) = 0 then some ((-3 : Int32), S2) else gd (ix x1 2) (gd (ix x1 2) (gd (ix x1 2) (some (((sI S2 1 (Int32.toNatClampNeg x1) ((S2.1 1 (Int32.toNatClampNeg x1)) - (1 : Int32))).1 1 (Int32.toNatClampNeg x1)), (sI S2 1 (Int32.toNatClampNeg x1) ((S2.1 1 (Int32.toNatClampNeg x1)) - (1 : Int32)))))))))))
set_option maxHeartbeats 4000000 in
set_option maxRecDepth 100000 in
theorem tX9_undo (G : Gd) (l : Launch) (D : Nat) (x1 : Int32) (S : Sg) : Ct LM G l rI yX9_undo cX9_undo 2 (some .int) (D + 2) [.ref (G.2.1 0), .int x1] S (fX9_undo x1 S) := by
  refine Ct.of (by decide) (Nat.le_of_ble_eq_true rfl) (fun Z hZ X => ?_)
  subst hZ
  show Go LM G Z 2 rI 0 [(0, .ref (G.2.1 0)), (1, .int x1)] [] S (fX9_undo x1 S) kz
  unfold fX9_undo
  refine g_iload_n 1 X 1 dX9_undo_0 rfl rfl rfl ?_
  refine g_cSi1 4 X (tX9_isText _ _ (D) _ _) mfX9_isText msX9_isText lkX9_99 (Nat.le_of_ble_eq_true rfl) dX9_undo_1 rfl (fun r1 S2 => ?_)
  refine g_if_ne 10 7 X dX9_undo_4 (by decide) rfl (fun _ => ?_) (fun _ => ?_)
  · refine g_aload_n 11 X 0 dX9_undo_10 rfl rfl rfl ?_
    refine g_getr 14 X 1 rfl flX9_7 rfl dX9_undo_11 rfl ?_
    refine g_iload_n 15 X 1 dX9_undo_14 rfl rfl rfl ?_
    refine g_iald 16 X rfl dX9_undo_15 rfl ?_
    refine g_if_ne 22 19 X dX9_undo_16 (by decide) rfl (fun _ => ?_) (fun _ => ?_)
    · refine g_aload_n 23 X 0 dX9_undo_22 rfl rfl rfl ?_
      refine g_getr 26 X 1 rfl flX9_7 rfl dX9_undo_23 rfl ?_
      refine g_iload_n 27 X 1 dX9_undo_26 rfl rfl rfl ?_
      refine g_dup2 28 X dX9_undo_27 rfl rfl rfl ?_
      refine g_iald 29 X rfl dX9_undo_28 rfl ?_
      refine g_iconst 30 X dX9_undo_29 rfl ci_1 ?_
      refine g_isub 31 X dX9_undo_30 rfl ?_
      refine g_iast 32 X rfl dX9_undo_31 rfl ?_
      refine g_aload_n 33 X 0 dX9_undo_32 rfl rfl rfl ?_
      refine g_getr 36 X 1 rfl flX9_7 rfl dX9_undo_33 rfl ?_
      refine g_iload_n 37 X 1 dX9_undo_36 rfl rfl rfl ?_
      refine g_iald 38 X rfl dX9_undo_37 rfl ?_
      exact g_iret X dX9_undo_38 rfl
    · refine g_bipush 21 X dX9_undo_19 rfl cb_m3 ?_
      exact g_iret X dX9_undo_21 rfl
  · refine g_bipush 9 X dX9_undo_7 rfl cb_m2 ?_
    exact g_iret X dX9_undo_9 rfl
def bX9_readsDamps_7 (rec : Int32 → Sg → Option ((Int32) × Sg)) (a1 : Int32) (S2 : Sg) : Option ((Int32) × Sg) :=
  (if (20 : Int32) ≤ a1 then some (a1, S2) else gd (ix a1 20) (rec (a1 + (1 : Int32)) (sI S2 3 (Int32.toNatClampNeg a1) (0 : Int32))))
def bX9_readsDamps_28 (rec : Int32 → Sg → Option (((Int32) ⊕ Int32) × Sg)) (a8 : Int32) (S9 : Sg) : Option (((Int32) ⊕ Int32) × Sg) :=
  gd (ix (0 : Int32) 2) ((if (S9.1 1 (Int32.toNatClampNeg (0 : Int32))) ≤ a8 then some (.inl a8, S9) else gd (ix a8 110) (bd (fX9_in (S9.1 2 (Int32.toNatClampNeg a8)) (48 : Int32) (57 : Int32) S9) (fun r10 S11 => (if r10 = 0 then some (.inr a8, S11) else rec (a8 + (1 : Int32)) S11)))))
def bX9_readsDamps_64 (rec : Int32 → Sg → Option ((Int32) × Sg)) (a17 : Int32) (S18 : Sg) : Option ((Int32) × Sg) :=
  gd (ix (0 : Int32) 2) ((if (S18.1 1 (Int32.toNatClampNeg (0 : Int32))) ≤ a17 then some (a17, S18) else gd (ix a17 110) (gd (ix a17 20) (rec (a17 + (1 : Int32)) (sI S18 3 (Int32.toNatClampNeg a17) ((S18.1 2 (Int32.toNatClampNeg a17)) - (48 : Int32)))))))
def fX9_readsDamps  (S : Sg) : Option (Int32 × Sg) :=
  bd (lp (bX9_readsDamps_7) fl (0 : Int32) (sI S 0 2 (0 : Int32))) (fun (a6 : Int32) S7 => bd (lp (bX9_readsDamps_28) fl (0 : Int32) S7) (se (fun (a15 : Int32) S16 => bd (lp (bX9_readsDamps_64) fl (0 : Int32) S16) (fun (a22 : Int32) S23 => gd (ix (0 : Int32) 2) (some ((-1 : Int32), (sI S23 0 2 (S23.1 1 (Int32.toNatClampNeg (0 : Int32)))))))) (fun (v : Int32) S16 => some (v, S16))))
set_option maxHeartbeats 4000000 in
set_option maxRecDepth 100000 in
theorem tX9_readsDamps (G : Gd) (l : Launch) (D : Nat)  (S : Sg) : Ct LM G l rI yX9_readsDamps cX9_readsDamps 2 (some .int) (D + 1) [.ref (G.2.1 0)] S (fX9_readsDamps  S) := by
  refine Ct.of (by decide) (Nat.le_of_ble_eq_true rfl) (fun Z hZ X => ?_)
  subst hZ
  show Go LM G Z 2 rI 0 [(0, .ref (G.2.1 0))] [] S (fX9_readsDamps  S) kz
  unfold fX9_readsDamps
  refine g_aload_n 1 X 0 dX9_readsDamps_0 rfl rfl rfl ?_
  refine g_iconst 2 X dX9_readsDamps_1 rfl ci_0 ?_
  refine g_puti 5 X rfl flX9_103 fp_9_2 rfl dX9_readsDamps_2 rfl ?_
  refine g_iconst 6 X dX9_readsDamps_5 rfl ci_0 ?_
  refine g_istore_n 7 X [(1, _), (0, _)] dX9_readsDamps_6 rfl rfl (Nat.le_of_ble_eq_true rfl) rfl ?_
  refine g_joinK 26 (fun (a6 : Int32) => [(0, .ref (G.2.1 0))]) (fun (a6 : Int32) => []) (fun a6 S7 => ?_) (fun J3 => ?_)
  · refine g_iconst 27 X dX9_readsDamps_26 rfl ci_0 ?_
    refine g_istore_n 28 X [(1, _), (0, _)] dX9_readsDamps_27 rfl rfl (Nat.le_of_ble_eq_true rfl) rfl ?_
    refine g_joinR 62 (fun (a15 : Int32) => [(0, .ref (G.2.1 0))]) (fun (a15 : Int32) => []) (fun a15 S16 => ?_) (fun J10 => ?_)
    · refine g_iconst 63 X dX9_readsDamps_62 rfl ci_0 ?_
      refine g_istore_n 64 X [(1, _), (0, _)] dX9_readsDamps_63 rfl rfl (Nat.le_of_ble_eq_true rfl) rfl ?_
      refine g_joinK 95 (fun (a22 : Int32) => [(0, .ref (G.2.1 0))]) (fun (a22 : Int32) => []) (fun a22 S23 => ?_) (fun J19 => ?_)
      · refine g_aload_n 96 X 0 dX9_readsDamps_95 rfl rfl rfl ?_
        refine g_aload_n 97 X 0 dX9_readsDamps_96 rfl rfl rfl ?_
        refine g_getr 100 X 1 rfl flX9_7 rfl dX9_readsDamps_97 rfl ?_
        refine g_iconst 101 X dX9_readsDamps_100 rfl ci_0 ?_
        refine g_iald 102 X rfl dX9_readsDamps_101 rfl ?_
        refine g_puti 105 X rfl flX9_103 fp_9_2 rfl dX9_readsDamps_102 rfl ?_
        refine g_iconst 106 X dX9_readsDamps_105 rfl ci_m1 ?_
        exact g_iret X dX9_readsDamps_106 rfl
      · refine g_sub [1, 0] rfl (g_lp (fun (a17 : Int32) => [(0, .ref (G.2.1 0)), (1, .int a17)]) (fun rec21 ih20 a17 S18 => ?_) fl (0 : Int32) _)
        unfold bX9_readsDamps_64
        refine g_iload_n 65 X 1 dX9_readsDamps_64 rfl rfl rfl ?_
        refine g_aload_n 66 X 0 dX9_readsDamps_65 rfl rfl rfl ?_
        refine g_getr 69 X 1 rfl flX9_7 rfl dX9_readsDamps_66 rfl ?_
        refine g_iconst 70 X dX9_readsDamps_69 rfl ci_0 ?_
        refine g_iald 71 X rfl dX9_readsDamps_70 rfl ?_
        refine g_icmp_ge 95 74 X dX9_readsDamps_71 (by decide) rfl (fun _ => ?_) (fun _ => ?_)
        · exact g_sub [0] rfl (J19 a17 _)
        · refine g_aload_n 75 X 0 dX9_readsDamps_74 rfl rfl rfl ?_
          refine g_getr 78 X 3 rfl flX9_16 rfl dX9_readsDamps_75 rfl ?_
          refine g_iload_n 79 X 1 dX9_readsDamps_78 rfl rfl rfl ?_
          refine g_aload_n 80 X 0 dX9_readsDamps_79 rfl rfl rfl ?_
          refine g_getr 83 X 2 rfl flX9_13 rfl dX9_readsDamps_80 rfl ?_
          refine g_iload_n 84 X 1 dX9_readsDamps_83 rfl rfl rfl ?_
          refine g_iald 85 X rfl dX9_readsDamps_84 rfl ?_
          refine g_bipush 87 X dX9_readsDamps_85 rfl cb_48 ?_
          refine g_isub 88 X dX9_readsDamps_87 rfl ?_
          refine g_iast 89 X rfl dX9_readsDamps_88 rfl ?_
          refine g_iinc 92 X 1 [(1, _), (0, _)] dX9_readsDamps_89 rfl rfl (ii_1 _) (Nat.le_of_ble_eq_true rfl) rfl ?_
          refine g_goto 64 X dX9_readsDamps_92 (by decide) ?_
          exact g_sub [1, 0] rfl (ih20 (a17 + (1 : Int32)) _)
    · refine g_sub [1, 0] rfl (g_lp (fun (a8 : Int32) => [(0, .ref (G.2.1 0)), (1, .int a8)]) (fun rec12 ih11 a8 S9 => ?_) fl (0 : Int32) _)
      unfold bX9_readsDamps_28
      refine g_iload_n 29 X 1 dX9_readsDamps_28 rfl rfl rfl ?_
      refine g_aload_n 30 X 0 dX9_readsDamps_29 rfl rfl rfl ?_
      refine g_getr 33 X 1 rfl flX9_7 rfl dX9_readsDamps_30 rfl ?_
      refine g_iconst 34 X dX9_readsDamps_33 rfl ci_0 ?_
      refine g_iald 35 X rfl dX9_readsDamps_34 rfl ?_
      refine g_icmp_ge 62 38 X dX9_readsDamps_35 (by decide) rfl (fun _ => ?_) (fun _ => ?_)
      · exact g_sub [0] rfl (J10 a8 _)
      · refine g_aload_n 39 X 0 dX9_readsDamps_38 rfl rfl rfl ?_
        refine g_getr 42 X 2 rfl flX9_13 rfl dX9_readsDamps_39 rfl ?_
        refine g_iload_n 43 X 1 dX9_readsDamps_42 rfl rfl rfl ?_
        refine g_iald 44 X rfl dX9_readsDamps_43 rfl ?_
        refine g_bipush 46 X dX9_readsDamps_44 rfl cb_48 ?_
        refine g_bipush 48 X dX9_readsDamps_46 rfl cb_57 ?_
        refine g_cSi3 51 X (tX9_in _ _ (D) _ _ _ _) mfX9_in msX9_in lkX9_95 (Nat.le_of_ble_eq_true rfl) dX9_readsDamps_48 rfl (fun r13 S14 => ?_)
        refine g_if_ne 56 54 X dX9_readsDamps_51 (by decide) rfl (fun _ => ?_) (fun _ => ?_)
        · refine g_iinc 59 X 1 [(1, _), (0, _)] dX9_readsDamps_56 rfl rfl (ii_1 _) (Nat.le_of_ble_eq_true rfl) rfl ?_
          refine g_goto 28 X dX9_readsDamps_59 (by decide) ?_
          exact g_sub [1, 0] rfl (ih11 (a8 + (1 : Int32)) _)
        · refine g_iload_n 55 X 1 dX9_readsDamps_54 rfl rfl rfl ?_
          exact g_iret X dX9_readsDamps_55 rfl
  · refine g_sub [1, 0] rfl (g_lp (fun (a1 : Int32) => [(0, .ref (G.2.1 0)), (1, .int a1)]) (fun rec5 ih4 a1 S2 => ?_) fl (0 : Int32) _)
    unfold bX9_readsDamps_7
    refine g_iload_n 8 X 1 dX9_readsDamps_7 rfl rfl rfl ?_
    refine g_bipush 10 X dX9_readsDamps_8 rfl cb_20 ?_
    refine g_icmp_ge 26 13 X dX9_readsDamps_10 (by decide) rfl (fun _ => ?_) (fun _ => ?_)
    · exact g_sub [0] rfl (J3 a1 _)
    · refine g_aload_n 14 X 0 dX9_readsDamps_13 rfl rfl rfl ?_
      refine g_getr 17 X 3 rfl flX9_16 rfl dX9_readsDamps_14 rfl ?_
      refine g_iload_n 18 X 1 dX9_readsDamps_17 rfl rfl rfl ?_
      refine g_iconst 19 X dX9_readsDamps_18 rfl ci_0 ?_
      refine g_iast 20 X rfl dX9_readsDamps_19 rfl ?_
      refine g_iinc 23 X 1 [(1, _), (0, _)] dX9_readsDamps_20 rfl rfl (ii_1 _) (Nat.le_of_ble_eq_true rfl) rfl ?_
      refine g_goto 7 X dX9_readsDamps_23 (by decide) ?_
      exact g_sub [1, 0] rfl (ih4 (a1 + (1 : Int32)) _)
def fX9_byteAt (x1 : Int32) (S : Sg) : Option (Int32 × Sg) :=
  gd (ix (1 : Int32) 2) ((if (S.1 1 (Int32.toNatClampNeg (1 : Int32))) ≤ x1 then some ((-1 : Int32), S) else gd (ix ((55 : Int32) + x1) 110) (some ((S.1 2 (Int32.toNatClampNeg ((55 : Int32) + x1))), S))))
set_option maxHeartbeats 4000000 in
set_option maxRecDepth 100000 in
theorem tX9_byteAt (G : Gd) (l : Launch) (D : Nat) (x1 : Int32) (S : Sg) : Ct LM G l rI yX9_byteAt cX9_byteAt 2 (some .int) (D + 0) [.ref (G.2.1 0), .int x1] S (fX9_byteAt x1 S) := by
  refine Ct.of (by decide) (Nat.le_of_ble_eq_true rfl) (fun Z hZ X => ?_)
  subst hZ
  show Go LM G Z 2 rI 0 [(0, .ref (G.2.1 0)), (1, .int x1)] [] S (fX9_byteAt x1 S) kz
  unfold fX9_byteAt
  refine g_iload_n 1 X 1 dX9_byteAt_0 rfl rfl rfl ?_
  refine g_aload_n 2 X 0 dX9_byteAt_1 rfl rfl rfl ?_
  refine g_getr 5 X 1 rfl flX9_7 rfl dX9_byteAt_2 rfl ?_
  refine g_iconst 6 X dX9_byteAt_5 rfl ci_1 ?_
  refine g_iald 7 X rfl dX9_byteAt_6 rfl ?_
  refine g_icmp_ge 22 10 X dX9_byteAt_7 (by decide) rfl (fun _ => ?_) (fun _ => ?_)
  · refine g_iconst 23 X dX9_byteAt_22 rfl ci_m1 ?_
    exact g_iret X dX9_byteAt_23 rfl
  · refine g_aload_n 11 X 0 dX9_byteAt_10 rfl rfl rfl ?_
    refine g_getr 14 X 2 rfl flX9_13 rfl dX9_byteAt_11 rfl ?_
    refine g_bipush 16 X dX9_byteAt_14 rfl cb_55 ?_
    refine g_iload_n 17 X 1 dX9_byteAt_16 rfl rfl rfl ?_
    refine g_iadd 18 X dX9_byteAt_17 rfl ?_
    refine g_iald 19 X rfl dX9_byteAt_18 rfl ?_
    refine g_goto 23 X dX9_byteAt_19 (by decide) ?_
    exact g_iret X dX9_byteAt_23 rfl
def fX9_isWell (x1 : Int32) (x2 : Int32) (S : Sg) : Option (Int32 × Sg) :=
  bd (fX9_byteAt (x1 + x2) S) (fun r1 S2 => bd ((if x2 = (4 : Int32) then some ((97 : Int32), S2) else (if x2 = (5 : Int32) then some ((49 : Int32), S2) else some ((48 : Int32), S2)))) (fun (t3 : Int32) S4 => bd ((if x2 = 0 then some ((49 : Int32), S4) else (if x2 = (1 : Int32) then some ((57 : Int32), S4) else (if x2 = (5 : Int32) then some ((57 : Int32), S4) else (if x2 = (4 : Int32) then some ((102 : Int32), S4) else some ((53 : Int32), S4)))))) (fun (t6 : Int32) S7 => bd (fX9_in r1 t3 t6 S7) (fun r9 S10 => gd (zb r9) (some (r9, S10))))))
set_option maxHeartbeats 4000000 in
set_option maxRecDepth 100000 in
theorem tX9_isWell (G : Gd) (l : Launch) (D : Nat) (x1 : Int32) (x2 : Int32) (S : Sg) : Ct LM G l rI yX9_isWell cX9_isWell 6 (some .boolean) (D + 1) [.ref (G.2.1 0), .int x1, .int x2] S (fX9_isWell x1 x2 S) := by
  refine Ct.of (by decide) (Nat.le_of_ble_eq_true rfl) (fun Z hZ X => ?_)
  subst hZ
  show Go LM G Z 6 rI 0 [(0, .ref (G.2.1 0)), (1, .int x1), (2, .int x2)] [] S (fX9_isWell x1 x2 S) kz
  unfold fX9_isWell
  refine g_aload_n 1 X 0 dX9_isWell_0 rfl rfl rfl ?_
  refine g_iload_n 2 X 1 dX9_isWell_1 rfl rfl rfl ?_
  refine g_iload_n 3 X 2 dX9_isWell_2 rfl rfl rfl ?_
  refine g_iadd 4 X dX9_isWell_3 rfl ?_
  refine g_cVi1 7 X (tX9_byteAt _ _ (D) _ _) mfX9_byteAt miX9_byteAt lkX9_106 rfl rfl rfl (Nat.le_of_ble_eq_true rfl) dX9_isWell_4 rfl (fun r1 S2 => ?_)
  refine g_istore_n 8 X [(3, _), (0, _), (1, _), (2, _)] dX9_isWell_7 rfl rfl (Nat.le_of_ble_eq_true rfl) rfl ?_
  refine g_iload_n 9 X 3 dX9_isWell_8 rfl rfl rfl ?_
  refine g_iconst 10 X dX9_isWell_9 rfl ci_4 ?_
  refine g_joinK 30 (fun (t3 : Int32) => [(2, .int x2), (3, .int r1)]) (fun (t3 : Int32) => [.int t3]) (fun t3 S4 => ?_) (fun J5 => ?_)
  · refine g_istore 32 X [(4, _), (2, _), (3, _)] dX9_isWell_30 rfl (Nat.le_of_ble_eq_true rfl) rfl ?_
    refine g_iload_n 33 X 1 dX9_isWell_32 rfl rfl rfl ?_
    refine g_joinK 68 (fun (t6 : Int32) => [(3, .int r1), (4, .int t3)]) (fun (t6 : Int32) => [.int t6]) (fun t6 S7 => ?_) (fun J8 => ?_)
    · refine g_istore 70 X [(5, _), (3, _), (4, _)] dX9_isWell_68 rfl (Nat.le_of_ble_eq_true rfl) rfl ?_
      refine g_iload_n 71 X 1 dX9_isWell_70 rfl rfl rfl ?_
      refine g_iload 73 X 2 dX9_isWell_71 rfl rfl ?_
      refine g_iload 75 X 0 dX9_isWell_73 rfl rfl ?_
      refine g_cSi3 78 X (tX9_in _ _ (D) _ _ _ _) mfX9_in msX9_in lkX9_95 (Nat.le_of_ble_eq_true rfl) dX9_isWell_75 rfl (fun r9 S10 => ?_)
      exact g_gd (fun hz => g_zret X dX9_isWell_78 hz rfl)
    · refine g_if_ne 41 36 X dX9_isWell_33 (by decide) rfl (fun _ => ?_) (fun _ => ?_)
      · refine g_iload_n 42 X 1 dX9_isWell_41 rfl rfl rfl ?_
        refine g_iconst 43 X dX9_isWell_42 rfl ci_1 ?_
        refine g_icmp_eq 51 46 X dX9_isWell_43 (by decide) rfl (fun _ => ?_) (fun _ => ?_)
        · refine g_bipush 53 X dX9_isWell_51 rfl cb_57 ?_
          refine g_goto 68 X dX9_isWell_53 (by decide) ?_
          exact g_sub [2, 0] rfl (J8 (57 : Int32) _)
        · refine g_iload_n 47 X 1 dX9_isWell_46 rfl rfl rfl ?_
          refine g_iconst 48 X dX9_isWell_47 rfl ci_5 ?_
          refine g_icmp_ne 56 51 X dX9_isWell_48 (by decide) rfl (fun _ => ?_) (fun _ => ?_)
          · refine g_iload_n 57 X 1 dX9_isWell_56 rfl rfl rfl ?_
            refine g_iconst 58 X dX9_isWell_57 rfl ci_4 ?_
            refine g_icmp_ne 66 61 X dX9_isWell_58 (by decide) rfl (fun _ => ?_) (fun _ => ?_)
            · refine g_bipush 68 X dX9_isWell_66 rfl cb_53 ?_
              exact g_sub [2, 0] rfl (J8 (53 : Int32) _)
            · refine g_bipush 63 X dX9_isWell_61 rfl cb_102 ?_
              refine g_goto 68 X dX9_isWell_63 (by decide) ?_
              exact g_sub [2, 0] rfl (J8 (102 : Int32) _)
          · refine g_bipush 53 X dX9_isWell_51 rfl cb_57 ?_
            refine g_goto 68 X dX9_isWell_53 (by decide) ?_
            exact g_sub [2, 0] rfl (J8 (57 : Int32) _)
      · refine g_bipush 38 X dX9_isWell_36 rfl cb_49 ?_
        refine g_goto 68 X dX9_isWell_38 (by decide) ?_
        exact g_sub [2, 0] rfl (J8 (49 : Int32) _)
  · refine g_icmp_ne 18 13 X dX9_isWell_10 (by decide) rfl (fun _ => ?_) (fun _ => ?_)
    · refine g_iload_n 19 X 3 dX9_isWell_18 rfl rfl rfl ?_
      refine g_iconst 20 X dX9_isWell_19 rfl ci_5 ?_
      refine g_icmp_ne 28 23 X dX9_isWell_20 (by decide) rfl (fun _ => ?_) (fun _ => ?_)
      · refine g_bipush 30 X dX9_isWell_28 rfl cb_48 ?_
        exact g_sub [3, 0] rfl (J5 (48 : Int32) _)
      · refine g_bipush 25 X dX9_isWell_23 rfl cb_49 ?_
        refine g_goto 30 X dX9_isWell_25 (by decide) ?_
        exact g_sub [3, 0] rfl (J5 (49 : Int32) _)
    · refine g_bipush 15 X dX9_isWell_13 rfl cb_97 ?_
      refine g_goto 30 X dX9_isWell_15 (by decide) ?_
      exact g_sub [3, 0] rfl (J5 (97 : Int32) _)
def bX9_readsStroke_2 (c2 : Int32) (rec : Int32 → Sg → Option ((Int32) × Sg)) (a1 : Int32) (S2 : Sg) : Option ((Int32) × Sg) :=
  (if (6 : Int32) ≤ a1 then some (a1, S2) else bd (fX9_isWell c2 a1 S2) (fun r3 S4 => (if r3 = 0 then some (a1, S4) else rec (a1 + (1 : Int32)) S4)))
def fX9_readsStroke (x1 : Int32) (x2 : Int32) (S : Sg) : Option (Int32 × Sg) :=
  bd (lp (bX9_readsStroke_2 x2) fl (0 : Int32) S) (fun (a8 : Int32) S9 => bd ((if a8 = (6 : Int32) then bd (fX9_byteAt x2 S9) (fun r13 S14 => bd (fX9_byteAt (x2 + (1 : Int32)) S14) (fun r15 S16 => gd (ix x1 9) (bd (fX9_byteAt (x2 + (2 : Int32)) (sI S16 4 (Int32.toNatClampNeg x1) ((((10 : Int32) * (r13 - (48 : Int32))) + r15) - (48 : Int32)))) (fun r17 S18 => bd (fX9_byteAt (x2 + (3 : Int32)) S18) (fun r19 S20 => gd (ix x1 9) (bd (fX9_byteAt (x2 + (4 : Int32)) (sI S20 5 (Int32.toNatClampNeg x1) ((((6 : Int32) * (r17 - (48 : Int32))) + r19) - (48 : Int32)))) (fun r21 S22 => gd (ix x1 9) (bd (fX9_byteAt (x2 + (5 : Int32)) (sI S22 6 (Int32.toNatClampNeg x1) (r21 - (97 : Int32)))) (fun r23 S24 => gd (ix x1 9) (some ((), (sI S24 7 (Int32.toNatClampNeg x1) (r23 - (48 : Int32)))))))))))))) else some ((), S9))) (fun (t10 : Unit) S11 => some (a8, S11)))
set_option maxHeartbeats 4000000 in
set_option maxRecDepth 100000 in
theorem tX9_readsStroke (G : Gd) (l : Launch) (D : Nat) (x1 : Int32) (x2 : Int32) (S : Sg) : Ct LM G l rI yX9_readsStroke cX9_readsStroke 4 (some .int) (D + 2) [.ref (G.2.1 0), .int x1, .int x2] S (fX9_readsStroke x1 x2 S) := by
  refine Ct.of (by decide) (Nat.le_of_ble_eq_true rfl) (fun Z hZ X => ?_)
  subst hZ
  show Go LM G Z 4 rI 0 [(0, .ref (G.2.1 0)), (1, .int x1), (2, .int x2)] [] S (fX9_readsStroke x1 x2 S) kz
  unfold fX9_readsStroke
  refine g_iconst 1 X dX9_readsStroke_0 rfl ci_0 ?_
  refine g_istore_n 2 X [(3, _), (0, _), (1, _), (2, _)] dX9_readsStroke_1 rfl rfl (Nat.le_of_ble_eq_true rfl) rfl ?_
  refine g_joinK 23 (fun (a8 : Int32) => [(0, .ref (G.2.1 0)), (1, .int x1), (2, .int x2), (3, .int a8)]) (fun (a8 : Int32) => []) (fun a8 S9 => ?_) (fun J3 => ?_)
  · refine g_iload_n 24 X 3 dX9_readsStroke_23 rfl rfl rfl ?_
    refine g_bipush 26 X dX9_readsStroke_24 rfl cb_6 ?_
    refine g_joinK 119 (fun (t10 : Unit) => [(3, .int a8)]) (fun (t10 : Unit) => []) (fun t10 S11 => ?_) (fun J12 => ?_)
    · refine g_iload_n 120 X 0 dX9_readsStroke_119 rfl rfl rfl ?_
      exact g_iret X dX9_readsStroke_120 rfl
    · refine g_icmp_ne 119 29 X dX9_readsStroke_26 (by decide) rfl (fun _ => ?_) (fun _ => ?_)
      · exact g_sub [3] rfl (J12 () _)
      · refine g_aload_n 30 X 0 dX9_readsStroke_29 rfl rfl rfl ?_
        refine g_getr 33 X 4 rfl flX9_19 rfl dX9_readsStroke_30 rfl ?_
        refine g_iload_n 34 X 1 dX9_readsStroke_33 rfl rfl rfl ?_
        refine g_bipush 36 X dX9_readsStroke_34 rfl cb_10 ?_
        refine g_aload_n 37 X 0 dX9_readsStroke_36 rfl rfl rfl ?_
        refine g_iload_n 38 X 2 dX9_readsStroke_37 rfl rfl rfl ?_
        refine g_cVi1 41 X (tX9_byteAt _ _ (D + 1) _ _) mfX9_byteAt miX9_byteAt lkX9_106 rfl rfl rfl (Nat.le_of_ble_eq_true rfl) dX9_readsStroke_38 rfl (fun r13 S14 => ?_)
        refine g_bipush 43 X dX9_readsStroke_41 rfl cb_48 ?_
        refine g_isub 44 X dX9_readsStroke_43 rfl ?_
        refine g_imul 45 X dX9_readsStroke_44 rfl ?_
        refine g_aload_n 46 X 0 dX9_readsStroke_45 rfl rfl rfl ?_
        refine g_iload_n 47 X 2 dX9_readsStroke_46 rfl rfl rfl ?_
        refine g_iconst 48 X dX9_readsStroke_47 rfl ci_1 ?_
        refine g_iadd 49 X dX9_readsStroke_48 rfl ?_
        refine g_cVi1 52 X (tX9_byteAt _ _ (D + 1) _ _) mfX9_byteAt miX9_byteAt lkX9_106 rfl rfl rfl (Nat.le_of_ble_eq_true rfl) dX9_readsStroke_49 rfl (fun r15 S16 => ?_)
        refine g_iadd 53 X dX9_readsStroke_52 rfl ?_
        refine g_bipush 55 X dX9_readsStroke_53 rfl cb_48 ?_
        refine g_isub 56 X dX9_readsStroke_55 rfl ?_
        refine g_iast 57 X rfl dX9_readsStroke_56 rfl ?_
        refine g_aload_n 58 X 0 dX9_readsStroke_57 rfl rfl rfl ?_
        refine g_getr 61 X 5 rfl flX9_22 rfl dX9_readsStroke_58 rfl ?_
        refine g_iload_n 62 X 1 dX9_readsStroke_61 rfl rfl rfl ?_
        refine g_bipush 64 X dX9_readsStroke_62 rfl cb_6 ?_
        refine g_aload_n 65 X 0 dX9_readsStroke_64 rfl rfl rfl ?_
        refine g_iload_n 66 X 2 dX9_readsStroke_65 rfl rfl rfl ?_
        refine g_iconst 67 X dX9_readsStroke_66 rfl ci_2 ?_
        refine g_iadd 68 X dX9_readsStroke_67 rfl ?_
        refine g_cVi1 71 X (tX9_byteAt _ _ (D + 1) _ _) mfX9_byteAt miX9_byteAt lkX9_106 rfl rfl rfl (Nat.le_of_ble_eq_true rfl) dX9_readsStroke_68 rfl (fun r17 S18 => ?_)
        refine g_bipush 73 X dX9_readsStroke_71 rfl cb_48 ?_
        refine g_isub 74 X dX9_readsStroke_73 rfl ?_
        refine g_imul 75 X dX9_readsStroke_74 rfl ?_
        refine g_aload_n 76 X 0 dX9_readsStroke_75 rfl rfl rfl ?_
        refine g_iload_n 77 X 2 dX9_readsStroke_76 rfl rfl rfl ?_
        refine g_iconst 78 X dX9_readsStroke_77 rfl ci_3 ?_
        refine g_iadd 79 X dX9_readsStroke_78 rfl ?_
        refine g_cVi1 82 X (tX9_byteAt _ _ (D + 1) _ _) mfX9_byteAt miX9_byteAt lkX9_106 rfl rfl rfl (Nat.le_of_ble_eq_true rfl) dX9_readsStroke_79 rfl (fun r19 S20 => ?_)
        refine g_iadd 83 X dX9_readsStroke_82 rfl ?_
        refine g_bipush 85 X dX9_readsStroke_83 rfl cb_48 ?_
        refine g_isub 86 X dX9_readsStroke_85 rfl ?_
        refine g_iast 87 X rfl dX9_readsStroke_86 rfl ?_
        refine g_aload_n 88 X 0 dX9_readsStroke_87 rfl rfl rfl ?_
        refine g_getr 91 X 6 rfl flX9_25 rfl dX9_readsStroke_88 rfl ?_
        refine g_iload_n 92 X 1 dX9_readsStroke_91 rfl rfl rfl ?_
        refine g_aload_n 93 X 0 dX9_readsStroke_92 rfl rfl rfl ?_
        refine g_iload_n 94 X 2 dX9_readsStroke_93 rfl rfl rfl ?_
        refine g_iconst 95 X dX9_readsStroke_94 rfl ci_4 ?_
        refine g_iadd 96 X dX9_readsStroke_95 rfl ?_
        refine g_cVi1 99 X (tX9_byteAt _ _ (D + 1) _ _) mfX9_byteAt miX9_byteAt lkX9_106 rfl rfl rfl (Nat.le_of_ble_eq_true rfl) dX9_readsStroke_96 rfl (fun r21 S22 => ?_)
        refine g_bipush 101 X dX9_readsStroke_99 rfl cb_97 ?_
        refine g_isub 102 X dX9_readsStroke_101 rfl ?_
        refine g_iast 103 X rfl dX9_readsStroke_102 rfl ?_
        refine g_aload_n 104 X 0 dX9_readsStroke_103 rfl rfl rfl ?_
        refine g_getr 107 X 7 rfl flX9_28 rfl dX9_readsStroke_104 rfl ?_
        refine g_iload_n 108 X 1 dX9_readsStroke_107 rfl rfl rfl ?_
        refine g_aload_n 109 X 0 dX9_readsStroke_108 rfl rfl rfl ?_
        refine g_iload_n 110 X 2 dX9_readsStroke_109 rfl rfl rfl ?_
        refine g_iconst 111 X dX9_readsStroke_110 rfl ci_5 ?_
        refine g_iadd 112 X dX9_readsStroke_111 rfl ?_
        refine g_cVi1 115 X (tX9_byteAt _ _ (D + 1) _ _) mfX9_byteAt miX9_byteAt lkX9_106 rfl rfl rfl (Nat.le_of_ble_eq_true rfl) dX9_readsStroke_112 rfl (fun r23 S24 => ?_)
        refine g_bipush 117 X dX9_readsStroke_115 rfl cb_48 ?_
        refine g_isub 118 X dX9_readsStroke_117 rfl ?_
        refine g_iast 119 X rfl dX9_readsStroke_118 rfl ?_
        exact g_sub [3] rfl (J12 () _)
  · refine g_sub [1, 2, 3, 0] rfl (g_lp (fun (a1 : Int32) => [(0, .ref (G.2.1 0)), (1, .int x1), (2, .int x2), (3, .int a1)]) (fun rec5 ih4 a1 S2 => ?_) fl (0 : Int32) _)
    unfold bX9_readsStroke_2
    refine g_iload_n 3 X 3 dX9_readsStroke_2 rfl rfl rfl ?_
    refine g_bipush 5 X dX9_readsStroke_3 rfl cb_6 ?_
    refine g_icmp_ge 23 8 X dX9_readsStroke_5 (by decide) rfl (fun _ => ?_) (fun _ => ?_)
    · exact g_sub [0, 1, 2, 3] rfl (J3 a1 _)
    · refine g_aload_n 9 X 0 dX9_readsStroke_8 rfl rfl rfl ?_
      refine g_iload_n 10 X 2 dX9_readsStroke_9 rfl rfl rfl ?_
      refine g_iload_n 11 X 3 dX9_readsStroke_10 rfl rfl rfl ?_
      refine g_cVi2 14 X (tX9_isWell _ _ (D) _ _ _) mfX9_isWell miX9_isWell lkX9_110 rfl rfl rfl (Nat.le_of_ble_eq_true rfl) dX9_readsStroke_11 rfl (fun r6 S7 => ?_)
      refine g_if_eq 23 17 X dX9_readsStroke_14 (by decide) rfl (fun _ => ?_) (fun _ => ?_)
      · exact g_sub [0, 1, 2, 3] rfl (J3 a1 _)
      · refine g_iinc 20 X 3 [(3, _), (0, _), (1, _), (2, _)] dX9_readsStroke_17 rfl rfl (ii_1 _) (Nat.le_of_ble_eq_true rfl) rfl ?_
        refine g_goto 2 X dX9_readsStroke_20 (by decide) ?_
        exact g_sub [1, 2, 3, 0] rfl (ih4 (a1 + (1 : Int32)) _)
def bX9_readsStrokes_9 (rec : (Int32 × Int32) → Sg → Option (((Int32 × Int32) ⊕ Int32) × Sg)) (a1 : Int32 × Int32) (S2 : Sg) : Option (((Int32 × Int32) ⊕ Int32) × Sg) :=
  gd (ix (1 : Int32) 2) ((if a1.2 < (S2.1 1 (Int32.toNatClampNeg (1 : Int32))) then bd ((if a1.1 = (8 : Int32) then some ((0 : Int32), S2) else bd (fX9_readsStroke a1.1 a1.2 S2) (fun r6 S7 => some (r6, S7)))) (fun (t3 : Int32) S4 => (if (6 : Int32) ≤ t3 then gd (ix (1 : Int32) 2) ((if (a1.2 + (6 : Int32)) = (S4.1 1 (Int32.toNatClampNeg (1 : Int32))) then some (.inr (-1 : Int32), (sI S4 0 4 (a1.1 + (1 : Int32)))) else bd (fX9_byteAt (a1.2 + (6 : Int32)) S4) (fun r8 S9 => (if r8 = (59 : Int32) then rec ((a1.1 + (1 : Int32)), ((a1.2 + (6 : Int32)) + (1 : Int32))) S9 else some (.inr (a1.2 + (6 : Int32)), S9))))) else some (.inr (a1.2 + t3), S4))) else (if a1.2 ≤ 0 then some (.inl (a1.1, a1.2), S2) else bd ((if a1.1 = (8 : Int32) then some ((0 : Int32), S2) else bd (fX9_readsStroke a1.1 a1.2 S2) (fun r13 S14 => some (r13, S14)))) (fun (t10 : Int32) S11 => (if (6 : Int32) ≤ t10 then gd (ix (1 : Int32) 2) ((if (a1.2 + (6 : Int32)) = (S11.1 1 (Int32.toNatClampNeg (1 : Int32))) then some (.inr (-1 : Int32), (sI S11 0 4 (a1.1 + (1 : Int32)))) else bd (fX9_byteAt (a1.2 + (6 : Int32)) S11) (fun r15 S16 => (if r15 = (59 : Int32) then rec ((a1.1 + (1 : Int32)), ((a1.2 + (6 : Int32)) + (1 : Int32))) S16 else some (.inr (a1.2 + (6 : Int32)), S16))))) else some (.inr (a1.2 + t10), S11))))))
def fX9_readsStrokes  (S : Sg) : Option (Int32 × Sg) :=
  bd (lp (bX9_readsStrokes_9) fl ((0 : Int32), (0 : Int32)) (sI S 0 4 (0 : Int32))) (se (fun (a20 : Int32 × Int32) S21 => some ((-1 : Int32), S21)) (fun (v : Int32) S21 => some (v, S21)))
set_option maxHeartbeats 4000000 in
set_option maxRecDepth 100000 in
theorem tX9_readsStrokes (G : Gd) (l : Launch) (D : Nat)  (S : Sg) : Ct LM G l rI yX9_readsStrokes cX9_readsStrokes 4 (some .int) (D + 3) [.ref (G.2.1 0)] S (fX9_readsStrokes  S) := by
  refine Ct.of (by decide) (Nat.le_of_ble_eq_true rfl) (fun Z hZ X => ?_)
  subst hZ
  show Go LM G Z 4 rI 0 [(0, .ref (G.2.1 0))] [] S (fX9_readsStrokes  S) kz
  unfold fX9_readsStrokes
  refine g_iconst 1 X dX9_readsStrokes_0 rfl ci_0 ?_
  refine g_istore_n 2 X [(1, _), (0, _)] dX9_readsStrokes_1 rfl rfl (Nat.le_of_ble_eq_true rfl) rfl ?_
  refine g_iconst 3 X dX9_readsStrokes_2 rfl ci_0 ?_
  refine g_istore_n 4 X [(2, _), (1, _), (0, _)] dX9_readsStrokes_3 rfl rfl (Nat.le_of_ble_eq_true rfl) rfl ?_
  refine g_aload_n 5 X 2 dX9_readsStrokes_4 rfl rfl rfl ?_
  refine g_iconst 6 X dX9_readsStrokes_5 rfl ci_0 ?_
  refine g_puti 9 X rfl flX9_114 fp_9_4 rfl dX9_readsStrokes_6 rfl ?_
  refine g_joinR 91 (fun (a20 : Int32 × Int32) => []) (fun (a20 : Int32 × Int32) => []) (fun a20 S21 => ?_) (fun J3 => ?_)
  · refine g_iconst 92 X dX9_readsStrokes_91 rfl ci_m1 ?_
    exact g_iret X dX9_readsStrokes_92 rfl
  · refine g_sub [2, 1, 0] rfl (g_lp (fun (a1 : Int32 × Int32) => [(0, .ref (G.2.1 0)), (1, .int a1.1), (2, .int a1.2)]) (fun rec5 ih4 a1 S2 => ?_) fl ((0 : Int32), (0 : Int32)) _)
    unfold bX9_readsStrokes_9
    refine g_iload_n 10 X 2 dX9_readsStrokes_9 rfl rfl rfl ?_
    refine g_aload_n 11 X 0 dX9_readsStrokes_10 rfl rfl rfl ?_
    refine g_getr 14 X 1 rfl flX9_7 rfl dX9_readsStrokes_11 rfl ?_
    refine g_iconst 15 X dX9_readsStrokes_14 rfl ci_1 ?_
    refine g_iald 16 X rfl dX9_readsStrokes_15 rfl ?_
    refine g_icmp_lt 23 19 X dX9_readsStrokes_16 (by decide) rfl (fun _ => ?_) (fun _ => ?_)
    · refine g_iload_n 24 X 1 dX9_readsStrokes_23 rfl rfl rfl ?_
      refine g_bipush 26 X dX9_readsStrokes_24 rfl cb_8 ?_
      refine g_joinK 39 (fun (t6 : Int32) => [(0, .ref (G.2.1 0)), (1, .int a1.1), (2, .int a1.2)]) (fun (t6 : Int32) => [.int t6]) (fun t6 S7 => ?_) (fun J8 => ?_)
      · refine g_istore_n 40 X [(3, _), (0, _), (1, _), (2, _)] dX9_readsStrokes_39 rfl rfl (Nat.le_of_ble_eq_true rfl) rfl ?_
        refine g_iload_n 41 X 0 dX9_readsStrokes_40 rfl rfl rfl ?_
        refine g_bipush 43 X dX9_readsStrokes_41 rfl cb_6 ?_
        refine g_icmp_ge 50 46 X dX9_readsStrokes_43 (by decide) rfl (fun _ => ?_) (fun _ => ?_)
        · refine g_iinc 53 X 2 [(1, _), (3, _), (0, _), (2, _)] dX9_readsStrokes_50 rfl rfl (ii_1 _) (Nat.le_of_ble_eq_true rfl) rfl ?_
          refine g_iinc 56 X 3 [(2, _), (1, _), (3, _), (0, _)] dX9_readsStrokes_53 rfl rfl (ii_6 _) (Nat.le_of_ble_eq_true rfl) rfl ?_
          refine g_iload_n 57 X 0 dX9_readsStrokes_56 rfl rfl rfl ?_
          refine g_aload_n 58 X 3 dX9_readsStrokes_57 rfl rfl rfl ?_
          refine g_getr 61 X 1 rfl flX9_7 rfl dX9_readsStrokes_58 rfl ?_
          refine g_iconst 62 X dX9_readsStrokes_61 rfl ci_1 ?_
          refine g_iald 63 X rfl dX9_readsStrokes_62 rfl ?_
          refine g_icmp_ne 73 66 X dX9_readsStrokes_63 (by decide) rfl (fun _ => ?_) (fun _ => ?_)
          · refine g_aload_n 74 X 3 dX9_readsStrokes_73 rfl rfl rfl ?_
            refine g_iload_n 75 X 0 dX9_readsStrokes_74 rfl rfl rfl ?_
            refine g_cVi1 78 X (tX9_byteAt _ _ (D + 2) _ _) mfX9_byteAt miX9_byteAt lkX9_106 rfl rfl rfl (Nat.le_of_ble_eq_true rfl) dX9_readsStrokes_75 rfl (fun r11 S12 => ?_)
            refine g_bipush 80 X dX9_readsStrokes_78 rfl cb_59 ?_
            refine g_icmp_eq 85 83 X dX9_readsStrokes_80 (by decide) rfl (fun _ => ?_) (fun _ => ?_)
            · refine g_iinc 88 X 0 [(2, _), (1, _), (3, _), (0, _)] dX9_readsStrokes_85 rfl rfl (ii_1 _) (Nat.le_of_ble_eq_true rfl) rfl ?_
              refine g_goto 9 X dX9_readsStrokes_88 (by decide) ?_
              exact g_sub [3, 1, 0] rfl (ih4 ((a1.1 + (1 : Int32)), ((a1.2 + (6 : Int32)) + (1 : Int32))) _)
            · refine g_iload_n 84 X 0 dX9_readsStrokes_83 rfl rfl rfl ?_
              exact g_iret X dX9_readsStrokes_84 rfl
          · refine g_aload_n 67 X 3 dX9_readsStrokes_66 rfl rfl rfl ?_
            refine g_iload_n 68 X 1 dX9_readsStrokes_67 rfl rfl rfl ?_
            refine g_puti 71 X rfl flX9_114 fp_9_4 rfl dX9_readsStrokes_68 rfl ?_
            refine g_iconst 72 X dX9_readsStrokes_71 rfl ci_m1 ?_
            exact g_iret X dX9_readsStrokes_72 rfl
        · refine g_iload_n 47 X 3 dX9_readsStrokes_46 rfl rfl rfl ?_
          refine g_iload_n 48 X 0 dX9_readsStrokes_47 rfl rfl rfl ?_
          refine g_iadd 49 X dX9_readsStrokes_48 rfl ?_
          exact g_iret X dX9_readsStrokes_49 rfl
      · refine g_icmp_ne 33 29 X dX9_readsStrokes_26 (by decide) rfl (fun _ => ?_) (fun _ => ?_)
        · refine g_aload_n 34 X 0 dX9_readsStrokes_33 rfl rfl rfl ?_
          refine g_iload_n 35 X 1 dX9_readsStrokes_34 rfl rfl rfl ?_
          refine g_iload_n 36 X 2 dX9_readsStrokes_35 rfl rfl rfl ?_
          refine g_cVi2 39 X (tX9_readsStroke _ _ (D) _ _ _) mfX9_readsStroke miX9_readsStroke lkX9_117 rfl rfl rfl (Nat.le_of_ble_eq_true rfl) dX9_readsStrokes_36 rfl (fun r9 S10 => ?_)
          exact g_sub [0, 1, 2] rfl (J8 r9 _)
        · refine g_iconst 30 X dX9_readsStrokes_29 rfl ci_0 ?_
          refine g_goto 39 X dX9_readsStrokes_30 (by decide) ?_
          exact g_sub [0, 1, 2] rfl (J8 (0 : Int32) _)
    · refine g_iload_n 20 X 2 dX9_readsStrokes_19 rfl rfl rfl ?_
      refine g_if_le 91 23 X dX9_readsStrokes_20 (by decide) rfl (fun _ => ?_) (fun _ => ?_)
      · exact g_sub [] rfl (J3 (a1.1, a1.2) _)
      · refine g_iload_n 24 X 1 dX9_readsStrokes_23 rfl rfl rfl ?_
        refine g_bipush 26 X dX9_readsStrokes_24 rfl cb_8 ?_
        refine g_joinK 39 (fun (t13 : Int32) => [(0, .ref (G.2.1 0)), (1, .int a1.1), (2, .int a1.2)]) (fun (t13 : Int32) => [.int t13]) (fun t13 S14 => ?_) (fun J15 => ?_)
        · refine g_istore_n 40 X [(3, _), (0, _), (1, _), (2, _)] dX9_readsStrokes_39 rfl rfl (Nat.le_of_ble_eq_true rfl) rfl ?_
          refine g_iload_n 41 X 0 dX9_readsStrokes_40 rfl rfl rfl ?_
          refine g_bipush 43 X dX9_readsStrokes_41 rfl cb_6 ?_
          refine g_icmp_ge 50 46 X dX9_readsStrokes_43 (by decide) rfl (fun _ => ?_) (fun _ => ?_)
          · refine g_iinc 53 X 2 [(1, _), (3, _), (0, _), (2, _)] dX9_readsStrokes_50 rfl rfl (ii_1 _) (Nat.le_of_ble_eq_true rfl) rfl ?_
            refine g_iinc 56 X 3 [(2, _), (1, _), (3, _), (0, _)] dX9_readsStrokes_53 rfl rfl (ii_6 _) (Nat.le_of_ble_eq_true rfl) rfl ?_
            refine g_iload_n 57 X 0 dX9_readsStrokes_56 rfl rfl rfl ?_
            refine g_aload_n 58 X 3 dX9_readsStrokes_57 rfl rfl rfl ?_
            refine g_getr 61 X 1 rfl flX9_7 rfl dX9_readsStrokes_58 rfl ?_
            refine g_iconst 62 X dX9_readsStrokes_61 rfl ci_1 ?_
            refine g_iald 63 X rfl dX9_readsStrokes_62 rfl ?_
            refine g_icmp_ne 73 66 X dX9_readsStrokes_63 (by decide) rfl (fun _ => ?_) (fun _ => ?_)
            · refine g_aload_n 74 X 3 dX9_readsStrokes_73 rfl rfl rfl ?_
              refine g_iload_n 75 X 0 dX9_readsStrokes_74 rfl rfl rfl ?_
              refine g_cVi1 78 X (tX9_byteAt _ _ (D + 2) _ _) mfX9_byteAt miX9_byteAt lkX9_106 rfl rfl rfl (Nat.le_of_ble_eq_true rfl) dX9_readsStrokes_75 rfl (fun r18 S19 => ?_)
              refine g_bipush 80 X dX9_readsStrokes_78 rfl cb_59 ?_
              refine g_icmp_eq 85 83 X dX9_readsStrokes_80 (by decide) rfl (fun _ => ?_) (fun _ => ?_)
              · refine g_iinc 88 X 0 [(2, _), (1, _), (3, _), (0, _)] dX9_readsStrokes_85 rfl rfl (ii_1 _) (Nat.le_of_ble_eq_true rfl) rfl ?_
                refine g_goto 9 X dX9_readsStrokes_88 (by decide) ?_
                exact g_sub [3, 1, 0] rfl (ih4 ((a1.1 + (1 : Int32)), ((a1.2 + (6 : Int32)) + (1 : Int32))) _)
              · refine g_iload_n 84 X 0 dX9_readsStrokes_83 rfl rfl rfl ?_
                exact g_iret X dX9_readsStrokes_84 rfl
            · refine g_aload_n 67 X 3 dX9_readsStrokes_66 rfl rfl rfl ?_
              refine g_iload_n 68 X 1 dX9_readsStrokes_67 rfl rfl rfl ?_
              refine g_puti 71 X rfl flX9_114 fp_9_4 rfl dX9_readsStrokes_68 rfl ?_
              refine g_iconst 72 X dX9_readsStrokes_71 rfl ci_m1 ?_
              exact g_iret X dX9_readsStrokes_72 rfl
          · refine g_iload_n 47 X 3 dX9_readsStrokes_46 rfl rfl rfl ?_
            refine g_iload_n 48 X 0 dX9_readsStrokes_47 rfl rfl rfl ?_
            refine g_iadd 49 X dX9_readsStrokes_48 rfl ?_
            exact g_iret X dX9_readsStrokes_49 rfl
        · refine g_icmp_ne 33 29 X dX9_readsStrokes_26 (by decide) rfl (fun _ => ?_) (fun _ => ?_)
          · refine g_aload_n 34 X 0 dX9_readsStrokes_33 rfl rfl rfl ?_
            refine g_iload_n 35 X 1 dX9_readsStrokes_34 rfl rfl rfl ?_
            refine g_iload_n 36 X 2 dX9_readsStrokes_35 rfl rfl rfl ?_
            refine g_cVi2 39 X (tX9_readsStroke _ _ (D) _ _ _) mfX9_readsStroke miX9_readsStroke lkX9_117 rfl rfl rfl (Nat.le_of_ble_eq_true rfl) dX9_readsStrokes_36 rfl (fun r16 S17 => ?_)
            exact g_sub [0, 1, 2] rfl (J15 r16 _)
          · refine g_iconst 30 X dX9_readsStrokes_29 rfl ci_0 ?_
            refine g_goto 39 X dX9_readsStrokes_30 (by decide) ?_
            exact g_sub [0, 1, 2] rfl (J15 (0 : Int32) _)
def fX9_faultOf (x1 : Int32) (S : Sg) : Option (Int32 × Sg) :=
  bd (fX9_readsDamps S) (fun r1 S2 => bd (fX9_readsStrokes S2) (fun r3 S4 => (if x1 = 0 then some (r1, S4) else some (r3, S4))))
set_option maxHeartbeats 4000000 in
set_option maxRecDepth 100000 in
theorem tX9_faultOf (G : Gd) (l : Launch) (D : Nat) (x1 : Int32) (S : Sg) : Ct LM G l rI yX9_faultOf cX9_faultOf 4 (some .int) (D + 4) [.ref (G.2.1 0), .int x1] S (fX9_faultOf x1 S) := by
  refine Ct.of (by decide) (Nat.le_of_ble_eq_true rfl) (fun Z hZ X => ?_)
  subst hZ
  show Go LM G Z 4 rI 0 [(0, .ref (G.2.1 0)), (1, .int x1)] [] S (fX9_faultOf x1 S) kz
  unfold fX9_faultOf
  refine g_aload_n 1 X 0 dX9_faultOf_0 rfl rfl rfl ?_
  refine g_cVi0 4 X (tX9_readsDamps _ _ (D + 2)  _) mfX9_readsDamps miX9_readsDamps lkX9_121 rfl rfl rfl (Nat.le_of_ble_eq_true rfl) dX9_faultOf_1 rfl (fun r1 S2 => ?_)
  refine g_istore_n 5 X [(2, _), (0, _), (1, _)] dX9_faultOf_4 rfl rfl (Nat.le_of_ble_eq_true rfl) rfl ?_
  refine g_aload_n 6 X 1 dX9_faultOf_5 rfl rfl rfl ?_
  refine g_cVi0 9 X (tX9_readsStrokes _ _ (D)  _) mfX9_readsStrokes miX9_readsStrokes lkX9_125 rfl rfl rfl (Nat.le_of_ble_eq_true rfl) dX9_faultOf_6 rfl (fun r3 S4 => ?_)
  refine g_istore_n 10 X [(3, _), (2, _), (0, _), (1, _)] dX9_faultOf_9 rfl rfl (Nat.le_of_ble_eq_true rfl) rfl ?_
  refine g_iload_n 11 X 3 dX9_faultOf_10 rfl rfl rfl ?_
  refine g_if_ne 18 14 X dX9_faultOf_11 (by decide) rfl (fun _ => ?_) (fun _ => ?_)
  · refine g_iload_n 19 X 0 dX9_faultOf_18 rfl rfl rfl ?_
    exact g_iret X dX9_faultOf_19 rfl
  · refine g_iload_n 15 X 1 dX9_faultOf_14 rfl rfl rfl ?_
    refine g_goto 19 X dX9_faultOf_15 (by decide) ?_
    exact g_iret X dX9_faultOf_19 rfl
def fX9_reads  (S : Sg) : Option (Unit × Sg) :=
  bd (fX9_faultOf (0 : Int32) S) (fun r1 S2 => some ((), S2))
set_option maxHeartbeats 4000000 in
set_option maxRecDepth 100000 in
theorem tX9_reads (G : Gd) (l : Launch) (D : Nat)  (S : Sg) : Ct LM G l rV yX9_reads cX9_reads 2 none (D + 5) [.ref (G.2.1 0)] S (fX9_reads  S) := by
  refine Ct.of (by decide) (Nat.le_of_ble_eq_true rfl) (fun Z hZ X => ?_)
  subst hZ
  show Go LM G Z 2 rV 0 [(0, .ref (G.2.1 0))] [] S (fX9_reads  S) kz
  unfold fX9_reads
  refine g_aload_n 1 X 0 dX9_reads_0 rfl rfl rfl ?_
  refine g_iconst 2 X dX9_reads_1 rfl ci_0 ?_
  refine g_cVi1 5 X (tX9_faultOf _ _ (D) _ _) mfX9_faultOf miX9_faultOf lkX9_128 rfl rfl rfl (Nat.le_of_ble_eq_true rfl) dX9_reads_2 rfl (fun r1 S2 => ?_)
  refine g_istore_n 6 X [(1, _), (0, _)] dX9_reads_5 rfl rfl (Nat.le_of_ble_eq_true rfl) rfl ?_
  exact g_vret X dX9_reads_6 rfl
def fX9_fault (x1 : Int32) (S : Sg) : Option (Int32 × Sg) :=
  bd (fX9_isText x1 S) (fun r1 S2 => (if r1 = 0 then some ((-2 : Int32), S2) else bd (fX9_faultOf x1 S2) (fun r3 S4 => some (r3, S4))))
set_option maxHeartbeats 4000000 in
set_option maxRecDepth 100000 in
theorem tX9_fault (G : Gd) (l : Launch) (D : Nat) (x1 : Int32) (S : Sg) : Ct LM G l rI yX9_fault cX9_fault 2 (some .int) (D + 5) [.ref (G.2.1 0), .int x1] S (fX9_fault x1 S) := by
  refine Ct.of (by decide) (Nat.le_of_ble_eq_true rfl) (fun Z hZ X => ?_)
  subst hZ
  show Go LM G Z 2 rI 0 [(0, .ref (G.2.1 0)), (1, .int x1)] [] S (fX9_fault x1 S) kz
  unfold fX9_fault
  refine g_iload_n 1 X 1 dX9_fault_0 rfl rfl rfl ?_
  refine g_cSi1 4 X (tX9_isText _ _ (D + 3) _ _) mfX9_isText msX9_isText lkX9_99 (Nat.le_of_ble_eq_true rfl) dX9_fault_1 rfl (fun r1 S2 => ?_)
  refine g_if_eq 15 7 X dX9_fault_4 (by decide) rfl (fun _ => ?_) (fun _ => ?_)
  · refine g_bipush 17 X dX9_fault_15 rfl cb_m2 ?_
    exact g_iret X dX9_fault_17 rfl
  · refine g_aload_n 8 X 0 dX9_fault_7 rfl rfl rfl ?_
    refine g_iload_n 9 X 1 dX9_fault_8 rfl rfl rfl ?_
    refine g_cVi1 12 X (tX9_faultOf _ _ (D) _ _) mfX9_faultOf miX9_faultOf lkX9_128 rfl rfl rfl (Nat.le_of_ble_eq_true rfl) dX9_fault_9 rfl (fun r3 S4 => ?_)
    refine g_goto 17 X dX9_fault_12 (by decide) ?_
    exact g_iret X dX9_fault_17 rfl
def fX9_dampOf (x1 : Int32) (S : Sg) : Option (Int32 × Sg) :=
  bd (fX9_reads S) (fun r1 S2 => gd (ix x1 20) (some ((S2.1 3 (Int32.toNatClampNeg x1)), S2)))
set_option maxHeartbeats 4000000 in
set_option maxRecDepth 100000 in
theorem tX9_dampOf (G : Gd) (l : Launch) (D : Nat) (x1 : Int32) (S : Sg) : Ct LM G l rI yX9_dampOf cX9_dampOf 2 (some .int) (D + 6) [.ref (G.2.1 0), .int x1] S (fX9_dampOf x1 S) := by
  refine Ct.of (by decide) (Nat.le_of_ble_eq_true rfl) (fun Z hZ X => ?_)
  subst hZ
  show Go LM G Z 2 rI 0 [(0, .ref (G.2.1 0)), (1, .int x1)] [] S (fX9_dampOf x1 S) kz
  unfold fX9_dampOf
  refine g_aload_n 1 X 0 dX9_dampOf_0 rfl rfl rfl ?_
  refine g_cVv0 4 X (tX9_reads _ _ (D)  _) mfX9_reads miX9_reads lkX9_131 rfl rfl rfl (Nat.le_of_ble_eq_true rfl) dX9_dampOf_1 rfl (fun r1 S2 => ?_)
  refine g_aload_n 5 X 0 dX9_dampOf_4 rfl rfl rfl ?_
  refine g_getr 8 X 3 rfl flX9_16 rfl dX9_dampOf_5 rfl ?_
  refine g_iload_n 9 X 1 dX9_dampOf_8 rfl rfl rfl ?_
  refine g_iald 10 X rfl dX9_dampOf_9 rfl ?_
  exact g_iret X dX9_dampOf_10 rfl
def fX9_damp (x1 : Int32) (S : Sg) : Option (Int32 × Sg) :=
  bd (fX9_isDay x1 S) (fun r1 S2 => (if r1 = 0 then some ((-2 : Int32), S2) else bd (fX9_dampOf x1 S2) (fun r3 S4 => some (r3, S4))))
set_option maxHeartbeats 4000000 in
set_option maxRecDepth 100000 in
theorem tX9_damp (G : Gd) (l : Launch) (D : Nat) (x1 : Int32) (S : Sg) : Ct LM G l rI yX9_damp cX9_damp 2 (some .int) (D + 7) [.ref (G.2.1 0), .int x1] S (fX9_damp x1 S) := by
  refine Ct.of (by decide) (Nat.le_of_ble_eq_true rfl) (fun Z hZ X => ?_)
  subst hZ
  show Go LM G Z 2 rI 0 [(0, .ref (G.2.1 0)), (1, .int x1)] [] S (fX9_damp x1 S) kz
  unfold fX9_damp
  refine g_iload_n 1 X 1 dX9_damp_0 rfl rfl rfl ?_
  refine g_cSi1 4 X (tX9_isDay _ _ (D + 5) _ _) mfX9_isDay msX9_isDay lkX9_134 (Nat.le_of_ble_eq_true rfl) dX9_damp_1 rfl (fun r1 S2 => ?_)
  refine g_if_eq 15 7 X dX9_damp_4 (by decide) rfl (fun _ => ?_) (fun _ => ?_)
  · refine g_bipush 17 X dX9_damp_15 rfl cb_m2 ?_
    exact g_iret X dX9_damp_17 rfl
  · refine g_aload_n 8 X 0 dX9_damp_7 rfl rfl rfl ?_
    refine g_iload_n 9 X 1 dX9_damp_8 rfl rfl rfl ?_
    refine g_cVi1 12 X (tX9_dampOf _ _ (D) _ _) mfX9_dampOf miX9_dampOf lkX9_137 rfl rfl rfl (Nat.le_of_ble_eq_true rfl) dX9_damp_9 rfl (fun r3 S4 => ?_)
    refine g_goto 17 X dX9_damp_12 (by decide) ?_
    exact g_iret X dX9_damp_17 rfl
def fX9_isStroke (x1 : Int32) (S : Sg) : Option (Int32 × Sg) :=
  bd (fX9_reads S) (fun r1 S2 => bd (fX9_in x1 (0 : Int32) ((S2.1 0 4) - (1 : Int32)) S2) (fun r3 S4 => gd (zb r3) (some (r3, S4))))
set_option maxHeartbeats 4000000 in
set_option maxRecDepth 100000 in
theorem tX9_isStroke (G : Gd) (l : Launch) (D : Nat) (x1 : Int32) (S : Sg) : Ct LM G l rI yX9_isStroke cX9_isStroke 2 (some .boolean) (D + 6) [.ref (G.2.1 0), .int x1] S (fX9_isStroke x1 S) := by
  refine Ct.of (by decide) (Nat.le_of_ble_eq_true rfl) (fun Z hZ X => ?_)
  subst hZ
  show Go LM G Z 2 rI 0 [(0, .ref (G.2.1 0)), (1, .int x1)] [] S (fX9_isStroke x1 S) kz
  unfold fX9_isStroke
  refine g_aload_n 1 X 0 dX9_isStroke_0 rfl rfl rfl ?_
  refine g_cVv0 4 X (tX9_reads _ _ (D)  _) mfX9_reads miX9_reads lkX9_131 rfl rfl rfl (Nat.le_of_ble_eq_true rfl) dX9_isStroke_1 rfl (fun r1 S2 => ?_)
  refine g_iload_n 5 X 1 dX9_isStroke_4 rfl rfl rfl ?_
  refine g_iconst 6 X dX9_isStroke_5 rfl ci_0 ?_
  refine g_aload_n 7 X 0 dX9_isStroke_6 rfl rfl rfl ?_
  refine g_geti 10 X rfl flX9_114 rfl dX9_isStroke_7 rfl ?_
  refine g_iconst 11 X dX9_isStroke_10 rfl ci_1 ?_
  refine g_isub 12 X dX9_isStroke_11 rfl ?_
  refine g_cSi3 15 X (tX9_in _ _ (D + 5) _ _ _ _) mfX9_in msX9_in lkX9_95 (Nat.le_of_ble_eq_true rfl) dX9_isStroke_12 rfl (fun r3 S4 => ?_)
  exact g_gd (fun hz => g_zret X dX9_isStroke_15 hz rfl)
def fX9_strokeOf (x1 : Int32) (x2 : Int32) (S : Sg) : Option (Int32 × Sg) :=
  (if x2 = 0 then gd (ix x1 9) (some ((S.1 4 (Int32.toNatClampNeg x1)), S)) else (if x2 = (1 : Int32) then gd (ix x1 9) (some ((S.1 5 (Int32.toNatClampNeg x1)), S)) else (if x2 = (2 : Int32) then gd (ix x1 9) (some ((S.1 6 (Int32.toNatClampNeg x1)), S)) else gd (ix x1 9) (some ((S.1 7 (Int32.toNatClampNeg x1)), S)))))
set_option maxHeartbeats 4000000 in
set_option maxRecDepth 100000 in
theorem tX9_strokeOf (G : Gd) (l : Launch) (D : Nat) (x1 : Int32) (x2 : Int32) (S : Sg) : Ct LM G l rI yX9_strokeOf cX9_strokeOf 3 (some .int) (D + 0) [.ref (G.2.1 0), .int x1, .int x2] S (fX9_strokeOf x1 x2 S) := by
  refine Ct.of (by decide) (Nat.le_of_ble_eq_true rfl) (fun Z hZ X => ?_)
  subst hZ
  show Go LM G Z 3 rI 0 [(0, .ref (G.2.1 0)), (1, .int x1), (2, .int x2)] [] S (fX9_strokeOf x1 x2 S) kz
  unfold fX9_strokeOf
  refine g_iload_n 1 X 2 dX9_strokeOf_0 rfl rfl rfl ?_
  refine g_if_ne 13 4 X dX9_strokeOf_1 (by decide) rfl (fun _ => ?_) (fun _ => ?_)
  · refine g_iload_n 14 X 2 dX9_strokeOf_13 rfl rfl rfl ?_
    refine g_iconst 15 X dX9_strokeOf_14 rfl ci_1 ?_
    refine g_icmp_ne 27 18 X dX9_strokeOf_15 (by decide) rfl (fun _ => ?_) (fun _ => ?_)
    · refine g_iload_n 28 X 2 dX9_strokeOf_27 rfl rfl rfl ?_
      refine g_iconst 29 X dX9_strokeOf_28 rfl ci_2 ?_
      refine g_icmp_ne 41 32 X dX9_strokeOf_29 (by decide) rfl (fun _ => ?_) (fun _ => ?_)
      · refine g_aload_n 42 X 0 dX9_strokeOf_41 rfl rfl rfl ?_
        refine g_getr 45 X 7 rfl flX9_28 rfl dX9_strokeOf_42 rfl ?_
        refine g_iload_n 46 X 1 dX9_strokeOf_45 rfl rfl rfl ?_
        refine g_iald 47 X rfl dX9_strokeOf_46 rfl ?_
        exact g_iret X dX9_strokeOf_47 rfl
      · refine g_aload_n 33 X 0 dX9_strokeOf_32 rfl rfl rfl ?_
        refine g_getr 36 X 6 rfl flX9_25 rfl dX9_strokeOf_33 rfl ?_
        refine g_iload_n 37 X 1 dX9_strokeOf_36 rfl rfl rfl ?_
        refine g_iald 38 X rfl dX9_strokeOf_37 rfl ?_
        refine g_goto 47 X dX9_strokeOf_38 (by decide) ?_
        exact g_iret X dX9_strokeOf_47 rfl
    · refine g_aload_n 19 X 0 dX9_strokeOf_18 rfl rfl rfl ?_
      refine g_getr 22 X 5 rfl flX9_22 rfl dX9_strokeOf_19 rfl ?_
      refine g_iload_n 23 X 1 dX9_strokeOf_22 rfl rfl rfl ?_
      refine g_iald 24 X rfl dX9_strokeOf_23 rfl ?_
      refine g_goto 47 X dX9_strokeOf_24 (by decide) ?_
      exact g_iret X dX9_strokeOf_47 rfl
  · refine g_aload_n 5 X 0 dX9_strokeOf_4 rfl rfl rfl ?_
    refine g_getr 8 X 4 rfl flX9_19 rfl dX9_strokeOf_5 rfl ?_
    refine g_iload_n 9 X 1 dX9_strokeOf_8 rfl rfl rfl ?_
    refine g_iald 10 X rfl dX9_strokeOf_9 rfl ?_
    refine g_goto 47 X dX9_strokeOf_10 (by decide) ?_
    exact g_iret X dX9_strokeOf_47 rfl
def fX9_stroke (x1 : Int32) (x2 : Int32) (S : Sg) : Option (Int32 × Sg) :=
  bd (fX9_isStroke x1 S) (fun r1 S2 => (if r1 = 0 then some ((-2 : Int32), S2) else bd (fX9_in x2 (0 : Int32) (3 : Int32) S2) (fun r3 S4 => (if r3 = 0 then some ((-2 : Int32), S4) else bd (fX9_strokeOf x1 x2 S4) (fun r5 S6 => some (r5, S6))))))
set_option maxHeartbeats 4000000 in
set_option maxRecDepth 100000 in
theorem tX9_stroke (G : Gd) (l : Launch) (D : Nat) (x1 : Int32) (x2 : Int32) (S : Sg) : Ct LM G l rI yX9_stroke cX9_stroke 3 (some .int) (D + 7) [.ref (G.2.1 0), .int x1, .int x2] S (fX9_stroke x1 x2 S) := by
  refine Ct.of (by decide) (Nat.le_of_ble_eq_true rfl) (fun Z hZ X => ?_)
  subst hZ
  show Go LM G Z 3 rI 0 [(0, .ref (G.2.1 0)), (1, .int x1), (2, .int x2)] [] S (fX9_stroke x1 x2 S) kz
  unfold fX9_stroke
  refine g_aload_n 1 X 0 dX9_stroke_0 rfl rfl rfl ?_
  refine g_iload_n 2 X 1 dX9_stroke_1 rfl rfl rfl ?_
  refine g_cVi1 5 X (tX9_isStroke _ _ (D) _ _) mfX9_isStroke miX9_isStroke lkX9_140 rfl rfl rfl (Nat.le_of_ble_eq_true rfl) dX9_stroke_2 rfl (fun r1 S2 => ?_)
  refine g_if_eq 26 8 X dX9_stroke_5 (by decide) rfl (fun _ => ?_) (fun _ => ?_)
  · refine g_bipush 28 X dX9_stroke_26 rfl cb_m2 ?_
    exact g_iret X dX9_stroke_28 rfl
  · refine g_iload_n 9 X 2 dX9_stroke_8 rfl rfl rfl ?_
    refine g_iconst 10 X dX9_stroke_9 rfl ci_0 ?_
    refine g_iconst 11 X dX9_stroke_10 rfl ci_3 ?_
    refine g_cSi3 14 X (tX9_in _ _ (D + 6) _ _ _ _) mfX9_in msX9_in lkX9_95 (Nat.le_of_ble_eq_true rfl) dX9_stroke_11 rfl (fun r3 S4 => ?_)
    refine g_if_eq 26 17 X dX9_stroke_14 (by decide) rfl (fun _ => ?_) (fun _ => ?_)
    · refine g_bipush 28 X dX9_stroke_26 rfl cb_m2 ?_
      exact g_iret X dX9_stroke_28 rfl
    · refine g_aload_n 18 X 0 dX9_stroke_17 rfl rfl rfl ?_
      refine g_iload_n 19 X 1 dX9_stroke_18 rfl rfl rfl ?_
      refine g_iload_n 20 X 2 dX9_stroke_19 rfl rfl rfl ?_
      refine g_cVi2 23 X (tX9_strokeOf _ _ (D + 6) _ _ _) mfX9_strokeOf miX9_strokeOf lkX9_143 rfl rfl rfl (Nat.le_of_ble_eq_true rfl) dX9_stroke_20 rfl (fun r5 S6 => ?_)
      refine g_goto 28 X dX9_stroke_23 (by decide) ?_
      exact g_iret X dX9_stroke_28 rfl
def fX9_fine (x1 : Int32) (S : Sg) : Option (Int32 × Sg) :=
  bd (fX9_in x1 (0 : Int32) (9 : Int32) S) (fun r1 S2 => (if r1 = 0 then some ((-2 : Int32), S2) else some ((S2.1 0 9), (sI S2 0 9 x1))))
set_option maxHeartbeats 4000000 in
set_option maxRecDepth 100000 in
theorem tX9_fine (G : Gd) (l : Launch) (D : Nat) (x1 : Int32) (S : Sg) : Ct LM G l rI yX9_fine cX9_fine 3 (some .int) (D + 1) [.ref (G.2.1 0), .int x1] S (fX9_fine x1 S) := by
  refine Ct.of (by decide) (Nat.le_of_ble_eq_true rfl) (fun Z hZ X => ?_)
  subst hZ
  show Go LM G Z 3 rI 0 [(0, .ref (G.2.1 0)), (1, .int x1)] [] S (fX9_fine x1 S) kz
  unfold fX9_fine
  refine g_iload_n 1 X 1 dX9_fine_0 rfl rfl rfl ?_
  refine g_iconst 2 X dX9_fine_1 rfl ci_0 ?_
  refine g_bipush 4 X dX9_fine_2 rfl cb_9 ?_
  refine g_cSi3 7 X (tX9_in _ _ (D) _ _ _ _) mfX9_in msX9_in lkX9_95 (Nat.le_of_ble_eq_true rfl) dX9_fine_4 rfl (fun r1 S2 => ?_)
  refine g_if_ne 13 10 X dX9_fine_7 (by decide) rfl (fun _ => ?_) (fun _ => ?_)
  · refine g_aload_n 14 X 0 dX9_fine_13 rfl rfl rfl ?_
    refine g_geti 17 X rfl flX9_89 rfl dX9_fine_14 rfl ?_
    refine g_istore_n 18 X [(2, _), (0, _), (1, _)] dX9_fine_17 rfl rfl (Nat.le_of_ble_eq_true rfl) rfl ?_
    refine g_aload_n 19 X 1 dX9_fine_18 rfl rfl rfl ?_
    refine g_iload_n 20 X 2 dX9_fine_19 rfl rfl rfl ?_
    refine g_puti 23 X rfl flX9_89 fp_9_9 rfl dX9_fine_20 rfl ?_
    refine g_iload_n 24 X 0 dX9_fine_23 rfl rfl rfl ?_
    exact g_iret X dX9_fine_24 rfl
  · refine g_bipush 12 X dX9_fine_10 rfl cb_m2 ?_
    exact g_iret X dX9_fine_12 rfl
def fX9_clean (x1 : Int32) (x2 : Int32) (S : Sg) : Option (Int32 × Sg) :=
  bd (fX9_isDay x1 S) (fun r1 S2 => (if r1 = 0 then some ((-2 : Int32), S2) else bd (fX9_in x2 (0 : Int32) (5 : Int32) S2) (fun r3 S4 => (if r3 = 0 then some ((-2 : Int32), S4) else (if (S4.1 0 10) = (8 : Int32) then some ((-4 : Int32), S4) else gd (ix (S4.1 0 10) 8) (gd (ix ((sI S4 8 (Int32.toNatClampNeg (S4.1 0 10)) x1).1 0 10) 8) (some (((sI (sI (sI S4 8 (Int32.toNatClampNeg (S4.1 0 10)) x1) 9 (Int32.toNatClampNeg ((sI S4 8 (Int32.toNatClampNeg (S4.1 0 10)) x1).1 0 10)) x2) 0 10 (((sI (sI S4 8 (Int32.toNatClampNeg (S4.1 0 10)) x1) 9 (Int32.toNatClampNeg ((sI S4 8 (Int32.toNatClampNeg (S4.1 0 10)) x1).1 0 10)) x2).1 0 10) + (1 : Int32))).1 0 10), (sI (sI (sI S4 8 (Int32.toNatClampNeg (S4.1 0 10)) x1) 9 (Int32.toNatClampNeg ((sI S4 8 (Int32.toNatClampNeg (S4.1 0 10)) x1).1 0 10)) x2) 0 10 (((sI (sI S4 8 (Int32.toNatClampNeg (S4.1 0 10)) x1) 9 (Int32.toNatClampNeg ((sI S4 8 (Int32.toNatClampNeg (S4.1 0 10)) x1).1 0 10)) x2).1 0 10) + (1 : Int32)))))))))))
set_option maxHeartbeats 4000000 in
set_option maxRecDepth 100000 in
theorem tX9_clean (G : Gd) (l : Launch) (D : Nat) (x1 : Int32) (x2 : Int32) (S : Sg) : Ct LM G l rI yX9_clean cX9_clean 3 (some .int) (D + 2) [.ref (G.2.1 0), .int x1, .int x2] S (fX9_clean x1 x2 S) := by
  refine Ct.of (by decide) (Nat.le_of_ble_eq_true rfl) (fun Z hZ X => ?_)
  subst hZ
  show Go LM G Z 3 rI 0 [(0, .ref (G.2.1 0)), (1, .int x1), (2, .int x2)] [] S (fX9_clean x1 x2 S) kz
  unfold fX9_clean
  refine g_iload_n 1 X 1 dX9_clean_0 rfl rfl rfl ?_
  refine g_cSi1 4 X (tX9_isDay _ _ (D) _ _) mfX9_isDay msX9_isDay lkX9_134 (Nat.le_of_ble_eq_true rfl) dX9_clean_1 rfl (fun r1 S2 => ?_)
  refine g_if_eq 16 7 X dX9_clean_4 (by decide) rfl (fun _ => ?_) (fun _ => ?_)
  · refine g_bipush 18 X dX9_clean_16 rfl cb_m2 ?_
    exact g_iret X dX9_clean_18 rfl
  · refine g_iload_n 8 X 2 dX9_clean_7 rfl rfl rfl ?_
    refine g_iconst 9 X dX9_clean_8 rfl ci_0 ?_
    refine g_iconst 10 X dX9_clean_9 rfl ci_5 ?_
    refine g_cSi3 13 X (tX9_in _ _ (D + 1) _ _ _ _) mfX9_in msX9_in lkX9_95 (Nat.le_of_ble_eq_true rfl) dX9_clean_10 rfl (fun r3 S4 => ?_)
    refine g_if_ne 19 16 X dX9_clean_13 (by decide) rfl (fun _ => ?_) (fun _ => ?_)
    · refine g_aload_n 20 X 0 dX9_clean_19 rfl rfl rfl ?_
      refine g_geti 23 X rfl flX9_146 rfl dX9_clean_20 rfl ?_
      refine g_bipush 25 X dX9_clean_23 rfl cb_8 ?_
      refine g_icmp_ne 31 28 X dX9_clean_25 (by decide) rfl (fun _ => ?_) (fun _ => ?_)
      · refine g_aload_n 32 X 0 dX9_clean_31 rfl rfl rfl ?_
        refine g_getr 35 X 8 rfl flX9_31 rfl dX9_clean_32 rfl ?_
        refine g_aload_n 36 X 0 dX9_clean_35 rfl rfl rfl ?_
        refine g_geti 39 X rfl flX9_146 rfl dX9_clean_36 rfl ?_
        refine g_iload_n 40 X 1 dX9_clean_39 rfl rfl rfl ?_
        refine g_iast 41 X rfl dX9_clean_40 rfl ?_
        refine g_aload_n 42 X 0 dX9_clean_41 rfl rfl rfl ?_
        refine g_getr 45 X 9 rfl flX9_34 rfl dX9_clean_42 rfl ?_
        refine g_aload_n 46 X 0 dX9_clean_45 rfl rfl rfl ?_
        refine g_geti 49 X rfl flX9_146 rfl dX9_clean_46 rfl ?_
        refine g_iload_n 50 X 2 dX9_clean_49 rfl rfl rfl ?_
        refine g_iast 51 X rfl dX9_clean_50 rfl ?_
        refine g_aload_n 52 X 0 dX9_clean_51 rfl rfl rfl ?_
        refine g_dup 53 X dX9_clean_52 rfl rfl ?_
        refine g_geti 56 X rfl flX9_146 rfl dX9_clean_53 rfl ?_
        refine g_iconst 57 X dX9_clean_56 rfl ci_1 ?_
        refine g_iadd 58 X dX9_clean_57 rfl ?_
        refine g_puti 61 X rfl flX9_146 fp_9_10 rfl dX9_clean_58 rfl ?_
        refine g_aload_n 62 X 0 dX9_clean_61 rfl rfl rfl ?_
        refine g_geti 65 X rfl flX9_146 rfl dX9_clean_62 rfl ?_
        exact g_iret X dX9_clean_65 rfl
      · refine g_bipush 30 X dX9_clean_28 rfl cb_m4 ?_
        exact g_iret X dX9_clean_30 rfl
    · refine g_bipush 18 X dX9_clean_16 rfl cb_m2 ?_
      exact g_iret X dX9_clean_18 rfl
def fX9_grease (x1 : Int32) (x2 : Int32) (S : Sg) : Option (Int32 × Sg) :=
  bd (fX9_isDay x1 S) (fun r1 S2 => (if r1 = 0 then some ((-2 : Int32), S2) else bd (fX9_in x2 (0 : Int32) (5 : Int32) S2) (fun r3 S4 => (if r3 = 0 then some ((-2 : Int32), S4) else (if (S4.1 0 13) = (4 : Int32) then some ((-4 : Int32), S4) else gd (ix (S4.1 0 13) 4) (gd (ix ((sI S4 10 (Int32.toNatClampNeg (S4.1 0 13)) x1).1 0 13) 4) (some (((sI (sI (sI S4 10 (Int32.toNatClampNeg (S4.1 0 13)) x1) 11 (Int32.toNatClampNeg ((sI S4 10 (Int32.toNatClampNeg (S4.1 0 13)) x1).1 0 13)) x2) 0 13 (((sI (sI S4 10 (Int32.toNatClampNeg (S4.1 0 13)) x1) 11 (Int32.toNatClampNeg ((sI S4 10 (Int32.toNatClampNeg (S4.1 0 13)) x1).1 0 13)) x2).1 0 13) + (1 : Int32))).1 0 13), (sI (sI (sI S4 10 (Int32.toNatClampNeg (S4.1 0 13)) x1) 11 (Int32.toNatClampNeg ((sI S4 10 (Int32.toNatClampNeg (S4.1 0 13)) x1).1 0 13)) x2) 0 13 (((sI (sI S4 10 (Int32.toNatClampNeg (S4.1 0 13)) x1) 11 (Int32.toNatClampNeg ((sI S4 10 (Int32.toNatClampNeg (S4.1 0 13)) x1).1 0 13)) x2).1 0 13) + (1 : Int32)))))))))))
set_option maxHeartbeats 4000000 in
set_option maxRecDepth 100000 in
theorem tX9_grease (G : Gd) (l : Launch) (D : Nat) (x1 : Int32) (x2 : Int32) (S : Sg) : Ct LM G l rI yX9_grease cX9_grease 3 (some .int) (D + 2) [.ref (G.2.1 0), .int x1, .int x2] S (fX9_grease x1 x2 S) := by
  refine Ct.of (by decide) (Nat.le_of_ble_eq_true rfl) (fun Z hZ X => ?_)
  subst hZ
  show Go LM G Z 3 rI 0 [(0, .ref (G.2.1 0)), (1, .int x1), (2, .int x2)] [] S (fX9_grease x1 x2 S) kz
  unfold fX9_grease
  refine g_iload_n 1 X 1 dX9_grease_0 rfl rfl rfl ?_
  refine g_cSi1 4 X (tX9_isDay _ _ (D) _ _) mfX9_isDay msX9_isDay lkX9_134 (Nat.le_of_ble_eq_true rfl) dX9_grease_1 rfl (fun r1 S2 => ?_)
  refine g_if_eq 16 7 X dX9_grease_4 (by decide) rfl (fun _ => ?_) (fun _ => ?_)
  · refine g_bipush 18 X dX9_grease_16 rfl cb_m2 ?_
    exact g_iret X dX9_grease_18 rfl
  · refine g_iload_n 8 X 2 dX9_grease_7 rfl rfl rfl ?_
    refine g_iconst 9 X dX9_grease_8 rfl ci_0 ?_
    refine g_iconst 10 X dX9_grease_9 rfl ci_5 ?_
    refine g_cSi3 13 X (tX9_in _ _ (D + 1) _ _ _ _) mfX9_in msX9_in lkX9_95 (Nat.le_of_ble_eq_true rfl) dX9_grease_10 rfl (fun r3 S4 => ?_)
    refine g_if_ne 19 16 X dX9_grease_13 (by decide) rfl (fun _ => ?_) (fun _ => ?_)
    · refine g_aload_n 20 X 0 dX9_grease_19 rfl rfl rfl ?_
      refine g_geti 23 X rfl flX9_149 rfl dX9_grease_20 rfl ?_
      refine g_iconst 24 X dX9_grease_23 rfl ci_4 ?_
      refine g_icmp_ne 30 27 X dX9_grease_24 (by decide) rfl (fun _ => ?_) (fun _ => ?_)
      · refine g_aload_n 31 X 0 dX9_grease_30 rfl rfl rfl ?_
        refine g_getr 34 X 10 rfl flX9_37 rfl dX9_grease_31 rfl ?_
        refine g_aload_n 35 X 0 dX9_grease_34 rfl rfl rfl ?_
        refine g_geti 38 X rfl flX9_149 rfl dX9_grease_35 rfl ?_
        refine g_iload_n 39 X 1 dX9_grease_38 rfl rfl rfl ?_
        refine g_iast 40 X rfl dX9_grease_39 rfl ?_
        refine g_aload_n 41 X 0 dX9_grease_40 rfl rfl rfl ?_
        refine g_getr 44 X 11 rfl flX9_40 rfl dX9_grease_41 rfl ?_
        refine g_aload_n 45 X 0 dX9_grease_44 rfl rfl rfl ?_
        refine g_geti 48 X rfl flX9_149 rfl dX9_grease_45 rfl ?_
        refine g_iload_n 49 X 2 dX9_grease_48 rfl rfl rfl ?_
        refine g_iast 50 X rfl dX9_grease_49 rfl ?_
        refine g_aload_n 51 X 0 dX9_grease_50 rfl rfl rfl ?_
        refine g_dup 52 X dX9_grease_51 rfl rfl ?_
        refine g_geti 55 X rfl flX9_149 rfl dX9_grease_52 rfl ?_
        refine g_iconst 56 X dX9_grease_55 rfl ci_1 ?_
        refine g_iadd 57 X dX9_grease_56 rfl ?_
        refine g_puti 60 X rfl flX9_149 fp_9_13 rfl dX9_grease_57 rfl ?_
        refine g_aload_n 61 X 0 dX9_grease_60 rfl rfl rfl ?_
        refine g_geti 64 X rfl flX9_149 rfl dX9_grease_61 rfl ?_
        exact g_iret X dX9_grease_64 rfl
      · refine g_bipush 29 X dX9_grease_27 rfl cb_m4 ?_
        exact g_iret X dX9_grease_29 rfl
    · refine g_bipush 18 X dX9_grease_16 rfl cb_m2 ?_
      exact g_iret X dX9_grease_18 rfl
def fX9_back (x1 : Int32) (S : Sg) : Option (Int32 × Sg) :=
  bd (fX9_in x1 (0 : Int32) (1 : Int32) S) (fun r1 S2 => (if r1 = 0 then some ((-2 : Int32), S2) else bd ((if x1 = 0 then some ((S2.1 0 10), S2) else some ((S2.1 0 13), S2))) (fun (t3 : Int32) S4 => (if t3 = 0 then some ((-3 : Int32), S4) else bd ((if x1 = 0 then some ((1 : Int32), S4) else some ((0 : Int32), S4))) (fun (t6 : Int32) S7 => bd ((if x1 = (1 : Int32) then some ((1 : Int32), (sI S7 0 10 ((S4.1 0 10) - t6))) else some ((0 : Int32), (sI S7 0 10 ((S4.1 0 10) - t6))))) (fun (t9 : Int32) S10 => some ((t3 - (1 : Int32)), (sI S10 0 13 (((sI S7 0 10 ((S4.1 0 10) - t6)).1 0 13) - t9)))))))))
set_option maxHeartbeats 4000000 in
set_option maxRecDepth 100000 in
theorem tX9_back (G : Gd) (l : Launch) (D : Nat) (x1 : Int32) (S : Sg) : Ct LM G l rI yX9_back cX9_back 3 (some .int) (D + 1) [.ref (G.2.1 0), .int x1] S (fX9_back x1 S) := by
  refine Ct.of (by decide) (Nat.le_of_ble_eq_true rfl) (fun Z hZ X => ?_)
  subst hZ
  show Go LM G Z 3 rI 0 [(0, .ref (G.2.1 0)), (1, .int x1)] [] S (fX9_back x1 S) kz
  unfold fX9_back
  refine g_iload_n 1 X 1 dX9_back_0 rfl rfl rfl ?_
  refine g_iconst 2 X dX9_back_1 rfl ci_0 ?_
  refine g_iconst 3 X dX9_back_2 rfl ci_1 ?_
  refine g_cSi3 6 X (tX9_in _ _ (D) _ _ _ _) mfX9_in msX9_in lkX9_95 (Nat.le_of_ble_eq_true rfl) dX9_back_3 rfl (fun r1 S2 => ?_)
  refine g_if_ne 12 9 X dX9_back_6 (by decide) rfl (fun _ => ?_) (fun _ => ?_)
  · refine g_iload_n 13 X 1 dX9_back_12 rfl rfl rfl ?_
    refine g_joinK 27 (fun (t3 : Int32) => [(0, .ref (G.2.1 0)), (1, .int x1)]) (fun (t3 : Int32) => [.int t3]) (fun t3 S4 => ?_) (fun J5 => ?_)
    · refine g_istore_n 28 X [(2, _), (0, _), (1, _)] dX9_back_27 rfl rfl (Nat.le_of_ble_eq_true rfl) rfl ?_
      refine g_iload_n 29 X 0 dX9_back_28 rfl rfl rfl ?_
      refine g_if_ne 35 32 X dX9_back_29 (by decide) rfl (fun _ => ?_) (fun _ => ?_)
      · refine g_aload_n 36 X 1 dX9_back_35 rfl rfl rfl ?_
        refine g_dup 37 X dX9_back_36 rfl rfl ?_
        refine g_geti 40 X rfl flX9_146 rfl dX9_back_37 rfl ?_
        refine g_iload_n 41 X 2 dX9_back_40 rfl rfl rfl ?_
        refine g_joinK 49 (fun (t6 : Int32) => [(0, .ref (G.2.1 0)), (1, .int x1), (2, .int t3)]) (fun (t6 : Int32) => [.int t6, .int (S4.1 0 10), .ref (G.2.1 0)]) (fun t6 S7 => ?_) (fun J8 => ?_)
        · refine g_isub 50 X dX9_back_49 rfl ?_
          refine g_puti 53 X rfl flX9_146 fp_9_10 rfl dX9_back_50 rfl ?_
          refine g_aload_n 54 X 0 dX9_back_53 rfl rfl rfl ?_
          refine g_dup 55 X dX9_back_54 rfl rfl ?_
          refine g_geti 58 X rfl flX9_149 rfl dX9_back_55 rfl ?_
          refine g_iload_n 59 X 1 dX9_back_58 rfl rfl rfl ?_
          refine g_iconst 60 X dX9_back_59 rfl ci_1 ?_
          refine g_joinK 68 (fun (t9 : Int32) => [(2, .int t3)]) (fun (t9 : Int32) => [.int t9, .int ((sI S7 0 10 ((S4.1 0 10) - t6)).1 0 13), .ref (G.2.1 0)]) (fun t9 S10 => ?_) (fun J11 => ?_)
          · refine g_isub 69 X dX9_back_68 rfl ?_
            refine g_puti 72 X rfl flX9_149 fp_9_13 rfl dX9_back_69 rfl ?_
            refine g_iload_n 73 X 0 dX9_back_72 rfl rfl rfl ?_
            refine g_iconst 74 X dX9_back_73 rfl ci_1 ?_
            refine g_isub 75 X dX9_back_74 rfl ?_
            exact g_iret X dX9_back_75 rfl
          · refine g_icmp_ne 67 63 X dX9_back_60 (by decide) rfl (fun _ => ?_) (fun _ => ?_)
            · refine g_iconst 68 X dX9_back_67 rfl ci_0 ?_
              exact g_sub [2] rfl (J11 (0 : Int32) _)
            · refine g_iconst 64 X dX9_back_63 rfl ci_1 ?_
              refine g_goto 68 X dX9_back_64 (by decide) ?_
              exact g_sub [2] rfl (J11 (1 : Int32) _)
        · refine g_if_ne 48 44 X dX9_back_41 (by decide) rfl (fun _ => ?_) (fun _ => ?_)
          · refine g_iconst 49 X dX9_back_48 rfl ci_0 ?_
            exact g_sub [1, 2, 0] rfl (J8 (0 : Int32) _)
          · refine g_iconst 45 X dX9_back_44 rfl ci_1 ?_
            refine g_goto 49 X dX9_back_45 (by decide) ?_
            exact g_sub [1, 2, 0] rfl (J8 (1 : Int32) _)
      · refine g_bipush 34 X dX9_back_32 rfl cb_m3 ?_
        exact g_iret X dX9_back_34 rfl
    · refine g_if_ne 23 16 X dX9_back_13 (by decide) rfl (fun _ => ?_) (fun _ => ?_)
      · refine g_aload_n 24 X 0 dX9_back_23 rfl rfl rfl ?_
        refine g_geti 27 X rfl flX9_149 rfl dX9_back_24 rfl ?_
        exact g_sub [0, 1] rfl (J5 (S2.1 0 13) _)
      · refine g_aload_n 17 X 0 dX9_back_16 rfl rfl rfl ?_
        refine g_geti 20 X rfl flX9_146 rfl dX9_back_17 rfl ?_
        refine g_goto 27 X dX9_back_20 (by decide) ?_
        exact g_sub [0, 1] rfl (J5 (S2.1 0 10) _)
  · refine g_bipush 11 X dX9_back_9 rfl cb_m2 ?_
    exact g_iret X dX9_back_11 rfl
def fX9_isSheet (x0 : Int32) (S : Sg) : Option (Int32 × Sg) :=
  bd (fX9_in x0 (0 : Int32) (3 : Int32) S) (fun r1 S2 => gd (zb r1) (some (r1, S2)))
set_option maxHeartbeats 4000000 in
set_option maxRecDepth 100000 in
theorem tX9_isSheet (G : Gd) (l : Launch) (D : Nat) (x0 : Int32) (S : Sg) : Ct LM G l rI yX9_isSheet cX9_isSheet 1 (some .boolean) (D + 1) [.int x0] S (fX9_isSheet x0 S) := by
  refine Ct.of (by decide) (Nat.le_of_ble_eq_true rfl) (fun Z hZ X => ?_)
  subst hZ
  show Go LM G Z 1 rI 0 [(0, .int x0)] [] S (fX9_isSheet x0 S) kz
  unfold fX9_isSheet
  refine g_iload_n 1 X 0 dX9_isSheet_0 rfl rfl rfl ?_
  refine g_iconst 2 X dX9_isSheet_1 rfl ci_0 ?_
  refine g_iconst 3 X dX9_isSheet_2 rfl ci_3 ?_
  refine g_cSi3 6 X (tX9_in _ _ (D) _ _ _ _) mfX9_in msX9_in lkX9_95 (Nat.le_of_ble_eq_true rfl) dX9_isSheet_3 rfl (fun r1 S2 => ?_)
  exact g_gd (fun hz => g_zret X dX9_isSheet_6 hz rfl)
def fX9_meets (x1 : Int32) (S : Sg) : Option (Int32 × Sg) :=
  some (((-10 : Int32) - x1), (sI S 0 35 x1))
set_option maxHeartbeats 4000000 in
set_option maxRecDepth 100000 in
theorem tX9_meets (G : Gd) (l : Launch) (D : Nat) (x1 : Int32) (S : Sg) : Ct LM G l rI yX9_meets cX9_meets 2 (some .int) (D + 0) [.ref (G.2.1 0), .int x1] S (fX9_meets x1 S) := by
  refine Ct.of (by decide) (Nat.le_of_ble_eq_true rfl) (fun Z hZ X => ?_)
  subst hZ
  show Go LM G Z 2 rI 0 [(0, .ref (G.2.1 0)), (1, .int x1)] [] S (fX9_meets x1 S) kz
  unfold fX9_meets
  refine g_aload_n 1 X 0 dX9_meets_0 rfl rfl rfl ?_
  refine g_iload_n 2 X 1 dX9_meets_1 rfl rfl rfl ?_
  refine g_puti 5 X rfl flX9_282 fp_9_35 rfl dX9_meets_2 rfl ?_
  refine g_bipush 7 X dX9_meets_5 rfl cb_m10 ?_
  refine g_iload_n 8 X 1 dX9_meets_7 rfl rfl rfl ?_
  refine g_isub 9 X dX9_meets_8 rfl ?_
  exact g_iret X dX9_meets_9 rfl
def bX9_read_27 (c1 : Int32) (rec : Int32 → Sg → Option ((Int32) × Sg)) (a3 : Int32) (S4 : Sg) : Option ((Int32) × Sg) :=
  gd (ix c1 4) ((if (S4.1 24 (Int32.toNatClampNeg c1)) ≤ (((2 : Int32) * a3) + (1 : Int32)) then some (a3, S4) else gd (ix (((60 : Int32) * c1) + ((2 : Int32) * a3)) 240) (gd (ix ((((60 : Int32) * c1) + ((2 : Int32) * a3)) + (1 : Int32)) 240) (bd (fX9_clean (S4.1 25 (Int32.toNatClampNeg (((60 : Int32) * c1) + ((2 : Int32) * a3)))) (S4.1 25 (Int32.toNatClampNeg ((((60 : Int32) * c1) + ((2 : Int32) * a3)) + (1 : Int32)))) S4) (fun r5 S6 => (if r5 ≤ 0 then some (a3, S6) else rec (a3 + (1 : Int32)) S6))))))
def fX9_read (x1 : Int32) (S : Sg) : Option (Int32 × Sg) :=
  bd (fX9_isSheet x1 S) (fun r1 S2 => (if r1 = 0 then some ((-2 : Int32), S2) else gd (ix x1 4) ((if (S2.1 22 (Int32.toNatClampNeg x1)) = 0 then bd (fX9_meets (1 : Int32) S2) (fun r12 S13 => some (r12, S13)) else bd (lp (bX9_read_27 x1) fl (0 : Int32) S2) (fun (a10 : Int32) S11 => some (a10, S11))))))
set_option maxHeartbeats 4000000 in
set_option maxRecDepth 100000 in
theorem tX9_read (G : Gd) (l : Launch) (D : Nat) (x1 : Int32) (S : Sg) : Ct LM G l rI yX9_read cX9_read 3 (some .int) (D + 3) [.ref (G.2.1 0), .int x1] S (fX9_read x1 S) := by
  refine Ct.of (by decide) (Nat.le_of_ble_eq_true rfl) (fun Z hZ X => ?_)
  subst hZ
  show Go LM G Z 3 rI 0 [(0, .ref (G.2.1 0)), (1, .int x1)] [] S (fX9_read x1 S) kz
  unfold fX9_read
  refine g_iload_n 1 X 1 dX9_read_0 rfl rfl rfl ?_
  refine g_cSi1 4 X (tX9_isSheet _ _ (D + 1) _ _) mfX9_isSheet msX9_isSheet lkX9_152 (Nat.le_of_ble_eq_true rfl) dX9_read_1 rfl (fun r1 S2 => ?_)
  refine g_if_ne 10 7 X dX9_read_4 (by decide) rfl (fun _ => ?_) (fun _ => ?_)
  · refine g_aload_n 11 X 0 dX9_read_10 rfl rfl rfl ?_
    refine g_getr 14 X 22 rfl flX9_73 rfl dX9_read_11 rfl ?_
    refine g_iload_n 15 X 1 dX9_read_14 rfl rfl rfl ?_
    refine g_zald 16 X rfl dX9_read_15 rfl ?_
    refine g_if_ne 25 19 X dX9_read_16 (by decide) rfl (fun _ => ?_) (fun _ => ?_)
    · refine g_iconst 26 X dX9_read_25 rfl ci_0 ?_
      refine g_istore_n 27 X [(2, _), (0, _), (1, _)] dX9_read_26 rfl rfl (Nat.le_of_ble_eq_true rfl) rfl ?_
      refine g_joinK 82 (fun (a10 : Int32) => [(2, .int a10)]) (fun (a10 : Int32) => []) (fun a10 S11 => ?_) (fun J5 => ?_)
      · refine g_iload_n 83 X 0 dX9_read_82 rfl rfl rfl ?_
        exact g_iret X dX9_read_83 rfl
      · refine g_sub [1, 2, 0] rfl (g_lp (fun (a3 : Int32) => [(0, .ref (G.2.1 0)), (1, .int x1), (2, .int a3)]) (fun rec7 ih6 a3 S4 => ?_) fl (0 : Int32) _)
        unfold bX9_read_27
        refine g_iconst 28 X dX9_read_27 rfl ci_2 ?_
        refine g_iload_n 29 X 2 dX9_read_28 rfl rfl rfl ?_
        refine g_imul 30 X dX9_read_29 rfl ?_
        refine g_iconst 31 X dX9_read_30 rfl ci_1 ?_
        refine g_iadd 32 X dX9_read_31 rfl ?_
        refine g_aload_n 33 X 0 dX9_read_32 rfl rfl rfl ?_
        refine g_getr 36 X 24 rfl flX9_80 rfl dX9_read_33 rfl ?_
        refine g_iload_n 37 X 1 dX9_read_36 rfl rfl rfl ?_
        refine g_iald 38 X rfl dX9_read_37 rfl ?_
        refine g_icmp_ge 82 41 X dX9_read_38 (by decide) rfl (fun _ => ?_) (fun _ => ?_)
        · exact g_sub [2] rfl (J5 a3 _)
        · refine g_aload_n 42 X 0 dX9_read_41 rfl rfl rfl ?_
          refine g_aload_n 43 X 0 dX9_read_42 rfl rfl rfl ?_
          refine g_getr 46 X 25 rfl flX9_83 rfl dX9_read_43 rfl ?_
          refine g_bipush 48 X dX9_read_46 rfl cb_60 ?_
          refine g_iload_n 49 X 1 dX9_read_48 rfl rfl rfl ?_
          refine g_imul 50 X dX9_read_49 rfl ?_
          refine g_iconst 51 X dX9_read_50 rfl ci_2 ?_
          refine g_iload_n 52 X 2 dX9_read_51 rfl rfl rfl ?_
          refine g_imul 53 X dX9_read_52 rfl ?_
          refine g_iadd 54 X dX9_read_53 rfl ?_
          refine g_iald 55 X rfl dX9_read_54 rfl ?_
          refine g_aload_n 56 X 0 dX9_read_55 rfl rfl rfl ?_
          refine g_getr 59 X 25 rfl flX9_83 rfl dX9_read_56 rfl ?_
          refine g_bipush 61 X dX9_read_59 rfl cb_60 ?_
          refine g_iload_n 62 X 1 dX9_read_61 rfl rfl rfl ?_
          refine g_imul 63 X dX9_read_62 rfl ?_
          refine g_iconst 64 X dX9_read_63 rfl ci_2 ?_
          refine g_iload_n 65 X 2 dX9_read_64 rfl rfl rfl ?_
          refine g_imul 66 X dX9_read_65 rfl ?_
          refine g_iadd 67 X dX9_read_66 rfl ?_
          refine g_iconst 68 X dX9_read_67 rfl ci_1 ?_
          refine g_iadd 69 X dX9_read_68 rfl ?_
          refine g_iald 70 X rfl dX9_read_69 rfl ?_
          refine g_cVi2 73 X (tX9_clean _ _ (D) _ _ _) mfX9_clean miX9_clean lkX9_158 rfl rfl rfl (Nat.le_of_ble_eq_true rfl) dX9_read_70 rfl (fun r8 S9 => ?_)
          refine g_if_le 82 76 X dX9_read_73 (by decide) rfl (fun _ => ?_) (fun _ => ?_)
          · exact g_sub [2] rfl (J5 a3 _)
          · refine g_iinc 79 X 2 [(2, _), (0, _), (1, _)] dX9_read_76 rfl rfl (ii_1 _) (Nat.le_of_ble_eq_true rfl) rfl ?_
            refine g_goto 27 X dX9_read_79 (by decide) ?_
            exact g_sub [1, 2, 0] rfl (ih6 (a3 + (1 : Int32)) _)
    · refine g_aload_n 20 X 0 dX9_read_19 rfl rfl rfl ?_
      refine g_iconst 21 X dX9_read_20 rfl ci_1 ?_
      refine g_cVi1 24 X (tX9_meets _ _ (D + 2) _ _) mfX9_meets miX9_meets lkX9_155 rfl rfl rfl (Nat.le_of_ble_eq_true rfl) dX9_read_21 rfl (fun r12 S13 => ?_)
      exact g_iret X dX9_read_24 rfl
  · refine g_bipush 9 X dX9_read_7 rfl cb_m2 ?_
    exact g_iret X dX9_read_9 rfl
def bX9_asTold_16 (rec : Int32 → Sg → Option ((Int32) × Sg)) (a3 : Int32) (S4 : Sg) : Option ((Int32) × Sg) :=
  (if (20 : Int32) ≤ a3 then some (a3, S4) else gd (ix a3 20) (gd (ix a3 20) (rec (a3 + (1 : Int32)) (sI S4 12 (Int32.toNatClampNeg a3) (S4.1 3 (Int32.toNatClampNeg a3))))))
def fX9_asTold  (S : Sg) : Option (Unit × Sg) :=
  bd (fX9_reads S) (fun r1 S2 => bd (lp (bX9_asTold_16) fl (0 : Int32) (sI (sI S2 0 17 (0 : Int32)) 0 18 (0 : Int32))) (fun (a8 : Int32) S9 => some ((), S9)))
set_option maxHeartbeats 4000000 in
set_option maxRecDepth 100000 in
theorem tX9_asTold (G : Gd) (l : Launch) (D : Nat)  (S : Sg) : Ct LM G l rV yX9_asTold cX9_asTold 2 none (D + 6) [.ref (G.2.1 0)] S (fX9_asTold  S) := by
  refine Ct.of (by decide) (Nat.le_of_ble_eq_true rfl) (fun Z hZ X => ?_)
  subst hZ
  show Go LM G Z 2 rV 0 [(0, .ref (G.2.1 0))] [] S (fX9_asTold  S) kz
  unfold fX9_asTold
  refine g_aload_n 1 X 0 dX9_asTold_0 rfl rfl rfl ?_
  refine g_cVv0 4 X (tX9_reads _ _ (D)  _) mfX9_reads miX9_reads lkX9_131 rfl rfl rfl (Nat.le_of_ble_eq_true rfl) dX9_asTold_1 rfl (fun r1 S2 => ?_)
  refine g_aload_n 5 X 0 dX9_asTold_4 rfl rfl rfl ?_
  refine g_iconst 6 X dX9_asTold_5 rfl ci_0 ?_
  refine g_puti 9 X rfl flX9_161 fp_9_17 rfl dX9_asTold_6 rfl ?_
  refine g_aload_n 10 X 0 dX9_asTold_9 rfl rfl rfl ?_
  refine g_iconst 11 X dX9_asTold_10 rfl ci_0 ?_
  refine g_puti 14 X rfl flX9_164 fp_9_18 rfl dX9_asTold_11 rfl ?_
  refine g_iconst 15 X dX9_asTold_14 rfl ci_0 ?_
  refine g_istore_n 16 X [(1, _), (0, _)] dX9_asTold_15 rfl rfl (Nat.le_of_ble_eq_true rfl) rfl ?_
  refine g_joinK 40 (fun (a8 : Int32) => []) (fun (a8 : Int32) => []) (fun a8 S9 => ?_) (fun J5 => ?_)
  · exact g_vret X dX9_asTold_40 rfl
  · refine g_sub [1, 0] rfl (g_lp (fun (a3 : Int32) => [(0, .ref (G.2.1 0)), (1, .int a3)]) (fun rec7 ih6 a3 S4 => ?_) fl (0 : Int32) _)
    unfold bX9_asTold_16
    refine g_iload_n 17 X 1 dX9_asTold_16 rfl rfl rfl ?_
    refine g_bipush 19 X dX9_asTold_17 rfl cb_20 ?_
    refine g_icmp_ge 40 22 X dX9_asTold_19 (by decide) rfl (fun _ => ?_) (fun _ => ?_)
    · exact g_sub [] rfl (J5 a3 _)
    · refine g_aload_n 23 X 0 dX9_asTold_22 rfl rfl rfl ?_
      refine g_getr 26 X 12 rfl flX9_43 rfl dX9_asTold_23 rfl ?_
      refine g_iload_n 27 X 1 dX9_asTold_26 rfl rfl rfl ?_
      refine g_aload_n 28 X 0 dX9_asTold_27 rfl rfl rfl ?_
      refine g_getr 31 X 3 rfl flX9_16 rfl dX9_asTold_28 rfl ?_
      refine g_iload_n 32 X 1 dX9_asTold_31 rfl rfl rfl ?_
      refine g_iald 33 X rfl dX9_asTold_32 rfl ?_
      refine g_iast 34 X rfl dX9_asTold_33 rfl ?_
      refine g_iinc 37 X 1 [(1, _), (0, _)] dX9_asTold_34 rfl rfl (ii_1 _) (Nat.le_of_ble_eq_true rfl) rfl ?_
      refine g_goto 16 X dX9_asTold_37 (by decide) ?_
      exact g_sub [1, 0] rfl (ih6 (a3 + (1 : Int32)) _)
def fX9_goesIn (x1 : Int32) (S : Sg) : Option (Unit × Sg) :=
  gd (ix x1 8) (gd (ix x1 9) (gd (ix x1 8) (some ((), (sI (sI S 13 (Int32.toNatClampNeg x1) (2 : Int32)) 14 (Int32.toNatClampNeg x1) ((sI S 13 (Int32.toNatClampNeg x1) (2 : Int32)).1 7 (Int32.toNatClampNeg x1)))))))
set_option maxHeartbeats 4000000 in
set_option maxRecDepth 100000 in
theorem tX9_goesIn (G : Gd) (l : Launch) (D : Nat) (x1 : Int32) (S : Sg) : Ct LM G l rV yX9_goesIn cX9_goesIn 2 none (D + 0) [.ref (G.2.1 0), .int x1] S (fX9_goesIn x1 S) := by
  refine Ct.of (by decide) (Nat.le_of_ble_eq_true rfl) (fun Z hZ X => ?_)
  subst hZ
  show Go LM G Z 2 rV 0 [(0, .ref (G.2.1 0)), (1, .int x1)] [] S (fX9_goesIn x1 S) kz
  unfold fX9_goesIn
  refine g_aload_n 1 X 0 dX9_goesIn_0 rfl rfl rfl ?_
  refine g_getr 4 X 13 rfl flX9_46 rfl dX9_goesIn_1 rfl ?_
  refine g_iload_n 5 X 1 dX9_goesIn_4 rfl rfl rfl ?_
  refine g_iconst 6 X dX9_goesIn_5 rfl ci_2 ?_
  refine g_iast 7 X rfl dX9_goesIn_6 rfl ?_
  refine g_aload_n 8 X 0 dX9_goesIn_7 rfl rfl rfl ?_
  refine g_getr 11 X 14 rfl flX9_49 rfl dX9_goesIn_8 rfl ?_
  refine g_iload_n 12 X 1 dX9_goesIn_11 rfl rfl rfl ?_
  refine g_aload_n 13 X 0 dX9_goesIn_12 rfl rfl rfl ?_
  refine g_getr 16 X 7 rfl flX9_28 rfl dX9_goesIn_13 rfl ?_
  refine g_iload_n 17 X 1 dX9_goesIn_16 rfl rfl rfl ?_
  refine g_iald 18 X rfl dX9_goesIn_17 rfl ?_
  refine g_iast 19 X rfl dX9_goesIn_18 rfl ?_
  exact g_vret X dX9_goesIn_19 rfl
def bX9_isOiled_12 (c1 : Int32) (c2 : Int32) (rec : (Int32 × Int32) → Sg → Option ((Int32 × Int32) × Sg)) (a3 : Int32 × Int32) (S4 : Sg) : Option ((Int32 × Int32) × Sg) :=
  (if (S4.1 0 13) ≤ a3.2 then some ((a3.1, a3.2), S4) else bd ((if a3.1 = 0 then gd (ix a3.2 4) ((if (S4.1 11 (Int32.toNatClampNeg a3.2)) = c1 then gd (ix a3.2 4) ((if c2 < (S4.1 10 (Int32.toNatClampNeg a3.2)) then some ((0 : Int32), S4) else some ((1 : Int32), S4))) else some ((0 : Int32), S4))) else some ((1 : Int32), S4))) (fun (t5 : Int32) S6 => rec (t5, (a3.2 + (1 : Int32))) S6))
def fX9_isOiled (x1 : Int32) (x2 : Int32) (S : Sg) : Option (Int32 × Sg) :=
  bd (fX9_isIn (S.1 0 18) x1 S) (fun r1 S2 => bd (lp (bX9_isOiled_12 x1 x2) fl (r1, (0 : Int32)) S2) (fun (a11 : Int32 × Int32) S12 => gd (zb a11.1) (some (a11.1, S12))))
set_option maxHeartbeats 4000000 in
set_option maxRecDepth 100000 in
theorem tX9_isOiled (G : Gd) (l : Launch) (D : Nat) (x1 : Int32) (x2 : Int32) (S : Sg) : Ct LM G l rI yX9_isOiled cX9_isOiled 5 (some .boolean) (D + 1) [.ref (G.2.1 0), .int x1, .int x2] S (fX9_isOiled x1 x2 S) := by
  refine Ct.of (by decide) (Nat.le_of_ble_eq_true rfl) (fun Z hZ X => ?_)
  subst hZ
  show Go LM G Z 5 rI 0 [(0, .ref (G.2.1 0)), (1, .int x1), (2, .int x2)] [] S (fX9_isOiled x1 x2 S) kz
  unfold fX9_isOiled
  refine g_aload_n 1 X 0 dX9_isOiled_0 rfl rfl rfl ?_
  refine g_geti 4 X rfl flX9_164 rfl dX9_isOiled_1 rfl ?_
  refine g_iload_n 5 X 1 dX9_isOiled_4 rfl rfl rfl ?_
  refine g_cSi2 8 X (tX9_isIn _ _ (D) _ _ _) mfX9_isIn msX9_isIn lkX9_167 (Nat.le_of_ble_eq_true rfl) dX9_isOiled_5 rfl (fun r1 S2 => ?_)
  refine g_istore_n 9 X [(3, _), (0, _), (1, _), (2, _)] dX9_isOiled_8 rfl rfl (Nat.le_of_ble_eq_true rfl) rfl ?_
  refine g_iconst 10 X dX9_isOiled_9 rfl ci_0 ?_
  refine g_istore 12 X [(4, _), (3, _), (0, _), (1, _), (2, _)] dX9_isOiled_10 rfl (Nat.le_of_ble_eq_true rfl) rfl ?_
  refine g_joinK 59 (fun (a11 : Int32 × Int32) => [(3, .int a11.1)]) (fun (a11 : Int32 × Int32) => []) (fun a11 S12 => ?_) (fun J5 => ?_)
  · refine g_iload_n 60 X 0 dX9_isOiled_59 rfl rfl rfl ?_
    exact g_gd (fun hz => g_zret X dX9_isOiled_60 hz rfl)
  · refine g_sub [2, 3, 4, 1, 0] rfl (g_lp (fun (a3 : Int32 × Int32) => [(0, .ref (G.2.1 0)), (1, .int x1), (2, .int x2), (3, .int a3.1), (4, .int a3.2)]) (fun rec7 ih6 a3 S4 => ?_) fl (r1, (0 : Int32)) _)
    unfold bX9_isOiled_12
    refine g_iload 14 X 4 dX9_isOiled_12 rfl rfl ?_
    refine g_aload_n 15 X 0 dX9_isOiled_14 rfl rfl rfl ?_
    refine g_geti 18 X rfl flX9_149 rfl dX9_isOiled_15 rfl ?_
    refine g_icmp_ge 59 21 X dX9_isOiled_18 (by decide) rfl (fun _ => ?_) (fun _ => ?_)
    · exact g_sub [3] rfl (J5 (a3.1, a3.2) _)
    · refine g_iload_n 22 X 3 dX9_isOiled_21 rfl rfl rfl ?_
      refine g_joinK 52 (fun (t8 : Int32) => [(0, .ref (G.2.1 0)), (1, .int x1), (2, .int x2), (4, .int a3.2)]) (fun (t8 : Int32) => [.int t8]) (fun t8 S9 => ?_) (fun J10 => ?_)
      · refine g_istore_n 53 X [(3, _), (0, _), (1, _), (2, _), (4, _)] dX9_isOiled_52 rfl rfl (Nat.le_of_ble_eq_true rfl) rfl ?_
        refine g_iinc 56 X 4 [(4, _), (3, _), (0, _), (1, _), (2, _)] dX9_isOiled_53 rfl rfl (ii_1 _) (Nat.le_of_ble_eq_true rfl) rfl ?_
        refine g_goto 12 X dX9_isOiled_56 (by decide) ?_
        exact g_sub [2, 3, 4, 1, 0] rfl (ih6 (t8, (a3.2 + (1 : Int32))) _)
      · refine g_if_ne 47 25 X dX9_isOiled_22 (by decide) rfl (fun _ => ?_) (fun _ => ?_)
        · refine g_iconst 48 X dX9_isOiled_47 rfl ci_1 ?_
          refine g_goto 52 X dX9_isOiled_48 (by decide) ?_
          exact g_sub [0, 1, 2, 4] rfl (J10 (1 : Int32) _)
        · refine g_aload_n 26 X 0 dX9_isOiled_25 rfl rfl rfl ?_
          refine g_getr 29 X 11 rfl flX9_40 rfl dX9_isOiled_26 rfl ?_
          refine g_iload 31 X 4 dX9_isOiled_29 rfl rfl ?_
          refine g_iald 32 X rfl dX9_isOiled_31 rfl ?_
          refine g_iload_n 33 X 1 dX9_isOiled_32 rfl rfl rfl ?_
          refine g_icmp_ne 51 36 X dX9_isOiled_33 (by decide) rfl (fun _ => ?_) (fun _ => ?_)
          · refine g_iconst 52 X dX9_isOiled_51 rfl ci_0 ?_
            exact g_sub [0, 1, 2, 4] rfl (J10 (0 : Int32) _)
          · refine g_aload_n 37 X 0 dX9_isOiled_36 rfl rfl rfl ?_
            refine g_getr 40 X 10 rfl flX9_37 rfl dX9_isOiled_37 rfl ?_
            refine g_iload 42 X 4 dX9_isOiled_40 rfl rfl ?_
            refine g_iald 43 X rfl dX9_isOiled_42 rfl ?_
            refine g_iload_n 44 X 2 dX9_isOiled_43 rfl rfl rfl ?_
            refine g_icmp_gt 51 47 X dX9_isOiled_44 (by decide) rfl (fun _ => ?_) (fun _ => ?_)
            · refine g_iconst 52 X dX9_isOiled_51 rfl ci_0 ?_
              exact g_sub [0, 1, 2, 4] rfl (J10 (0 : Int32) _)
            · refine g_iconst 48 X dX9_isOiled_47 rfl ci_1 ?_
              refine g_goto 52 X dX9_isOiled_48 (by decide) ?_
              exact g_sub [0, 1, 2, 4] rfl (J10 (1 : Int32) _)
def bX9_isTop_4 (c1 : Int32) (rec : (Int32 × Int32) → Sg → Option ((Int32 × Int32) × Sg)) (a1 : Int32 × Int32) (S2 : Sg) : Option ((Int32 × Int32) × Sg) :=
  (if (S2.1 0 4) ≤ a1.2 then some ((a1.1, a1.2), S2) else bd ((if a1.2 = c1 then some ((0 : Int32), S2) else gd (ix a1.2 9) (gd (ix c1 9) ((if (S2.1 5 (Int32.toNatClampNeg a1.2)) = (S2.1 5 (Int32.toNatClampNeg c1)) then some ((1 : Int32), S2) else some ((0 : Int32), S2)))))) (fun (t3 : Int32) S4 => bd ((if a1.1 = 0 then some ((0 : Int32), S4) else (if t3 = 0 then some ((1 : Int32), S4) else gd (ix a1.2 8) ((if (S4.1 13 (Int32.toNatClampNeg a1.2)) = (1 : Int32) then some ((0 : Int32), S4) else gd (ix a1.2 8) ((if (S4.1 13 (Int32.toNatClampNeg a1.2)) = (2 : Int32) then gd (ix a1.2 8) (gd (ix c1 8) ((if (S4.1 14 (Int32.toNatClampNeg c1)) < (S4.1 14 (Int32.toNatClampNeg a1.2)) then some ((0 : Int32), S4) else gd (ix a1.2 8) (gd (ix c1 8) ((if (S4.1 14 (Int32.toNatClampNeg a1.2)) = (S4.1 14 (Int32.toNatClampNeg c1)) then (if c1 < a1.2 then some ((0 : Int32), S4) else some ((1 : Int32), S4)) else some ((1 : Int32), S4))))))) else some ((1 : Int32), S4)))))))) (fun (t6 : Int32) S7 => rec (t6, (a1.2 + (1 : Int32))) S7)))
def fX9_isTop (x1 : Int32) (S : Sg) : Option (Int32 × Sg) :=
  bd (lp (bX9_isTop_4 x1) fl ((1 : Int32), (0 : Int32)) S) (fun (a12 : Int32 × Int32) S13 => gd (zb a12.1) (some (a12.1, S13)))
set_option maxHeartbeats 4000000 in
set_option maxRecDepth 100000 in
theorem tX9_isTop (G : Gd) (l : Launch) (D : Nat) (x1 : Int32) (S : Sg) : Ct LM G l rI yX9_isTop cX9_isTop 5 (some .boolean) (D + 0) [.ref (G.2.1 0), .int x1] S (fX9_isTop x1 S) := by
  refine Ct.of (by decide) (Nat.le_of_ble_eq_true rfl) (fun Z hZ X => ?_)
  subst hZ
  show Go LM G Z 5 rI 0 [(0, .ref (G.2.1 0)), (1, .int x1)] [] S (fX9_isTop x1 S) kz
  unfold fX9_isTop
  refine g_iconst 1 X dX9_isTop_0 rfl ci_1 ?_
  refine g_istore_n 2 X [(2, _), (0, _), (1, _)] dX9_isTop_1 rfl rfl (Nat.le_of_ble_eq_true rfl) rfl ?_
  refine g_iconst 3 X dX9_isTop_2 rfl ci_0 ?_
  refine g_istore_n 4 X [(3, _), (2, _), (0, _), (1, _)] dX9_isTop_3 rfl rfl (Nat.le_of_ble_eq_true rfl) rfl ?_
  refine g_joinK 115 (fun (a12 : Int32 × Int32) => [(2, .int a12.1)]) (fun (a12 : Int32 × Int32) => []) (fun a12 S13 => ?_) (fun J3 => ?_)
  · refine g_iload_n 116 X 0 dX9_isTop_115 rfl rfl rfl ?_
    exact g_gd (fun hz => g_zret X dX9_isTop_116 hz rfl)
  · refine g_sub [2, 3, 1, 0] rfl (g_lp (fun (a1 : Int32 × Int32) => [(0, .ref (G.2.1 0)), (1, .int x1), (2, .int a1.1), (3, .int a1.2)]) (fun rec5 ih4 a1 S2 => ?_) fl ((1 : Int32), (0 : Int32)) _)
    unfold bX9_isTop_4
    refine g_iload_n 5 X 3 dX9_isTop_4 rfl rfl rfl ?_
    refine g_aload_n 6 X 0 dX9_isTop_5 rfl rfl rfl ?_
    refine g_geti 9 X rfl flX9_114 rfl dX9_isTop_6 rfl ?_
    refine g_icmp_ge 115 12 X dX9_isTop_9 (by decide) rfl (fun _ => ?_) (fun _ => ?_)
    · exact g_sub [2] rfl (J3 (a1.1, a1.2) _)
    · refine g_iload_n 13 X 3 dX9_isTop_12 rfl rfl rfl ?_
      refine g_iload_n 14 X 1 dX9_isTop_13 rfl rfl rfl ?_
      refine g_joinK 37 (fun (t6 : Int32) => [(0, .ref (G.2.1 0)), (1, .int x1), (2, .int a1.1), (3, .int a1.2)]) (fun (t6 : Int32) => [.int t6]) (fun t6 S7 => ?_) (fun J8 => ?_)
      · refine g_istore 39 X [(4, _), (0, _), (1, _), (2, _), (3, _)] dX9_isTop_37 rfl (Nat.le_of_ble_eq_true rfl) rfl ?_
        refine g_iload_n 40 X 3 dX9_isTop_39 rfl rfl rfl ?_
        refine g_joinK 108 (fun (t9 : Int32) => [(0, .ref (G.2.1 0)), (1, .int x1), (3, .int a1.2)]) (fun (t9 : Int32) => [.int t9]) (fun t9 S10 => ?_) (fun J11 => ?_)
        · refine g_istore_n 109 X [(2, _), (0, _), (1, _), (3, _)] dX9_isTop_108 rfl rfl (Nat.le_of_ble_eq_true rfl) rfl ?_
          refine g_iinc 112 X 3 [(3, _), (2, _), (0, _), (1, _)] dX9_isTop_109 rfl rfl (ii_1 _) (Nat.le_of_ble_eq_true rfl) rfl ?_
          refine g_goto 4 X dX9_isTop_112 (by decide) ?_
          exact g_sub [2, 3, 1, 0] rfl (ih4 (t9, (a1.2 + (1 : Int32))) _)
        · refine g_if_eq 107 43 X dX9_isTop_40 (by decide) rfl (fun _ => ?_) (fun _ => ?_)
          · refine g_iconst 108 X dX9_isTop_107 rfl ci_0 ?_
            exact g_sub [1, 2, 4] rfl (J11 (0 : Int32) _)
          · refine g_iload 45 X 0 dX9_isTop_43 rfl rfl ?_
            refine g_if_eq 103 48 X dX9_isTop_45 (by decide) rfl (fun _ => ?_) (fun _ => ?_)
            · refine g_iconst 104 X dX9_isTop_103 rfl ci_1 ?_
              refine g_goto 108 X dX9_isTop_104 (by decide) ?_
              exact g_sub [1, 2, 4] rfl (J11 (1 : Int32) _)
            · refine g_aload_n 49 X 1 dX9_isTop_48 rfl rfl rfl ?_
              refine g_getr 52 X 13 rfl flX9_46 rfl dX9_isTop_49 rfl ?_
              refine g_iload_n 53 X 4 dX9_isTop_52 rfl rfl rfl ?_
              refine g_iald 54 X rfl dX9_isTop_53 rfl ?_
              refine g_iconst 55 X dX9_isTop_54 rfl ci_1 ?_
              refine g_icmp_eq 107 58 X dX9_isTop_55 (by decide) rfl (fun _ => ?_) (fun _ => ?_)
              · refine g_iconst 108 X dX9_isTop_107 rfl ci_0 ?_
                exact g_sub [1, 2, 4] rfl (J11 (0 : Int32) _)
              · refine g_aload_n 59 X 1 dX9_isTop_58 rfl rfl rfl ?_
                refine g_getr 62 X 13 rfl flX9_46 rfl dX9_isTop_59 rfl ?_
                refine g_iload_n 63 X 4 dX9_isTop_62 rfl rfl rfl ?_
                refine g_iald 64 X rfl dX9_isTop_63 rfl ?_
                refine g_iconst 65 X dX9_isTop_64 rfl ci_2 ?_
                refine g_icmp_ne 103 68 X dX9_isTop_65 (by decide) rfl (fun _ => ?_) (fun _ => ?_)
                · refine g_iconst 104 X dX9_isTop_103 rfl ci_1 ?_
                  refine g_goto 108 X dX9_isTop_104 (by decide) ?_
                  exact g_sub [1, 2, 4] rfl (J11 (1 : Int32) _)
                · refine g_aload_n 69 X 1 dX9_isTop_68 rfl rfl rfl ?_
                  refine g_getr 72 X 14 rfl flX9_49 rfl dX9_isTop_69 rfl ?_
                  refine g_iload_n 73 X 4 dX9_isTop_72 rfl rfl rfl ?_
                  refine g_iald 74 X rfl dX9_isTop_73 rfl ?_
                  refine g_aload_n 75 X 1 dX9_isTop_74 rfl rfl rfl ?_
                  refine g_getr 78 X 14 rfl flX9_49 rfl dX9_isTop_75 rfl ?_
                  refine g_iload_n 79 X 2 dX9_isTop_78 rfl rfl rfl ?_
                  refine g_iald 80 X rfl dX9_isTop_79 rfl ?_
                  refine g_icmp_gt 107 83 X dX9_isTop_80 (by decide) rfl (fun _ => ?_) (fun _ => ?_)
                  · refine g_iconst 108 X dX9_isTop_107 rfl ci_0 ?_
                    exact g_sub [1, 2, 4] rfl (J11 (0 : Int32) _)
                  · refine g_aload_n 84 X 1 dX9_isTop_83 rfl rfl rfl ?_
                    refine g_getr 87 X 14 rfl flX9_49 rfl dX9_isTop_84 rfl ?_
                    refine g_iload_n 88 X 4 dX9_isTop_87 rfl rfl rfl ?_
                    refine g_iald 89 X rfl dX9_isTop_88 rfl ?_
                    refine g_aload_n 90 X 1 dX9_isTop_89 rfl rfl rfl ?_
                    refine g_getr 93 X 14 rfl flX9_49 rfl dX9_isTop_90 rfl ?_
                    refine g_iload_n 94 X 2 dX9_isTop_93 rfl rfl rfl ?_
                    refine g_iald 95 X rfl dX9_isTop_94 rfl ?_
                    refine g_icmp_ne 103 98 X dX9_isTop_95 (by decide) rfl (fun _ => ?_) (fun _ => ?_)
                    · refine g_iconst 104 X dX9_isTop_103 rfl ci_1 ?_
                      refine g_goto 108 X dX9_isTop_104 (by decide) ?_
                      exact g_sub [1, 2, 4] rfl (J11 (1 : Int32) _)
                    · refine g_iload_n 99 X 4 dX9_isTop_98 rfl rfl rfl ?_
                      refine g_iload_n 100 X 2 dX9_isTop_99 rfl rfl rfl ?_
                      refine g_icmp_gt 107 103 X dX9_isTop_100 (by decide) rfl (fun _ => ?_) (fun _ => ?_)
                      · refine g_iconst 108 X dX9_isTop_107 rfl ci_0 ?_
                        exact g_sub [1, 2, 4] rfl (J11 (0 : Int32) _)
                      · refine g_iconst 104 X dX9_isTop_103 rfl ci_1 ?_
                        refine g_goto 108 X dX9_isTop_104 (by decide) ?_
                        exact g_sub [1, 2, 4] rfl (J11 (1 : Int32) _)
      · refine g_icmp_eq 36 17 X dX9_isTop_14 (by decide) rfl (fun _ => ?_) (fun _ => ?_)
        · refine g_iconst 37 X dX9_isTop_36 rfl ci_0 ?_
          exact g_sub [0, 1, 2, 3] rfl (J8 (0 : Int32) _)
        · refine g_aload_n 18 X 0 dX9_isTop_17 rfl rfl rfl ?_
          refine g_getr 21 X 5 rfl flX9_22 rfl dX9_isTop_18 rfl ?_
          refine g_iload_n 22 X 3 dX9_isTop_21 rfl rfl rfl ?_
          refine g_iald 23 X rfl dX9_isTop_22 rfl ?_
          refine g_aload_n 24 X 0 dX9_isTop_23 rfl rfl rfl ?_
          refine g_getr 27 X 5 rfl flX9_22 rfl dX9_isTop_24 rfl ?_
          refine g_iload_n 28 X 1 dX9_isTop_27 rfl rfl rfl ?_
          refine g_iald 29 X rfl dX9_isTop_28 rfl ?_
          refine g_icmp_ne 36 32 X dX9_isTop_29 (by decide) rfl (fun _ => ?_) (fun _ => ?_)
          · refine g_iconst 37 X dX9_isTop_36 rfl ci_0 ?_
            exact g_sub [0, 1, 2, 3] rfl (J8 (0 : Int32) _)
          · refine g_iconst 33 X dX9_isTop_32 rfl ci_1 ?_
            refine g_goto 37 X dX9_isTop_33 (by decide) ?_
            exact g_sub [0, 1, 2, 3] rfl (J8 (1 : Int32) _)
def bX9_goesBy_12 (c1 : Int32) (c2 : Int32) (rec : Int32 → Sg → Option ((Int32) × Sg)) (a3 : Int32) (S4 : Sg) : Option ((Int32) × Sg) :=
  (if (S4.1 0 4) ≤ a3 then some (a3, S4) else gd (ix c2 8) (bd ((if (S4.1 8 (Int32.toNatClampNeg c2)) = c1 then gd (ix a3 8) ((if (S4.1 13 (Int32.toNatClampNeg a3)) = (1 : Int32) then gd (ix a3 9) (gd (ix c2 8) ((if ((S4.1 5 (Int32.toNatClampNeg a3)) / (6 : Int32)) = (S4.1 9 (Int32.toNatClampNeg c2)) then bd (fX9_goesIn a3 S4) (fun r8 S9 => some ((), S9)) else some ((), S4)))) else some ((), S4))) else some ((), S4))) (fun (t5 : Unit) S6 => rec (a3 + (1 : Int32)) S6)))
def bX9_goesBy_2 (c1 : Int32) (rec : Int32 → Sg → Option ((Int32) × Sg)) (a1 : Int32) (S2 : Sg) : Option ((Int32) × Sg) :=
  (if (S2.1 0 10) ≤ a1 then some (a1, S2) else bd (lp (bX9_goesBy_12 c1 a1) fl (0 : Int32) S2) (fun (a13 : Int32) S14 => rec (a1 + (1 : Int32)) S14))
def bX9_goesBy_108 (c2 : Int32) (rec : Int32 → Sg → Option ((Int32) × Sg)) (a27 : Int32) (S28 : Sg) : Option ((Int32) × Sg) :=
  (if (S28.1 0 4) ≤ a27 then some (a27, S28) else gd (ix a27 8) (bd ((if (S28.1 13 (Int32.toNatClampNeg a27)) = (1 : Int32) then gd (ix a27 9) (gd (ix c2 9) ((if (S28.1 5 (Int32.toNatClampNeg a27)) = (S28.1 5 (Int32.toNatClampNeg c2)) then bd (fX9_goesIn a27 S28) (fun r32 S33 => some ((), S33)) else some ((), S28)))) else some ((), S28))) (fun (t29 : Unit) S30 => rec (a27 + (1 : Int32)) S30)))
def bX9_goesBy_77 (c1 : Int32) (rec : Int32 → Sg → Option ((Int32) × Sg)) (a20 : Int32) (S21 : Sg) : Option ((Int32) × Sg) :=
  (if (S21.1 0 4) ≤ a20 then some (a20, S21) else gd (ix a20 9) (bd ((if (S21.1 4 (Int32.toNatClampNeg a20)) = c1 then bd (fX9_isIn (S21.1 0 17) a20 S21) (fun r25 S26 => (if r25 = 0 then bd (lp (bX9_goesBy_108 a20) fl (0 : Int32) S26) (fun (a37 : Int32) S38 => gd (ix a20 8) (some ((), (sI S38 13 (Int32.toNatClampNeg a20) (1 : Int32))))) else some ((), S26))) else some ((), S21))) (fun (t22 : Unit) S23 => rec (a20 + (1 : Int32)) S23)))
def bX9_goesBy_172 (c1 : Int32) (rec : Int32 → Sg → Option ((Int32) × Sg)) (a44 : Int32) (S45 : Sg) : Option ((Int32) × Sg) :=
  (if (S45.1 0 4) ≤ a44 then some (a44, S45) else gd (ix a44 8) (bd ((if (S45.1 13 (Int32.toNatClampNeg a44)) = (2 : Int32) then gd (ix a44 8) (gd (ix c1 20) ((if ((S45.1 14 (Int32.toNatClampNeg a44)) + (S45.1 12 (Int32.toNatClampNeg c1))) < (10 : Int32) then some ((0 : Int32), S45) else gd (ix a44 9) (bd (fX9_isOiled ((S45.1 5 (Int32.toNatClampNeg a44)) / (6 : Int32)) c1 S45) (fun r49 S50 => (if r49 = 0 then bd (fX9_isTop a44 S50) (fun r51 S52 => (if r51 = 0 then some ((0 : Int32), S52) else some ((1 : Int32), S52))) else some ((0 : Int32), S50))))))) else some ((0 : Int32), S45))) (fun (t46 : Int32) S47 => bd ((if t46 = 0 then some ((0 : Int32), S47) else some (((1 : Int32) <<< (a44 &&& 31)), S47))) (fun (t53 : Int32) S54 => rec (a44 + (1 : Int32)) (sI S54 0 21 ((S47.1 0 21) ||| t53))))))
def bX9_goesBy_277 (c1 : Int32) (rec : Int32 → Sg → Option ((Int32) × Sg)) (a61 : Int32) (S62 : Sg) : Option ((Int32) × Sg) :=
  (if (S62.1 0 4) ≤ a61 then some (a61, S62) else gd (ix a61 8) (bd ((if (S62.1 13 (Int32.toNatClampNeg a61)) = (2 : Int32) then bd (fX9_isIn (S62.1 0 21) a61 S62) (fun r66 S67 => bd ((if r66 = 0 then gd (ix c1 20) ((if (S67.1 0 9) ≤ (S67.1 12 (Int32.toNatClampNeg c1)) then some ((0 : Int32), S67) else gd (ix a61 8) ((if (S67.1 14 (Int32.toNatClampNeg a61)) ≤ 0 then some ((0 : Int32), S67) else some ((-1 : Int32), S67))))) else gd (ix a61 8) ((if (9 : Int32) ≤ (S67.1 14 (Int32.toNatClampNeg a61)) then some ((0 : Int32), S67) else some ((1 : Int32), S67))))) (fun (t68 : Int32) S69 => gd (ix a61 8) (gd (ix a61 8) (some ((), (sI S69 14 (Int32.toNatClampNeg a61) ((S69.1 14 (Int32.toNatClampNeg a61)) + t68))))))) else some ((), S62))) (fun (t63 : Unit) S64 => bd (fX9_isIn (S64.1 0 21) a61 S64) (fun r71 S72 => bd ((if r71 = 0 then gd (ix a61 8) (some ((S72.1 13 (Int32.toNatClampNeg a61)), S72)) else some ((3 : Int32), S72))) (fun (t73 : Int32) S74 => gd (ix (((8 : Int32) * c1) + a61) 160) (gd (ix a61 8) (bd ((if ((sI S74 16 (Int32.toNatClampNeg (((8 : Int32) * c1) + a61)) t73).1 13 (Int32.toNatClampNeg a61)) = (2 : Int32) then gd (ix a61 8) (some (((sI S74 16 (Int32.toNatClampNeg (((8 : Int32) * c1) + a61)) t73).1 14 (Int32.toNatClampNeg a61)), (sI S74 16 (Int32.toNatClampNeg (((8 : Int32) * c1) + a61)) t73))) else some ((-1 : Int32), (sI S74 16 (Int32.toNatClampNeg (((8 : Int32) * c1) + a61)) t73)))) (fun (t76 : Int32) S77 => gd (ix (((8 : Int32) * c1) + a61) 160) (rec (a61 + (1 : Int32)) (sI S77 17 (Int32.toNatClampNeg (((8 : Int32) * c1) + a61)) t76))))))))))
def fX9_goesBy (x1 : Int32) (S : Sg) : Option (Unit × Sg) :=
  bd (lp (bX9_goesBy_2 x1) fl (0 : Int32) S) (fun (a18 : Int32) S19 => bd (lp (bX9_goesBy_77 x1) fl (0 : Int32) S19) (fun (a42 : Int32) S43 => bd (lp (bX9_goesBy_172 x1) fl (0 : Int32) (sI S43 0 21 (0 : Int32))) (fun (a59 : Int32) S60 => gd (ix x1 20) (bd (lp (bX9_goesBy_277 x1) fl (0 : Int32) (sI S60 15 (Int32.toNatClampNeg x1) (S60.1 0 21))) (fun (a82 : Int32) S83 => some ((), S83))))))
set_option maxHeartbeats 4000000 in
set_option maxRecDepth 100000 in
theorem tX9_goesBy (G : Gd) (l : Launch) (D : Nat) (x1 : Int32) (S : Sg) : Ct LM G l rV yX9_goesBy cX9_goesBy 4 none (D + 2) [.ref (G.2.1 0), .int x1] S (fX9_goesBy x1 S) := by
  refine Ct.of (by decide) (Nat.le_of_ble_eq_true rfl) (fun Z hZ X => ?_)
  subst hZ
  show Go LM G Z 4 rV 0 [(0, .ref (G.2.1 0)), (1, .int x1)] [] S (fX9_goesBy x1 S) kz
  unfold fX9_goesBy
  refine g_iconst 1 X dX9_goesBy_0 rfl ci_0 ?_
  refine g_istore_n 2 X [(2, _), (0, _), (1, _)] dX9_goesBy_1 rfl rfl (Nat.le_of_ble_eq_true rfl) rfl ?_
  refine g_joinK 75 (fun (a18 : Int32) => [(0, .ref (G.2.1 0)), (1, .int x1)]) (fun (a18 : Int32) => []) (fun a18 S19 => ?_) (fun J3 => ?_)
  · refine g_iconst 76 X dX9_goesBy_75 rfl ci_0 ?_
    refine g_istore_n 77 X [(2, _), (0, _), (1, _)] dX9_goesBy_76 rfl rfl (Nat.le_of_ble_eq_true rfl) rfl ?_
    refine g_joinK 165 (fun (a42 : Int32) => [(0, .ref (G.2.1 0)), (1, .int x1)]) (fun (a42 : Int32) => []) (fun a42 S43 => ?_) (fun J22 => ?_)
    · refine g_aload_n 166 X 0 dX9_goesBy_165 rfl rfl rfl ?_
      refine g_iconst 167 X dX9_goesBy_166 rfl ci_0 ?_
      refine g_puti 170 X rfl flX9_174 fp_9_21 rfl dX9_goesBy_167 rfl ?_
      refine g_iconst 171 X dX9_goesBy_170 rfl ci_0 ?_
      refine g_istore_n 172 X [(2, _), (0, _), (1, _)] dX9_goesBy_171 rfl rfl (Nat.le_of_ble_eq_true rfl) rfl ?_
      refine g_joinK 265 (fun (a59 : Int32) => [(0, .ref (G.2.1 0)), (1, .int x1)]) (fun (a59 : Int32) => []) (fun a59 S60 => ?_) (fun J46 => ?_)
      · refine g_aload_n 266 X 0 dX9_goesBy_265 rfl rfl rfl ?_
        refine g_getr 269 X 15 rfl flX9_52 rfl dX9_goesBy_266 rfl ?_
        refine g_iload_n 270 X 1 dX9_goesBy_269 rfl rfl rfl ?_
        refine g_aload_n 271 X 0 dX9_goesBy_270 rfl rfl rfl ?_
        refine g_geti 274 X rfl flX9_174 rfl dX9_goesBy_271 rfl ?_
        refine g_iast 275 X rfl dX9_goesBy_274 rfl ?_
        refine g_iconst 276 X dX9_goesBy_275 rfl ci_0 ?_
        refine g_istore_n 277 X [(2, _), (0, _), (1, _)] dX9_goesBy_276 rfl rfl (Nat.le_of_ble_eq_true rfl) rfl ?_
        refine g_joinK 432 (fun (a82 : Int32) => []) (fun (a82 : Int32) => []) (fun a82 S83 => ?_) (fun J63 => ?_)
        · exact g_vret X dX9_goesBy_432 rfl
        · refine g_sub [1, 2, 0] rfl (g_lp (fun (a61 : Int32) => [(0, .ref (G.2.1 0)), (1, .int x1), (2, .int a61)]) (fun rec65 ih64 a61 S62 => ?_) fl (0 : Int32) _)
          unfold bX9_goesBy_277
          refine g_iload_n 278 X 2 dX9_goesBy_277 rfl rfl rfl ?_
          refine g_aload_n 279 X 0 dX9_goesBy_278 rfl rfl rfl ?_
          refine g_geti 282 X rfl flX9_114 rfl dX9_goesBy_279 rfl ?_
          refine g_icmp_ge 432 285 X dX9_goesBy_282 (by decide) rfl (fun _ => ?_) (fun _ => ?_)
          · exact g_sub [] rfl (J63 a61 _)
          · refine g_aload_n 286 X 0 dX9_goesBy_285 rfl rfl rfl ?_
            refine g_getr 289 X 13 rfl flX9_46 rfl dX9_goesBy_286 rfl ?_
            refine g_iload_n 290 X 2 dX9_goesBy_289 rfl rfl rfl ?_
            refine g_iald 291 X rfl dX9_goesBy_290 rfl ?_
            refine g_iconst 292 X dX9_goesBy_291 rfl ci_2 ?_
            refine g_joinK 363 (fun (t66 : Unit) => [(0, .ref (G.2.1 0)), (1, .int x1), (2, .int a61)]) (fun (t66 : Unit) => []) (fun t66 S67 => ?_) (fun J68 => ?_)
            · refine g_aload_n 364 X 0 dX9_goesBy_363 rfl rfl rfl ?_
              refine g_getr 367 X 16 rfl flX9_55 rfl dX9_goesBy_364 rfl ?_
              refine g_bipush 369 X dX9_goesBy_367 rfl cb_8 ?_
              refine g_iload_n 370 X 1 dX9_goesBy_369 rfl rfl rfl ?_
              refine g_imul 371 X dX9_goesBy_370 rfl ?_
              refine g_iload_n 372 X 2 dX9_goesBy_371 rfl rfl rfl ?_
              refine g_iadd 373 X dX9_goesBy_372 rfl ?_
              refine g_aload_n 374 X 0 dX9_goesBy_373 rfl rfl rfl ?_
              refine g_geti 377 X rfl flX9_174 rfl dX9_goesBy_374 rfl ?_
              refine g_iload_n 378 X 2 dX9_goesBy_377 rfl rfl rfl ?_
              refine g_cSi2 381 X (tX9_isIn _ _ (D + 1) _ _ _) mfX9_isIn msX9_isIn lkX9_167 (Nat.le_of_ble_eq_true rfl) dX9_goesBy_378 rfl (fun r74 S75 => ?_)
              refine g_joinK 394 (fun (t76 : Int32) => [(0, .ref (G.2.1 0)), (1, .int x1), (2, .int a61)]) (fun (t76 : Int32) => [.int t76, .int (((8 : Int32) * x1) + a61), .ref (G.2.1 16)]) (fun t76 S77 => ?_) (fun J78 => ?_)
              · refine g_iast 395 X rfl dX9_goesBy_394 rfl ?_
                refine g_aload_n 396 X 0 dX9_goesBy_395 rfl rfl rfl ?_
                refine g_getr 399 X 17 rfl flX9_58 rfl dX9_goesBy_396 rfl ?_
                refine g_bipush 401 X dX9_goesBy_399 rfl cb_8 ?_
                refine g_iload_n 402 X 1 dX9_goesBy_401 rfl rfl rfl ?_
                refine g_imul 403 X dX9_goesBy_402 rfl ?_
                refine g_iload_n 404 X 2 dX9_goesBy_403 rfl rfl rfl ?_
                refine g_iadd 405 X dX9_goesBy_404 rfl ?_
                refine g_aload_n 406 X 0 dX9_goesBy_405 rfl rfl rfl ?_
                refine g_getr 409 X 13 rfl flX9_46 rfl dX9_goesBy_406 rfl ?_
                refine g_iload_n 410 X 2 dX9_goesBy_409 rfl rfl rfl ?_
                refine g_iald 411 X rfl dX9_goesBy_410 rfl ?_
                refine g_iconst 412 X dX9_goesBy_411 rfl ci_2 ?_
                refine g_joinK 425 (fun (t79 : Int32) => [(0, .ref (G.2.1 0)), (1, .int x1), (2, .int a61)]) (fun (t79 : Int32) => [.int t79, .int (((8 : Int32) * x1) + a61), .ref (G.2.1 17)]) (fun t79 S80 => ?_) (fun J81 => ?_)
                · refine g_iast 426 X rfl dX9_goesBy_425 rfl ?_
                  refine g_iinc 429 X 2 [(2, _), (0, _), (1, _)] dX9_goesBy_426 rfl rfl (ii_1 _) (Nat.le_of_ble_eq_true rfl) rfl ?_
                  refine g_goto 277 X dX9_goesBy_429 (by decide) ?_
                  exact g_sub [1, 2, 0] rfl (ih64 (a61 + (1 : Int32)) _)
                · refine g_icmp_ne 424 415 X dX9_goesBy_412 (by decide) rfl (fun _ => ?_) (fun _ => ?_)
                  · refine g_iconst 425 X dX9_goesBy_424 rfl ci_m1 ?_
                    exact g_sub [0, 1, 2] rfl (J81 (-1 : Int32) _)
                  · refine g_aload_n 416 X 0 dX9_goesBy_415 rfl rfl rfl ?_
                    refine g_getr 419 X 14 rfl flX9_49 rfl dX9_goesBy_416 rfl ?_
                    refine g_iload_n 420 X 2 dX9_goesBy_419 rfl rfl rfl ?_
                    refine g_iald 421 X rfl dX9_goesBy_420 rfl ?_
                    refine g_goto 425 X dX9_goesBy_421 (by decide) ?_
                    exact g_sub [0, 1, 2] rfl (J81 ((sI S77 16 (Int32.toNatClampNeg (((8 : Int32) * x1) + a61)) t76).1 14 (Int32.toNatClampNeg a61)) _)
              · refine g_if_eq 388 384 X dX9_goesBy_381 (by decide) rfl (fun _ => ?_) (fun _ => ?_)
                · refine g_aload_n 389 X 0 dX9_goesBy_388 rfl rfl rfl ?_
                  refine g_getr 392 X 13 rfl flX9_46 rfl dX9_goesBy_389 rfl ?_
                  refine g_iload_n 393 X 2 dX9_goesBy_392 rfl rfl rfl ?_
                  refine g_iald 394 X rfl dX9_goesBy_393 rfl ?_
                  exact g_sub [0, 1, 2] rfl (J78 (S75.1 13 (Int32.toNatClampNeg a61)) _)
                · refine g_iconst 385 X dX9_goesBy_384 rfl ci_3 ?_
                  refine g_goto 394 X dX9_goesBy_385 (by decide) ?_
                  exact g_sub [0, 1, 2] rfl (J78 (3 : Int32) _)
            · refine g_icmp_ne 363 295 X dX9_goesBy_292 (by decide) rfl (fun _ => ?_) (fun _ => ?_)
              · exact g_sub [0, 1, 2] rfl (J68 () _)
              · refine g_aload_n 296 X 0 dX9_goesBy_295 rfl rfl rfl ?_
                refine g_geti 299 X rfl flX9_174 rfl dX9_goesBy_296 rfl ?_
                refine g_iload_n 300 X 2 dX9_goesBy_299 rfl rfl rfl ?_
                refine g_cSi2 303 X (tX9_isIn _ _ (D + 1) _ _ _) mfX9_isIn msX9_isIn lkX9_167 (Nat.le_of_ble_eq_true rfl) dX9_goesBy_300 rfl (fun r69 S70 => ?_)
                refine g_joinK 352 (fun (t71 : Int32) => [(0, .ref (G.2.1 0)), (1, .int x1), (2, .int a61)]) (fun (t71 : Int32) => [.int t71]) (fun t71 S72 => ?_) (fun J73 => ?_)
                · refine g_istore_n 353 X [(3, _), (0, _), (1, _), (2, _)] dX9_goesBy_352 rfl rfl (Nat.le_of_ble_eq_true rfl) rfl ?_
                  refine g_aload_n 354 X 1 dX9_goesBy_353 rfl rfl rfl ?_
                  refine g_getr 357 X 14 rfl flX9_49 rfl dX9_goesBy_354 rfl ?_
                  refine g_iload_n 358 X 3 dX9_goesBy_357 rfl rfl rfl ?_
                  refine g_dup2 359 X dX9_goesBy_358 rfl rfl rfl ?_
                  refine g_iald 360 X rfl dX9_goesBy_359 rfl ?_
                  refine g_iload_n 361 X 0 dX9_goesBy_360 rfl rfl rfl ?_
                  refine g_iadd 362 X dX9_goesBy_361 rfl ?_
                  refine g_iast 363 X rfl dX9_goesBy_362 rfl ?_
                  exact g_sub [1, 2, 3] rfl (J68 () _)
                · refine g_if_eq 325 306 X dX9_goesBy_303 (by decide) rfl (fun _ => ?_) (fun _ => ?_)
                  · refine g_aload_n 326 X 0 dX9_goesBy_325 rfl rfl rfl ?_
                    refine g_getr 329 X 12 rfl flX9_43 rfl dX9_goesBy_326 rfl ?_
                    refine g_iload_n 330 X 1 dX9_goesBy_329 rfl rfl rfl ?_
                    refine g_iald 331 X rfl dX9_goesBy_330 rfl ?_
                    refine g_aload_n 332 X 0 dX9_goesBy_331 rfl rfl rfl ?_
                    refine g_geti 335 X rfl flX9_89 rfl dX9_goesBy_332 rfl ?_
                    refine g_icmp_ge 351 338 X dX9_goesBy_335 (by decide) rfl (fun _ => ?_) (fun _ => ?_)
                    · refine g_iconst 352 X dX9_goesBy_351 rfl ci_0 ?_
                      exact g_sub [0, 1, 2] rfl (J73 (0 : Int32) _)
                    · refine g_aload_n 339 X 0 dX9_goesBy_338 rfl rfl rfl ?_
                      refine g_getr 342 X 14 rfl flX9_49 rfl dX9_goesBy_339 rfl ?_
                      refine g_iload_n 343 X 2 dX9_goesBy_342 rfl rfl rfl ?_
                      refine g_iald 344 X rfl dX9_goesBy_343 rfl ?_
                      refine g_if_le 351 347 X dX9_goesBy_344 (by decide) rfl (fun _ => ?_) (fun _ => ?_)
                      · refine g_iconst 352 X dX9_goesBy_351 rfl ci_0 ?_
                        exact g_sub [0, 1, 2] rfl (J73 (0 : Int32) _)
                      · refine g_iconst 348 X dX9_goesBy_347 rfl ci_m1 ?_
                        refine g_goto 352 X dX9_goesBy_348 (by decide) ?_
                        exact g_sub [0, 1, 2] rfl (J73 (-1 : Int32) _)
                  · refine g_aload_n 307 X 0 dX9_goesBy_306 rfl rfl rfl ?_
                    refine g_getr 310 X 14 rfl flX9_49 rfl dX9_goesBy_307 rfl ?_
                    refine g_iload_n 311 X 2 dX9_goesBy_310 rfl rfl rfl ?_
                    refine g_iald 312 X rfl dX9_goesBy_311 rfl ?_
                    refine g_bipush 314 X dX9_goesBy_312 rfl cb_9 ?_
                    refine g_icmp_ge 321 317 X dX9_goesBy_314 (by decide) rfl (fun _ => ?_) (fun _ => ?_)
                    · refine g_iconst 322 X dX9_goesBy_321 rfl ci_0 ?_
                      refine g_goto 352 X dX9_goesBy_322 (by decide) ?_
                      exact g_sub [0, 1, 2] rfl (J73 (0 : Int32) _)
                    · refine g_iconst 318 X dX9_goesBy_317 rfl ci_1 ?_
                      refine g_goto 352 X dX9_goesBy_318 (by decide) ?_
                      exact g_sub [0, 1, 2] rfl (J73 (1 : Int32) _)
      · refine g_sub [1, 2, 0] rfl (g_lp (fun (a44 : Int32) => [(0, .ref (G.2.1 0)), (1, .int x1), (2, .int a44)]) (fun rec48 ih47 a44 S45 => ?_) fl (0 : Int32) _)
        unfold bX9_goesBy_172
        refine g_iload_n 173 X 2 dX9_goesBy_172 rfl rfl rfl ?_
        refine g_aload_n 174 X 0 dX9_goesBy_173 rfl rfl rfl ?_
        refine g_geti 177 X rfl flX9_114 rfl dX9_goesBy_174 rfl ?_
        refine g_icmp_ge 265 180 X dX9_goesBy_177 (by decide) rfl (fun _ => ?_) (fun _ => ?_)
        · exact g_sub [0, 1] rfl (J46 a44 _)
        · refine g_aload_n 181 X 0 dX9_goesBy_180 rfl rfl rfl ?_
          refine g_getr 184 X 13 rfl flX9_46 rfl dX9_goesBy_181 rfl ?_
          refine g_iload_n 185 X 2 dX9_goesBy_184 rfl rfl rfl ?_
          refine g_iald 186 X rfl dX9_goesBy_185 rfl ?_
          refine g_iconst 187 X dX9_goesBy_186 rfl ci_2 ?_
          refine g_joinK 238 (fun (t49 : Int32) => [(0, .ref (G.2.1 0)), (1, .int x1), (2, .int a44)]) (fun (t49 : Int32) => [.int t49]) (fun t49 S50 => ?_) (fun J51 => ?_)
          · refine g_istore_n 239 X [(3, _), (0, _), (1, _), (2, _)] dX9_goesBy_238 rfl rfl (Nat.le_of_ble_eq_true rfl) rfl ?_
            refine g_aload_n 240 X 1 dX9_goesBy_239 rfl rfl rfl ?_
            refine g_dup 241 X dX9_goesBy_240 rfl rfl ?_
            refine g_geti 244 X rfl flX9_174 rfl dX9_goesBy_241 rfl ?_
            refine g_iload_n 245 X 0 dX9_goesBy_244 rfl rfl rfl ?_
            refine g_joinK 255 (fun (t56 : Int32) => [(0, .ref (G.2.1 0)), (1, .int x1), (2, .int a44)]) (fun (t56 : Int32) => [.int t56, .int (S50.1 0 21), .ref (G.2.1 0)]) (fun t56 S57 => ?_) (fun J58 => ?_)
            · refine g_ior 256 X dX9_goesBy_255 rfl ?_
              refine g_puti 259 X rfl flX9_174 fp_9_21 rfl dX9_goesBy_256 rfl ?_
              refine g_iinc 262 X 2 [(2, _), (0, _), (1, _)] dX9_goesBy_259 rfl rfl (ii_1 _) (Nat.le_of_ble_eq_true rfl) rfl ?_
              refine g_goto 172 X dX9_goesBy_262 (by decide) ?_
              exact g_sub [1, 2, 0] rfl (ih47 (a44 + (1 : Int32)) _)
            · refine g_if_eq 254 248 X dX9_goesBy_245 (by decide) rfl (fun _ => ?_) (fun _ => ?_)
              · refine g_iconst 255 X dX9_goesBy_254 rfl ci_0 ?_
                exact g_sub [1, 2, 3] rfl (J58 (0 : Int32) _)
              · refine g_iconst 249 X dX9_goesBy_248 rfl ci_1 ?_
                refine g_iload_n 250 X 3 dX9_goesBy_249 rfl rfl rfl ?_
                refine g_ishl 251 X dX9_goesBy_250 rfl ?_
                refine g_goto 255 X dX9_goesBy_251 (by decide) ?_
                exact g_sub [1, 2, 3] rfl (J58 ((1 : Int32) <<< (a44 &&& 31)) _)
          · refine g_icmp_ne 237 190 X dX9_goesBy_187 (by decide) rfl (fun _ => ?_) (fun _ => ?_)
            · refine g_iconst 238 X dX9_goesBy_237 rfl ci_0 ?_
              exact g_sub [0, 1, 2] rfl (J51 (0 : Int32) _)
            · refine g_aload_n 191 X 0 dX9_goesBy_190 rfl rfl rfl ?_
              refine g_getr 194 X 14 rfl flX9_49 rfl dX9_goesBy_191 rfl ?_
              refine g_iload_n 195 X 2 dX9_goesBy_194 rfl rfl rfl ?_
              refine g_iald 196 X rfl dX9_goesBy_195 rfl ?_
              refine g_aload_n 197 X 0 dX9_goesBy_196 rfl rfl rfl ?_
              refine g_getr 200 X 12 rfl flX9_43 rfl dX9_goesBy_197 rfl ?_
              refine g_iload_n 201 X 1 dX9_goesBy_200 rfl rfl rfl ?_
              refine g_iald 202 X rfl dX9_goesBy_201 rfl ?_
              refine g_iadd 203 X dX9_goesBy_202 rfl ?_
              refine g_bipush 205 X dX9_goesBy_203 rfl cb_10 ?_
              refine g_icmp_lt 237 208 X dX9_goesBy_205 (by decide) rfl (fun _ => ?_) (fun _ => ?_)
              · refine g_iconst 238 X dX9_goesBy_237 rfl ci_0 ?_
                exact g_sub [0, 1, 2] rfl (J51 (0 : Int32) _)
              · refine g_aload_n 209 X 0 dX9_goesBy_208 rfl rfl rfl ?_
                refine g_aload_n 210 X 0 dX9_goesBy_209 rfl rfl rfl ?_
                refine g_getr 213 X 5 rfl flX9_22 rfl dX9_goesBy_210 rfl ?_
                refine g_iload_n 214 X 2 dX9_goesBy_213 rfl rfl rfl ?_
                refine g_iald 215 X rfl dX9_goesBy_214 rfl ?_
                refine g_bipush 217 X dX9_goesBy_215 rfl cb_6 ?_
                refine g_idiv 218 X dX9_goesBy_217 rfl (by decide) ?_
                refine g_iload_n 219 X 1 dX9_goesBy_218 rfl rfl rfl ?_
                refine g_cVi2 222 X (tX9_isOiled _ _ (D) _ _ _) mfX9_isOiled miX9_isOiled lkX9_177 rfl rfl rfl (Nat.le_of_ble_eq_true rfl) dX9_goesBy_219 rfl (fun r52 S53 => ?_)
                refine g_if_ne 237 225 X dX9_goesBy_222 (by decide) rfl (fun _ => ?_) (fun _ => ?_)
                · refine g_iconst 238 X dX9_goesBy_237 rfl ci_0 ?_
                  exact g_sub [0, 1, 2] rfl (J51 (0 : Int32) _)
                · refine g_aload_n 226 X 0 dX9_goesBy_225 rfl rfl rfl ?_
                  refine g_iload_n 227 X 2 dX9_goesBy_226 rfl rfl rfl ?_
                  refine g_cVi1 230 X (tX9_isTop _ _ (D + 1) _ _) mfX9_isTop miX9_isTop lkX9_180 rfl rfl rfl (Nat.le_of_ble_eq_true rfl) dX9_goesBy_227 rfl (fun r54 S55 => ?_)
                  refine g_if_eq 237 233 X dX9_goesBy_230 (by decide) rfl (fun _ => ?_) (fun _ => ?_)
                  · refine g_iconst 238 X dX9_goesBy_237 rfl ci_0 ?_
                    exact g_sub [0, 1, 2] rfl (J51 (0 : Int32) _)
                  · refine g_iconst 234 X dX9_goesBy_233 rfl ci_1 ?_
                    refine g_goto 238 X dX9_goesBy_234 (by decide) ?_
                    exact g_sub [0, 1, 2] rfl (J51 (1 : Int32) _)
    · refine g_sub [1, 2, 0] rfl (g_lp (fun (a20 : Int32) => [(0, .ref (G.2.1 0)), (1, .int x1), (2, .int a20)]) (fun rec24 ih23 a20 S21 => ?_) fl (0 : Int32) _)
      unfold bX9_goesBy_77
      refine g_iload_n 78 X 2 dX9_goesBy_77 rfl rfl rfl ?_
      refine g_aload_n 79 X 0 dX9_goesBy_78 rfl rfl rfl ?_
      refine g_geti 82 X rfl flX9_114 rfl dX9_goesBy_79 rfl ?_
      refine g_icmp_ge 165 85 X dX9_goesBy_82 (by decide) rfl (fun _ => ?_) (fun _ => ?_)
      · exact g_sub [0, 1] rfl (J22 a20 _)
      · refine g_aload_n 86 X 0 dX9_goesBy_85 rfl rfl rfl ?_
        refine g_getr 89 X 4 rfl flX9_19 rfl dX9_goesBy_86 rfl ?_
        refine g_iload_n 90 X 2 dX9_goesBy_89 rfl rfl rfl ?_
        refine g_iald 91 X rfl dX9_goesBy_90 rfl ?_
        refine g_iload_n 92 X 1 dX9_goesBy_91 rfl rfl rfl ?_
        refine g_joinK 159 (fun (t25 : Unit) => [(0, .ref (G.2.1 0)), (1, .int x1), (2, .int a20)]) (fun (t25 : Unit) => []) (fun t25 S26 => ?_) (fun J27 => ?_)
        · refine g_iinc 162 X 2 [(2, _), (0, _), (1, _)] dX9_goesBy_159 rfl rfl (ii_1 _) (Nat.le_of_ble_eq_true rfl) rfl ?_
          refine g_goto 77 X dX9_goesBy_162 (by decide) ?_
          exact g_sub [1, 2, 0] rfl (ih23 (a20 + (1 : Int32)) _)
        · refine g_icmp_ne 159 95 X dX9_goesBy_92 (by decide) rfl (fun _ => ?_) (fun _ => ?_)
          · exact g_sub [0, 1, 2] rfl (J27 () _)
          · refine g_aload_n 96 X 0 dX9_goesBy_95 rfl rfl rfl ?_
            refine g_geti 99 X rfl flX9_161 rfl dX9_goesBy_96 rfl ?_
            refine g_iload_n 100 X 2 dX9_goesBy_99 rfl rfl rfl ?_
            refine g_cSi2 103 X (tX9_isIn _ _ (D + 1) _ _ _) mfX9_isIn msX9_isIn lkX9_167 (Nat.le_of_ble_eq_true rfl) dX9_goesBy_100 rfl (fun r28 S29 => ?_)
            refine g_if_ne 159 106 X dX9_goesBy_103 (by decide) rfl (fun _ => ?_) (fun _ => ?_)
            · exact g_sub [0, 1, 2] rfl (J27 () _)
            · refine g_iconst 107 X dX9_goesBy_106 rfl ci_0 ?_
              refine g_istore_n 108 X [(3, _), (0, _), (1, _), (2, _)] dX9_goesBy_107 rfl rfl (Nat.le_of_ble_eq_true rfl) rfl ?_
              refine g_joinK 152 (fun (a40 : Int32) => [(0, .ref (G.2.1 0)), (1, .int x1), (2, .int a20)]) (fun (a40 : Int32) => []) (fun a40 S41 => ?_) (fun J32 => ?_)
              · refine g_aload_n 153 X 0 dX9_goesBy_152 rfl rfl rfl ?_
                refine g_getr 156 X 13 rfl flX9_46 rfl dX9_goesBy_153 rfl ?_
                refine g_iload_n 157 X 2 dX9_goesBy_156 rfl rfl rfl ?_
                refine g_iconst 158 X dX9_goesBy_157 rfl ci_1 ?_
                refine g_iast 159 X rfl dX9_goesBy_158 rfl ?_
                exact g_sub [0, 1, 2] rfl (J27 () _)
              · refine g_sub [1, 2, 3, 0] rfl (g_lp (fun (a30 : Int32) => [(0, .ref (G.2.1 0)), (1, .int x1), (2, .int a20), (3, .int a30)]) (fun rec34 ih33 a30 S31 => ?_) fl (0 : Int32) _)
                unfold bX9_goesBy_108
                refine g_iload_n 109 X 3 dX9_goesBy_108 rfl rfl rfl ?_
                refine g_aload_n 110 X 0 dX9_goesBy_109 rfl rfl rfl ?_
                refine g_geti 113 X rfl flX9_114 rfl dX9_goesBy_110 rfl ?_
                refine g_icmp_ge 152 116 X dX9_goesBy_113 (by decide) rfl (fun _ => ?_) (fun _ => ?_)
                · exact g_sub [0, 1, 2] rfl (J32 a30 _)
                · refine g_aload_n 117 X 0 dX9_goesBy_116 rfl rfl rfl ?_
                  refine g_getr 120 X 13 rfl flX9_46 rfl dX9_goesBy_117 rfl ?_
                  refine g_iload_n 121 X 3 dX9_goesBy_120 rfl rfl rfl ?_
                  refine g_iald 122 X rfl dX9_goesBy_121 rfl ?_
                  refine g_iconst 123 X dX9_goesBy_122 rfl ci_1 ?_
                  refine g_joinK 146 (fun (t35 : Unit) => [(0, .ref (G.2.1 0)), (1, .int x1), (2, .int a20), (3, .int a30)]) (fun (t35 : Unit) => []) (fun t35 S36 => ?_) (fun J37 => ?_)
                  · refine g_iinc 149 X 3 [(3, _), (0, _), (1, _), (2, _)] dX9_goesBy_146 rfl rfl (ii_1 _) (Nat.le_of_ble_eq_true rfl) rfl ?_
                    refine g_goto 108 X dX9_goesBy_149 (by decide) ?_
                    exact g_sub [1, 2, 3, 0] rfl (ih33 (a30 + (1 : Int32)) _)
                  · refine g_icmp_ne 146 126 X dX9_goesBy_123 (by decide) rfl (fun _ => ?_) (fun _ => ?_)
                    · exact g_sub [0, 1, 2, 3] rfl (J37 () _)
                    · refine g_aload_n 127 X 0 dX9_goesBy_126 rfl rfl rfl ?_
                      refine g_getr 130 X 5 rfl flX9_22 rfl dX9_goesBy_127 rfl ?_
                      refine g_iload_n 131 X 3 dX9_goesBy_130 rfl rfl rfl ?_
                      refine g_iald 132 X rfl dX9_goesBy_131 rfl ?_
                      refine g_aload_n 133 X 0 dX9_goesBy_132 rfl rfl rfl ?_
                      refine g_getr 136 X 5 rfl flX9_22 rfl dX9_goesBy_133 rfl ?_
                      refine g_iload_n 137 X 2 dX9_goesBy_136 rfl rfl rfl ?_
                      refine g_iald 138 X rfl dX9_goesBy_137 rfl ?_
                      refine g_icmp_ne 146 141 X dX9_goesBy_138 (by decide) rfl (fun _ => ?_) (fun _ => ?_)
                      · exact g_sub [0, 1, 2, 3] rfl (J37 () _)
                      · refine g_aload_n 142 X 0 dX9_goesBy_141 rfl rfl rfl ?_
                        refine g_iload_n 143 X 3 dX9_goesBy_142 rfl rfl rfl ?_
                        refine g_cVv1 146 X (tX9_goesIn _ _ (D + 1) _ _) mfX9_goesIn miX9_goesIn lkX9_170 rfl rfl rfl (Nat.le_of_ble_eq_true rfl) dX9_goesBy_143 rfl (fun r38 S39 => ?_)
                        exact g_sub [0, 1, 2, 3] rfl (J37 () _)
  · refine g_sub [1, 2, 0] rfl (g_lp (fun (a1 : Int32) => [(0, .ref (G.2.1 0)), (1, .int x1), (2, .int a1)]) (fun rec5 ih4 a1 S2 => ?_) fl (0 : Int32) _)
    unfold bX9_goesBy_2
    refine g_iload_n 3 X 2 dX9_goesBy_2 rfl rfl rfl ?_
    refine g_aload_n 4 X 0 dX9_goesBy_3 rfl rfl rfl ?_
    refine g_geti 7 X rfl flX9_146 rfl dX9_goesBy_4 rfl ?_
    refine g_icmp_ge 75 10 X dX9_goesBy_7 (by decide) rfl (fun _ => ?_) (fun _ => ?_)
    · exact g_sub [0, 1] rfl (J3 a1 _)
    · refine g_iconst 11 X dX9_goesBy_10 rfl ci_0 ?_
      refine g_istore_n 12 X [(3, _), (0, _), (1, _), (2, _)] dX9_goesBy_11 rfl rfl (Nat.le_of_ble_eq_true rfl) rfl ?_
      refine g_joinK 69 (fun (a16 : Int32) => [(0, .ref (G.2.1 0)), (1, .int x1), (2, .int a1)]) (fun (a16 : Int32) => []) (fun a16 S17 => ?_) (fun J8 => ?_)
      · refine g_iinc 72 X 2 [(2, _), (0, _), (1, _)] dX9_goesBy_69 rfl rfl (ii_1 _) (Nat.le_of_ble_eq_true rfl) rfl ?_
        refine g_goto 2 X dX9_goesBy_72 (by decide) ?_
        exact g_sub [1, 2, 0] rfl (ih4 (a1 + (1 : Int32)) _)
      · refine g_sub [1, 2, 3, 0] rfl (g_lp (fun (a6 : Int32) => [(0, .ref (G.2.1 0)), (1, .int x1), (2, .int a1), (3, .int a6)]) (fun rec10 ih9 a6 S7 => ?_) fl (0 : Int32) _)
        unfold bX9_goesBy_12
        refine g_iload_n 13 X 3 dX9_goesBy_12 rfl rfl rfl ?_
        refine g_aload_n 14 X 0 dX9_goesBy_13 rfl rfl rfl ?_
        refine g_geti 17 X rfl flX9_114 rfl dX9_goesBy_14 rfl ?_
        refine g_icmp_ge 69 20 X dX9_goesBy_17 (by decide) rfl (fun _ => ?_) (fun _ => ?_)
        · exact g_sub [0, 1, 2] rfl (J8 a6 _)
        · refine g_aload_n 21 X 0 dX9_goesBy_20 rfl rfl rfl ?_
          refine g_getr 24 X 8 rfl flX9_31 rfl dX9_goesBy_21 rfl ?_
          refine g_iload_n 25 X 2 dX9_goesBy_24 rfl rfl rfl ?_
          refine g_iald 26 X rfl dX9_goesBy_25 rfl ?_
          refine g_iload_n 27 X 1 dX9_goesBy_26 rfl rfl rfl ?_
          refine g_joinK 63 (fun (t11 : Unit) => [(0, .ref (G.2.1 0)), (1, .int x1), (2, .int a1), (3, .int a6)]) (fun (t11 : Unit) => []) (fun t11 S12 => ?_) (fun J13 => ?_)
          · refine g_iinc 66 X 3 [(3, _), (0, _), (1, _), (2, _)] dX9_goesBy_63 rfl rfl (ii_1 _) (Nat.le_of_ble_eq_true rfl) rfl ?_
            refine g_goto 12 X dX9_goesBy_66 (by decide) ?_
            exact g_sub [1, 2, 3, 0] rfl (ih9 (a6 + (1 : Int32)) _)
          · refine g_icmp_ne 63 30 X dX9_goesBy_27 (by decide) rfl (fun _ => ?_) (fun _ => ?_)
            · exact g_sub [0, 1, 2, 3] rfl (J13 () _)
            · refine g_aload_n 31 X 0 dX9_goesBy_30 rfl rfl rfl ?_
              refine g_getr 34 X 13 rfl flX9_46 rfl dX9_goesBy_31 rfl ?_
              refine g_iload_n 35 X 3 dX9_goesBy_34 rfl rfl rfl ?_
              refine g_iald 36 X rfl dX9_goesBy_35 rfl ?_
              refine g_iconst 37 X dX9_goesBy_36 rfl ci_1 ?_
              refine g_icmp_ne 63 40 X dX9_goesBy_37 (by decide) rfl (fun _ => ?_) (fun _ => ?_)
              · exact g_sub [0, 1, 2, 3] rfl (J13 () _)
              · refine g_aload_n 41 X 0 dX9_goesBy_40 rfl rfl rfl ?_
                refine g_getr 44 X 5 rfl flX9_22 rfl dX9_goesBy_41 rfl ?_
                refine g_iload_n 45 X 3 dX9_goesBy_44 rfl rfl rfl ?_
                refine g_iald 46 X rfl dX9_goesBy_45 rfl ?_
                refine g_bipush 48 X dX9_goesBy_46 rfl cb_6 ?_
                refine g_idiv 49 X dX9_goesBy_48 rfl (by decide) ?_
                refine g_aload_n 50 X 0 dX9_goesBy_49 rfl rfl rfl ?_
                refine g_getr 53 X 9 rfl flX9_34 rfl dX9_goesBy_50 rfl ?_
                refine g_iload_n 54 X 2 dX9_goesBy_53 rfl rfl rfl ?_
                refine g_iald 55 X rfl dX9_goesBy_54 rfl ?_
                refine g_icmp_ne 63 58 X dX9_goesBy_55 (by decide) rfl (fun _ => ?_) (fun _ => ?_)
                · exact g_sub [0, 1, 2, 3] rfl (J13 () _)
                · refine g_aload_n 59 X 0 dX9_goesBy_58 rfl rfl rfl ?_
                  refine g_iload_n 60 X 3 dX9_goesBy_59 rfl rfl rfl ?_
                  refine g_cVv1 63 X (tX9_goesIn _ _ (D + 1) _ _) mfX9_goesIn miX9_goesIn lkX9_170 rfl rfl rfl (Nat.le_of_ble_eq_true rfl) dX9_goesBy_60 rfl (fun r14 S15 => ?_)
                  exact g_sub [0, 1, 2, 3] rfl (J13 () _)
def bX9_runs_2 (rec : Int32 → Sg → Option ((Int32) × Sg)) (a1 : Int32) (S2 : Sg) : Option ((Int32) × Sg) :=
  (if (8 : Int32) ≤ a1 then some (a1, S2) else gd (ix a1 8) (gd (ix a1 8) (rec (a1 + (1 : Int32)) (sI (sI S2 13 (Int32.toNatClampNeg a1) (0 : Int32)) 14 (Int32.toNatClampNeg a1) (0 : Int32)))))
def bX9_runs_30 (rec : Int32 → Sg → Option ((Int32) × Sg)) (a8 : Int32) (S9 : Sg) : Option ((Int32) × Sg) :=
  (if (20 : Int32) ≤ a8 then some (a8, S9) else bd (fX9_goesBy a8 S9) (fun r10 S11 => rec (a8 + (1 : Int32)) S11))
def fX9_runs  (S : Sg) : Option (Unit × Sg) :=
  bd (lp (bX9_runs_2) fl (0 : Int32) S) (fun (a6 : Int32) S7 => bd (lp (bX9_runs_30) fl (0 : Int32) S7) (fun (a15 : Int32) S16 => some ((), S16)))
set_option maxHeartbeats 4000000 in
set_option maxRecDepth 100000 in
theorem tX9_runs (G : Gd) (l : Launch) (D : Nat)  (S : Sg) : Ct LM G l rV yX9_runs cX9_runs 2 none (D + 3) [.ref (G.2.1 0)] S (fX9_runs  S) := by
  refine Ct.of (by decide) (Nat.le_of_ble_eq_true rfl) (fun Z hZ X => ?_)
  subst hZ
  show Go LM G Z 2 rV 0 [(0, .ref (G.2.1 0))] [] S (fX9_runs  S) kz
  unfold fX9_runs
  refine g_iconst 1 X dX9_runs_0 rfl ci_0 ?_
  refine g_istore_n 2 X [(1, _), (0, _)] dX9_runs_1 rfl rfl (Nat.le_of_ble_eq_true rfl) rfl ?_
  refine g_joinK 28 (fun (a6 : Int32) => [(0, .ref (G.2.1 0))]) (fun (a6 : Int32) => []) (fun a6 S7 => ?_) (fun J3 => ?_)
  · refine g_iconst 29 X dX9_runs_28 rfl ci_0 ?_
    refine g_istore_n 30 X [(1, _), (0, _)] dX9_runs_29 rfl rfl (Nat.le_of_ble_eq_true rfl) rfl ?_
    refine g_joinK 47 (fun (a15 : Int32) => []) (fun (a15 : Int32) => []) (fun a15 S16 => ?_) (fun J10 => ?_)
    · exact g_vret X dX9_runs_47 rfl
    · refine g_sub [1, 0] rfl (g_lp (fun (a8 : Int32) => [(0, .ref (G.2.1 0)), (1, .int a8)]) (fun rec12 ih11 a8 S9 => ?_) fl (0 : Int32) _)
      unfold bX9_runs_30
      refine g_iload_n 31 X 1 dX9_runs_30 rfl rfl rfl ?_
      refine g_bipush 33 X dX9_runs_31 rfl cb_20 ?_
      refine g_icmp_ge 47 36 X dX9_runs_33 (by decide) rfl (fun _ => ?_) (fun _ => ?_)
      · exact g_sub [] rfl (J10 a8 _)
      · refine g_aload_n 37 X 0 dX9_runs_36 rfl rfl rfl ?_
        refine g_iload_n 38 X 1 dX9_runs_37 rfl rfl rfl ?_
        refine g_cVv1 41 X (tX9_goesBy _ _ (D) _ _) mfX9_goesBy miX9_goesBy lkX9_183 rfl rfl rfl (Nat.le_of_ble_eq_true rfl) dX9_runs_38 rfl (fun r13 S14 => ?_)
        refine g_iinc 44 X 1 [(1, _), (0, _)] dX9_runs_41 rfl rfl (ii_1 _) (Nat.le_of_ble_eq_true rfl) rfl ?_
        refine g_goto 30 X dX9_runs_44 (by decide) ?_
        exact g_sub [1, 0] rfl (ih11 (a8 + (1 : Int32)) _)
  · refine g_sub [1, 0] rfl (g_lp (fun (a1 : Int32) => [(0, .ref (G.2.1 0)), (1, .int a1)]) (fun rec5 ih4 a1 S2 => ?_) fl (0 : Int32) _)
    unfold bX9_runs_2
    refine g_iload_n 3 X 1 dX9_runs_2 rfl rfl rfl ?_
    refine g_bipush 5 X dX9_runs_3 rfl cb_8 ?_
    refine g_icmp_ge 28 8 X dX9_runs_5 (by decide) rfl (fun _ => ?_) (fun _ => ?_)
    · exact g_sub [0] rfl (J3 a1 _)
    · refine g_aload_n 9 X 0 dX9_runs_8 rfl rfl rfl ?_
      refine g_getr 12 X 13 rfl flX9_46 rfl dX9_runs_9 rfl ?_
      refine g_iload_n 13 X 1 dX9_runs_12 rfl rfl rfl ?_
      refine g_iconst 14 X dX9_runs_13 rfl ci_0 ?_
      refine g_iast 15 X rfl dX9_runs_14 rfl ?_
      refine g_aload_n 16 X 0 dX9_runs_15 rfl rfl rfl ?_
      refine g_getr 19 X 14 rfl flX9_49 rfl dX9_runs_16 rfl ?_
      refine g_iload_n 20 X 1 dX9_runs_19 rfl rfl rfl ?_
      refine g_iconst 21 X dX9_runs_20 rfl ci_0 ?_
      refine g_iast 22 X rfl dX9_runs_21 rfl ?_
      refine g_iinc 25 X 1 [(1, _), (0, _)] dX9_runs_22 rfl rfl (ii_1 _) (Nat.le_of_ble_eq_true rfl) rfl ?_
      refine g_goto 2 X dX9_runs_25 (by decide) ?_
      exact g_sub [1, 0] rfl (ih4 (a1 + (1 : Int32)) _)
def fX9_runsTold  (S : Sg) : Option (Unit × Sg) :=
  bd (fX9_asTold S) (fun r1 S2 => bd (fX9_runs S2) (fun r3 S4 => some ((), S4)))
set_option maxHeartbeats 4000000 in
set_option maxRecDepth 100000 in
theorem tX9_runsTold (G : Gd) (l : Launch) (D : Nat)  (S : Sg) : Ct LM G l rV yX9_runsTold cX9_runsTold 1 none (D + 7) [.ref (G.2.1 0)] S (fX9_runsTold  S) := by
  refine Ct.of (by decide) (Nat.le_of_ble_eq_true rfl) (fun Z hZ X => ?_)
  subst hZ
  show Go LM G Z 1 rV 0 [(0, .ref (G.2.1 0))] [] S (fX9_runsTold  S) kz
  unfold fX9_runsTold
  refine g_aload_n 1 X 0 dX9_runsTold_0 rfl rfl rfl ?_
  refine g_cVv0 4 X (tX9_asTold _ _ (D)  _) mfX9_asTold miX9_asTold lkX9_186 rfl rfl rfl (Nat.le_of_ble_eq_true rfl) dX9_runsTold_1 rfl (fun r1 S2 => ?_)
  refine g_aload_n 5 X 0 dX9_runsTold_4 rfl rfl rfl ?_
  refine g_cVv0 8 X (tX9_runs _ _ (D + 3)  _) mfX9_runs miX9_runs lkX9_189 rfl rfl rfl (Nat.le_of_ble_eq_true rfl) dX9_runsTold_5 rfl (fun r3 S4 => ?_)
  exact g_vret X dX9_runsTold_8 rfl
def bX9_standsNow_5 (c1 : Int32) (c2 : Int32) (rec : (Int32 × Int32) → Sg → Option ((Int32 × Int32) × Sg)) (a1 : Int32 × Int32) (S2 : Sg) : Option ((Int32 × Int32) × Sg) :=
  (if (S2.1 0 4) ≤ a1.2 then some ((a1.1, a1.2), S2) else gd (ix (((8 : Int32) * c1) + a1.2) 160) (gd (ix a1.2 9) (bd ((if (S2.1 5 (Int32.toNatClampNeg a1.2)) = c2 then (if (S2.1 16 (Int32.toNatClampNeg (((8 : Int32) * c1) + a1.2))) = (1 : Int32) then gd (ix a1.2 9) (some ((S2.1 6 (Int32.toNatClampNeg a1.2)), S2)) else (if (S2.1 16 (Int32.toNatClampNeg (((8 : Int32) * c1) + a1.2))) = (3 : Int32) then gd (ix a1.2 9) (some (((6 : Int32) + (S2.1 6 (Int32.toNatClampNeg a1.2))), S2)) else some (a1.1, S2))) else some (a1.1, S2))) (fun (t3 : Int32) S4 => rec (t3, (a1.2 + (1 : Int32))) S4))))
def fX9_standsNow (x1 : Int32) (x2 : Int32) (S : Sg) : Option (Int32 × Sg) :=
  bd (lp (bX9_standsNow_5 x1 x2) fl ((-1 : Int32), (0 : Int32)) S) (fun (a9 : Int32 × Int32) S10 => some (a9.1, S10))
set_option maxHeartbeats 4000000 in
set_option maxRecDepth 100000 in
theorem tX9_standsNow (G : Gd) (l : Launch) (D : Nat) (x1 : Int32) (x2 : Int32) (S : Sg) : Ct LM G l rI yX9_standsNow cX9_standsNow 6 (some .int) (D + 0) [.ref (G.2.1 0), .int x1, .int x2] S (fX9_standsNow x1 x2 S) := by
  refine Ct.of (by decide) (Nat.le_of_ble_eq_true rfl) (fun Z hZ X => ?_)
  subst hZ
  show Go LM G Z 6 rI 0 [(0, .ref (G.2.1 0)), (1, .int x1), (2, .int x2)] [] S (fX9_standsNow x1 x2 S) kz
  unfold fX9_standsNow
  refine g_iconst 1 X dX9_standsNow_0 rfl ci_m1 ?_
  refine g_istore_n 2 X [(3, _), (0, _), (1, _), (2, _)] dX9_standsNow_1 rfl rfl (Nat.le_of_ble_eq_true rfl) rfl ?_
  refine g_iconst 3 X dX9_standsNow_2 rfl ci_0 ?_
  refine g_istore 5 X [(4, _), (3, _), (0, _), (1, _), (2, _)] dX9_standsNow_3 rfl (Nat.le_of_ble_eq_true rfl) rfl ?_
  refine g_joinK 86 (fun (a9 : Int32 × Int32) => [(3, .int a9.1)]) (fun (a9 : Int32 × Int32) => []) (fun a9 S10 => ?_) (fun J3 => ?_)
  · refine g_iload_n 87 X 0 dX9_standsNow_86 rfl rfl rfl ?_
    exact g_iret X dX9_standsNow_87 rfl
  · refine g_sub [2, 3, 4, 1, 0] rfl (g_lp (fun (a1 : Int32 × Int32) => [(0, .ref (G.2.1 0)), (1, .int x1), (2, .int x2), (3, .int a1.1), (4, .int a1.2)]) (fun rec5 ih4 a1 S2 => ?_) fl ((-1 : Int32), (0 : Int32)) _)
    unfold bX9_standsNow_5
    refine g_iload 7 X 4 dX9_standsNow_5 rfl rfl ?_
    refine g_aload_n 8 X 0 dX9_standsNow_7 rfl rfl rfl ?_
    refine g_geti 11 X rfl flX9_114 rfl dX9_standsNow_8 rfl ?_
    refine g_icmp_ge 86 14 X dX9_standsNow_11 (by decide) rfl (fun _ => ?_) (fun _ => ?_)
    · exact g_sub [3] rfl (J3 (a1.1, a1.2) _)
    · refine g_aload_n 15 X 0 dX9_standsNow_14 rfl rfl rfl ?_
      refine g_getr 18 X 16 rfl flX9_55 rfl dX9_standsNow_15 rfl ?_
      refine g_bipush 20 X dX9_standsNow_18 rfl cb_8 ?_
      refine g_iload_n 21 X 1 dX9_standsNow_20 rfl rfl rfl ?_
      refine g_imul 22 X dX9_standsNow_21 rfl ?_
      refine g_iload 24 X 4 dX9_standsNow_22 rfl rfl ?_
      refine g_iadd 25 X dX9_standsNow_24 rfl ?_
      refine g_iald 26 X rfl dX9_standsNow_25 rfl ?_
      refine g_istore 28 X [(5, _), (0, _), (1, _), (2, _), (3, _), (4, _)] dX9_standsNow_26 rfl (Nat.le_of_ble_eq_true rfl) rfl ?_
      refine g_aload_n 29 X 1 dX9_standsNow_28 rfl rfl rfl ?_
      refine g_getr 32 X 5 rfl flX9_22 rfl dX9_standsNow_29 rfl ?_
      refine g_iload 34 X 5 dX9_standsNow_32 rfl rfl ?_
      refine g_iald 35 X rfl dX9_standsNow_34 rfl ?_
      refine g_iload_n 36 X 3 dX9_standsNow_35 rfl rfl rfl ?_
      refine g_joinK 79 (fun (t6 : Int32) => [(0, .ref (G.2.1 0)), (1, .int x1), (2, .int x2), (4, .int a1.2)]) (fun (t6 : Int32) => [.int t6]) (fun t6 S7 => ?_) (fun J8 => ?_)
      · refine g_istore_n 80 X [(3, _), (0, _), (1, _), (2, _), (4, _)] dX9_standsNow_79 rfl rfl (Nat.le_of_ble_eq_true rfl) rfl ?_
        refine g_iinc 83 X 4 [(4, _), (3, _), (0, _), (1, _), (2, _)] dX9_standsNow_80 rfl rfl (ii_1 _) (Nat.le_of_ble_eq_true rfl) rfl ?_
        refine g_goto 5 X dX9_standsNow_83 (by decide) ?_
        exact g_sub [2, 3, 4, 1, 0] rfl (ih4 (t6, (a1.2 + (1 : Int32))) _)
      · refine g_icmp_eq 43 39 X dX9_standsNow_36 (by decide) rfl (fun _ => ?_) (fun _ => ?_)
        · refine g_iload 45 X 0 dX9_standsNow_43 rfl rfl ?_
          refine g_iconst 46 X dX9_standsNow_45 rfl ci_1 ?_
          refine g_icmp_ne 59 49 X dX9_standsNow_46 (by decide) rfl (fun _ => ?_) (fun _ => ?_)
          · refine g_iload 61 X 0 dX9_standsNow_59 rfl rfl ?_
            refine g_iconst 62 X dX9_standsNow_61 rfl ci_3 ?_
            refine g_icmp_ne 78 65 X dX9_standsNow_62 (by decide) rfl (fun _ => ?_) (fun _ => ?_)
            · refine g_iload_n 79 X 4 dX9_standsNow_78 rfl rfl rfl ?_
              exact g_sub [1, 2, 3, 5] rfl (J8 a1.1 _)
            · refine g_bipush 67 X dX9_standsNow_65 rfl cb_6 ?_
              refine g_aload_n 68 X 1 dX9_standsNow_67 rfl rfl rfl ?_
              refine g_getr 71 X 6 rfl flX9_25 rfl dX9_standsNow_68 rfl ?_
              refine g_iload 73 X 5 dX9_standsNow_71 rfl rfl ?_
              refine g_iald 74 X rfl dX9_standsNow_73 rfl ?_
              refine g_iadd 75 X dX9_standsNow_74 rfl ?_
              refine g_goto 79 X dX9_standsNow_75 (by decide) ?_
              exact g_sub [1, 2, 3, 5] rfl (J8 ((6 : Int32) + (S2.1 6 (Int32.toNatClampNeg a1.2))) _)
          · refine g_aload_n 50 X 1 dX9_standsNow_49 rfl rfl rfl ?_
            refine g_getr 53 X 6 rfl flX9_25 rfl dX9_standsNow_50 rfl ?_
            refine g_iload 55 X 5 dX9_standsNow_53 rfl rfl ?_
            refine g_iald 56 X rfl dX9_standsNow_55 rfl ?_
            refine g_goto 79 X dX9_standsNow_56 (by decide) ?_
            exact g_sub [1, 2, 3, 5] rfl (J8 (S2.1 6 (Int32.toNatClampNeg a1.2)) _)
        · refine g_iload_n 40 X 4 dX9_standsNow_39 rfl rfl rfl ?_
          refine g_goto 79 X dX9_standsNow_40 (by decide) ?_
          exact g_sub [1, 2, 3, 5] rfl (J8 a1.1 _)
def fX9_standsOf (x1 : Int32) (x2 : Int32) (S : Sg) : Option (Int32 × Sg) :=
  bd (fX9_runsTold S) (fun r1 S2 => bd (fX9_standsNow x1 x2 S2) (fun r3 S4 => some (r3, S4)))
set_option maxHeartbeats 4000000 in
set_option maxRecDepth 100000 in
theorem tX9_standsOf (G : Gd) (l : Launch) (D : Nat) (x1 : Int32) (x2 : Int32) (S : Sg) : Ct LM G l rI yX9_standsOf cX9_standsOf 3 (some .int) (D + 8) [.ref (G.2.1 0), .int x1, .int x2] S (fX9_standsOf x1 x2 S) := by
  refine Ct.of (by decide) (Nat.le_of_ble_eq_true rfl) (fun Z hZ X => ?_)
  subst hZ
  show Go LM G Z 3 rI 0 [(0, .ref (G.2.1 0)), (1, .int x1), (2, .int x2)] [] S (fX9_standsOf x1 x2 S) kz
  unfold fX9_standsOf
  refine g_aload_n 1 X 0 dX9_standsOf_0 rfl rfl rfl ?_
  refine g_cVv0 4 X (tX9_runsTold _ _ (D)  _) mfX9_runsTold miX9_runsTold lkX9_192 rfl rfl rfl (Nat.le_of_ble_eq_true rfl) dX9_standsOf_1 rfl (fun r1 S2 => ?_)
  refine g_aload_n 5 X 0 dX9_standsOf_4 rfl rfl rfl ?_
  refine g_iload_n 6 X 1 dX9_standsOf_5 rfl rfl rfl ?_
  refine g_iload_n 7 X 2 dX9_standsOf_6 rfl rfl rfl ?_
  refine g_cVi2 10 X (tX9_standsNow _ _ (D + 7) _ _ _) mfX9_standsNow miX9_standsNow lkX9_195 rfl rfl rfl (Nat.le_of_ble_eq_true rfl) dX9_standsOf_7 rfl (fun r3 S4 => ?_)
  exact g_iret X dX9_standsOf_10 rfl
def fX9_stands (x1 : Int32) (x2 : Int32) (S : Sg) : Option (Int32 × Sg) :=
  bd (fX9_isDay x1 S) (fun r1 S2 => (if r1 = 0 then some ((-2 : Int32), S2) else bd (fX9_isCell x2 S2) (fun r3 S4 => (if r3 = 0 then some ((-2 : Int32), S4) else bd (fX9_standsOf x1 x2 S4) (fun r5 S6 => some (r5, S6))))))
set_option maxHeartbeats 4000000 in
set_option maxRecDepth 100000 in
theorem tX9_stands (G : Gd) (l : Launch) (D : Nat) (x1 : Int32) (x2 : Int32) (S : Sg) : Ct LM G l rI yX9_stands cX9_stands 3 (some .int) (D + 9) [.ref (G.2.1 0), .int x1, .int x2] S (fX9_stands x1 x2 S) := by
  refine Ct.of (by decide) (Nat.le_of_ble_eq_true rfl) (fun Z hZ X => ?_)
  subst hZ
  show Go LM G Z 3 rI 0 [(0, .ref (G.2.1 0)), (1, .int x1), (2, .int x2)] [] S (fX9_stands x1 x2 S) kz
  unfold fX9_stands
  refine g_iload_n 1 X 1 dX9_stands_0 rfl rfl rfl ?_
  refine g_cSi1 4 X (tX9_isDay _ _ (D + 7) _ _) mfX9_isDay msX9_isDay lkX9_134 (Nat.le_of_ble_eq_true rfl) dX9_stands_1 rfl (fun r1 S2 => ?_)
  refine g_if_eq 23 7 X dX9_stands_4 (by decide) rfl (fun _ => ?_) (fun _ => ?_)
  · refine g_bipush 25 X dX9_stands_23 rfl cb_m2 ?_
    exact g_iret X dX9_stands_25 rfl
  · refine g_iload_n 8 X 2 dX9_stands_7 rfl rfl rfl ?_
    refine g_cSi1 11 X (tX9_isCell _ _ (D + 7) _ _) mfX9_isCell msX9_isCell lkX9_198 (Nat.le_of_ble_eq_true rfl) dX9_stands_8 rfl (fun r3 S4 => ?_)
    refine g_if_eq 23 14 X dX9_stands_11 (by decide) rfl (fun _ => ?_) (fun _ => ?_)
    · refine g_bipush 25 X dX9_stands_23 rfl cb_m2 ?_
      exact g_iret X dX9_stands_25 rfl
    · refine g_aload_n 15 X 0 dX9_stands_14 rfl rfl rfl ?_
      refine g_iload_n 16 X 1 dX9_stands_15 rfl rfl rfl ?_
      refine g_iload_n 17 X 2 dX9_stands_16 rfl rfl rfl ?_
      refine g_cVi2 20 X (tX9_standsOf _ _ (D) _ _ _) mfX9_standsOf miX9_standsOf lkX9_201 rfl rfl rfl (Nat.le_of_ble_eq_true rfl) dX9_stands_17 rfl (fun r5 S6 => ?_)
      refine g_goto 25 X dX9_stands_20 (by decide) ?_
      exact g_iret X dX9_stands_25 rfl
def fX9_stateOf (x1 : Int32) (x2 : Int32) (x3 : Int32) (S : Sg) : Option (Int32 × Sg) :=
  bd (fX9_runsTold S) (fun r1 S2 => (if x3 = 0 then gd (ix (((8 : Int32) * x1) + x2) 160) (some ((S2.1 16 (Int32.toNatClampNeg (((8 : Int32) * x1) + x2))), S2)) else gd (ix (((8 : Int32) * x1) + x2) 160) (some ((S2.1 17 (Int32.toNatClampNeg (((8 : Int32) * x1) + x2))), S2))))
set_option maxHeartbeats 4000000 in
set_option maxRecDepth 100000 in
theorem tX9_stateOf (G : Gd) (l : Launch) (D : Nat) (x1 : Int32) (x2 : Int32) (x3 : Int32) (S : Sg) : Ct LM G l rI yX9_stateOf cX9_stateOf 4 (some .int) (D + 8) [.ref (G.2.1 0), .int x1, .int x2, .int x3] S (fX9_stateOf x1 x2 x3 S) := by
  refine Ct.of (by decide) (Nat.le_of_ble_eq_true rfl) (fun Z hZ X => ?_)
  subst hZ
  show Go LM G Z 4 rI 0 [(0, .ref (G.2.1 0)), (1, .int x1), (2, .int x2), (3, .int x3)] [] S (fX9_stateOf x1 x2 x3 S) kz
  unfold fX9_stateOf
  refine g_aload_n 1 X 0 dX9_stateOf_0 rfl rfl rfl ?_
  refine g_cVv0 4 X (tX9_runsTold _ _ (D)  _) mfX9_runsTold miX9_runsTold lkX9_192 rfl rfl rfl (Nat.le_of_ble_eq_true rfl) dX9_stateOf_1 rfl (fun r1 S2 => ?_)
  refine g_iload_n 5 X 3 dX9_stateOf_4 rfl rfl rfl ?_
  refine g_if_ne 22 8 X dX9_stateOf_5 (by decide) rfl (fun _ => ?_) (fun _ => ?_)
  · refine g_aload_n 23 X 0 dX9_stateOf_22 rfl rfl rfl ?_
    refine g_getr 26 X 17 rfl flX9_58 rfl dX9_stateOf_23 rfl ?_
    refine g_bipush 28 X dX9_stateOf_26 rfl cb_8 ?_
    refine g_iload_n 29 X 1 dX9_stateOf_28 rfl rfl rfl ?_
    refine g_imul 30 X dX9_stateOf_29 rfl ?_
    refine g_iload_n 31 X 2 dX9_stateOf_30 rfl rfl rfl ?_
    refine g_iadd 32 X dX9_stateOf_31 rfl ?_
    refine g_iald 33 X rfl dX9_stateOf_32 rfl ?_
    exact g_iret X dX9_stateOf_33 rfl
  · refine g_aload_n 9 X 0 dX9_stateOf_8 rfl rfl rfl ?_
    refine g_getr 12 X 16 rfl flX9_55 rfl dX9_stateOf_9 rfl ?_
    refine g_bipush 14 X dX9_stateOf_12 rfl cb_8 ?_
    refine g_iload_n 15 X 1 dX9_stateOf_14 rfl rfl rfl ?_
    refine g_imul 16 X dX9_stateOf_15 rfl ?_
    refine g_iload_n 17 X 2 dX9_stateOf_16 rfl rfl rfl ?_
    refine g_iadd 18 X dX9_stateOf_17 rfl ?_
    refine g_iald 19 X rfl dX9_stateOf_18 rfl ?_
    refine g_goto 33 X dX9_stateOf_19 (by decide) ?_
    exact g_iret X dX9_stateOf_33 rfl
def fX9_state (x1 : Int32) (x2 : Int32) (x3 : Int32) (S : Sg) : Option (Int32 × Sg) :=
  bd (fX9_isDay x1 S) (fun r1 S2 => (if r1 = 0 then some ((-2 : Int32), S2) else bd (fX9_isStroke x2 S2) (fun r3 S4 => (if r3 = 0 then some ((-2 : Int32), S4) else bd (fX9_in x3 (0 : Int32) (1 : Int32) S4) (fun r5 S6 => (if r5 = 0 then some ((-2 : Int32), S6) else bd (fX9_stateOf x1 x2 x3 S6) (fun r7 S8 => some (r7, S8))))))))
set_option maxHeartbeats 4000000 in
set_option maxRecDepth 100000 in
theorem tX9_state (G : Gd) (l : Launch) (D : Nat) (x1 : Int32) (x2 : Int32) (x3 : Int32) (S : Sg) : Ct LM G l rI yX9_state cX9_state 4 (some .int) (D + 9) [.ref (G.2.1 0), .int x1, .int x2, .int x3] S (fX9_state x1 x2 x3 S) := by
  refine Ct.of (by decide) (Nat.le_of_ble_eq_true rfl) (fun Z hZ X => ?_)
  subst hZ
  show Go LM G Z 4 rI 0 [(0, .ref (G.2.1 0)), (1, .int x1), (2, .int x2), (3, .int x3)] [] S (fX9_state x1 x2 x3 S) kz
  unfold fX9_state
  refine g_iload_n 1 X 1 dX9_state_0 rfl rfl rfl ?_
  refine g_cSi1 4 X (tX9_isDay _ _ (D + 7) _ _) mfX9_isDay msX9_isDay lkX9_134 (Nat.le_of_ble_eq_true rfl) dX9_state_1 rfl (fun r1 S2 => ?_)
  refine g_if_eq 34 7 X dX9_state_4 (by decide) rfl (fun _ => ?_) (fun _ => ?_)
  · refine g_bipush 36 X dX9_state_34 rfl cb_m2 ?_
    exact g_iret X dX9_state_36 rfl
  · refine g_aload_n 8 X 0 dX9_state_7 rfl rfl rfl ?_
    refine g_iload_n 9 X 2 dX9_state_8 rfl rfl rfl ?_
    refine g_cVi1 12 X (tX9_isStroke _ _ (D + 2) _ _) mfX9_isStroke miX9_isStroke lkX9_140 rfl rfl rfl (Nat.le_of_ble_eq_true rfl) dX9_state_9 rfl (fun r3 S4 => ?_)
    refine g_if_eq 34 15 X dX9_state_12 (by decide) rfl (fun _ => ?_) (fun _ => ?_)
    · refine g_bipush 36 X dX9_state_34 rfl cb_m2 ?_
      exact g_iret X dX9_state_36 rfl
    · refine g_iload_n 16 X 3 dX9_state_15 rfl rfl rfl ?_
      refine g_iconst 17 X dX9_state_16 rfl ci_0 ?_
      refine g_iconst 18 X dX9_state_17 rfl ci_1 ?_
      refine g_cSi3 21 X (tX9_in _ _ (D + 8) _ _ _ _) mfX9_in msX9_in lkX9_95 (Nat.le_of_ble_eq_true rfl) dX9_state_18 rfl (fun r5 S6 => ?_)
      refine g_if_eq 34 24 X dX9_state_21 (by decide) rfl (fun _ => ?_) (fun _ => ?_)
      · refine g_bipush 36 X dX9_state_34 rfl cb_m2 ?_
        exact g_iret X dX9_state_36 rfl
      · refine g_aload_n 25 X 0 dX9_state_24 rfl rfl rfl ?_
        refine g_iload_n 26 X 1 dX9_state_25 rfl rfl rfl ?_
        refine g_iload_n 27 X 2 dX9_state_26 rfl rfl rfl ?_
        refine g_iload_n 28 X 3 dX9_state_27 rfl rfl rfl ?_
        refine g_cVi3 31 X (tX9_stateOf _ _ (D) _ _ _ _) mfX9_stateOf miX9_stateOf lkX9_204 rfl rfl rfl (Nat.le_of_ble_eq_true rfl) dX9_state_28 rfl (fun r7 S8 => ?_)
        refine g_goto 36 X dX9_state_31 (by decide) ?_
        exact g_iret X dX9_state_36 rfl
def bX9_upsOf_4 (c1 : Int32) (rec : (Int32 × Int32) → Sg → Option ((Int32 × Int32) × Sg)) (a1 : Int32 × Int32) (S2 : Sg) : Option ((Int32 × Int32) × Sg) :=
  (if (20 : Int32) ≤ a1.2 then some ((a1.1, a1.2), S2) else gd (ix a1.2 20) (rec ((a1.1 + (((S2.1 15 (Int32.toNatClampNeg a1.2)) >>> (c1 &&& 31)) &&& (1 : Int32))), (a1.2 + (1 : Int32))) S2))
def fX9_upsOf (x1 : Int32) (S : Sg) : Option (Int32 × Sg) :=
  bd (lp (bX9_upsOf_4 x1) fl ((0 : Int32), (0 : Int32)) S) (fun (a6 : Int32 × Int32) S7 => some (a6.1, S7))
set_option maxHeartbeats 4000000 in
set_option maxRecDepth 100000 in
theorem tX9_upsOf (G : Gd) (l : Launch) (D : Nat) (x1 : Int32) (S : Sg) : Ct LM G l rI yX9_upsOf cX9_upsOf 4 (some .int) (D + 0) [.ref (G.2.1 0), .int x1] S (fX9_upsOf x1 S) := by
  refine Ct.of (by decide) (Nat.le_of_ble_eq_true rfl) (fun Z hZ X => ?_)
  subst hZ
  show Go LM G Z 4 rI 0 [(0, .ref (G.2.1 0)), (1, .int x1)] [] S (fX9_upsOf x1 S) kz
  unfold fX9_upsOf
  refine g_iconst 1 X dX9_upsOf_0 rfl ci_0 ?_
  refine g_istore_n 2 X [(2, _), (0, _), (1, _)] dX9_upsOf_1 rfl rfl (Nat.le_of_ble_eq_true rfl) rfl ?_
  refine g_iconst 3 X dX9_upsOf_2 rfl ci_0 ?_
  refine g_istore_n 4 X [(3, _), (2, _), (0, _), (1, _)] dX9_upsOf_3 rfl rfl (Nat.le_of_ble_eq_true rfl) rfl ?_
  refine g_joinK 29 (fun (a6 : Int32 × Int32) => [(2, .int a6.1)]) (fun (a6 : Int32 × Int32) => []) (fun a6 S7 => ?_) (fun J3 => ?_)
  · refine g_iload_n 30 X 0 dX9_upsOf_29 rfl rfl rfl ?_
    exact g_iret X dX9_upsOf_30 rfl
  · refine g_sub [2, 3, 1, 0] rfl (g_lp (fun (a1 : Int32 × Int32) => [(0, .ref (G.2.1 0)), (1, .int x1), (2, .int a1.1), (3, .int a1.2)]) (fun rec5 ih4 a1 S2 => ?_) fl ((0 : Int32), (0 : Int32)) _)
    unfold bX9_upsOf_4
    refine g_iload_n 5 X 3 dX9_upsOf_4 rfl rfl rfl ?_
    refine g_bipush 7 X dX9_upsOf_5 rfl cb_20 ?_
    refine g_icmp_ge 29 10 X dX9_upsOf_7 (by decide) rfl (fun _ => ?_) (fun _ => ?_)
    · exact g_sub [2] rfl (J3 (a1.1, a1.2) _)
    · refine g_iload_n 11 X 2 dX9_upsOf_10 rfl rfl rfl ?_
      refine g_aload_n 12 X 0 dX9_upsOf_11 rfl rfl rfl ?_
      refine g_getr 15 X 15 rfl flX9_52 rfl dX9_upsOf_12 rfl ?_
      refine g_iload_n 16 X 3 dX9_upsOf_15 rfl rfl rfl ?_
      refine g_iald 17 X rfl dX9_upsOf_16 rfl ?_
      refine g_iload_n 18 X 1 dX9_upsOf_17 rfl rfl rfl ?_
      refine g_ishr 19 X dX9_upsOf_18 rfl ?_
      refine g_iconst 20 X dX9_upsOf_19 rfl ci_1 ?_
      refine g_iand 21 X dX9_upsOf_20 rfl ?_
      refine g_iadd 22 X dX9_upsOf_21 rfl ?_
      refine g_istore_n 23 X [(2, _), (0, _), (1, _), (3, _)] dX9_upsOf_22 rfl rfl (Nat.le_of_ble_eq_true rfl) rfl ?_
      refine g_iinc 26 X 3 [(3, _), (2, _), (0, _), (1, _)] dX9_upsOf_23 rfl rfl (ii_1 _) (Nat.le_of_ble_eq_true rfl) rfl ?_
      refine g_goto 4 X dX9_upsOf_26 (by decide) ?_
      exact g_sub [2, 3, 1, 0] rfl (ih4 ((a1.1 + (((S2.1 15 (Int32.toNatClampNeg a1.2)) >>> (x1 &&& 31)) &&& (1 : Int32))), (a1.2 + (1 : Int32))) _)
def fX9_upOf (x1 : Int32) (S : Sg) : Option (Int32 × Sg) :=
  bd (fX9_runsTold S) (fun r1 S2 => bd (fX9_upsOf x1 S2) (fun r3 S4 => some (r3, S4)))
set_option maxHeartbeats 4000000 in
set_option maxRecDepth 100000 in
theorem tX9_upOf (G : Gd) (l : Launch) (D : Nat) (x1 : Int32) (S : Sg) : Ct LM G l rI yX9_upOf cX9_upOf 2 (some .int) (D + 8) [.ref (G.2.1 0), .int x1] S (fX9_upOf x1 S) := by
  refine Ct.of (by decide) (Nat.le_of_ble_eq_true rfl) (fun Z hZ X => ?_)
  subst hZ
  show Go LM G Z 2 rI 0 [(0, .ref (G.2.1 0)), (1, .int x1)] [] S (fX9_upOf x1 S) kz
  unfold fX9_upOf
  refine g_aload_n 1 X 0 dX9_upOf_0 rfl rfl rfl ?_
  refine g_cVv0 4 X (tX9_runsTold _ _ (D)  _) mfX9_runsTold miX9_runsTold lkX9_192 rfl rfl rfl (Nat.le_of_ble_eq_true rfl) dX9_upOf_1 rfl (fun r1 S2 => ?_)
  refine g_aload_n 5 X 0 dX9_upOf_4 rfl rfl rfl ?_
  refine g_iload_n 6 X 1 dX9_upOf_5 rfl rfl rfl ?_
  refine g_cVi1 9 X (tX9_upsOf _ _ (D + 7) _ _) mfX9_upsOf miX9_upsOf lkX9_208 rfl rfl rfl (Nat.le_of_ble_eq_true rfl) dX9_upOf_6 rfl (fun r3 S4 => ?_)
  exact g_iret X dX9_upOf_9 rfl
def fX9_up (x1 : Int32) (S : Sg) : Option (Int32 × Sg) :=
  bd (fX9_isStroke x1 S) (fun r1 S2 => (if r1 = 0 then some ((-2 : Int32), S2) else bd (fX9_upOf x1 S2) (fun r3 S4 => some (r3, S4))))
set_option maxHeartbeats 4000000 in
set_option maxRecDepth 100000 in
theorem tX9_up (G : Gd) (l : Launch) (D : Nat) (x1 : Int32) (S : Sg) : Ct LM G l rI yX9_up cX9_up 2 (some .int) (D + 9) [.ref (G.2.1 0), .int x1] S (fX9_up x1 S) := by
  refine Ct.of (by decide) (Nat.le_of_ble_eq_true rfl) (fun Z hZ X => ?_)
  subst hZ
  show Go LM G Z 2 rI 0 [(0, .ref (G.2.1 0)), (1, .int x1)] [] S (fX9_up x1 S) kz
  unfold fX9_up
  refine g_aload_n 1 X 0 dX9_up_0 rfl rfl rfl ?_
  refine g_iload_n 2 X 1 dX9_up_1 rfl rfl rfl ?_
  refine g_cVi1 5 X (tX9_isStroke _ _ (D + 2) _ _) mfX9_isStroke miX9_isStroke lkX9_140 rfl rfl rfl (Nat.le_of_ble_eq_true rfl) dX9_up_2 rfl (fun r1 S2 => ?_)
  refine g_if_eq 16 8 X dX9_up_5 (by decide) rfl (fun _ => ?_) (fun _ => ?_)
  · refine g_bipush 18 X dX9_up_16 rfl cb_m2 ?_
    exact g_iret X dX9_up_18 rfl
  · refine g_aload_n 9 X 0 dX9_up_8 rfl rfl rfl ?_
    refine g_iload_n 10 X 1 dX9_up_9 rfl rfl rfl ?_
    refine g_cVi1 13 X (tX9_upOf _ _ (D) _ _) mfX9_upOf miX9_upOf lkX9_211 rfl rfl rfl (Nat.le_of_ble_eq_true rfl) dX9_up_10 rfl (fun r3 S4 => ?_)
    refine g_goto 18 X dX9_up_13 (by decide) ?_
    exact g_iret X dX9_up_18 rfl
def fX9_throughOf (x1 : Int32) (S : Sg) : Option (Int32 × Sg) :=
  bd (fX9_runsTold S) (fun r1 S2 => gd (ix x1 20) (bd (fX9_ones (S2.1 15 (Int32.toNatClampNeg x1)) S2) (fun r3 S4 => some (r3, S4))))
set_option maxHeartbeats 4000000 in
set_option maxRecDepth 100000 in
theorem tX9_throughOf (G : Gd) (l : Launch) (D : Nat) (x1 : Int32) (S : Sg) : Ct LM G l rI yX9_throughOf cX9_throughOf 2 (some .int) (D + 8) [.ref (G.2.1 0), .int x1] S (fX9_throughOf x1 S) := by
  refine Ct.of (by decide) (Nat.le_of_ble_eq_true rfl) (fun Z hZ X => ?_)
  subst hZ
  show Go LM G Z 2 rI 0 [(0, .ref (G.2.1 0)), (1, .int x1)] [] S (fX9_throughOf x1 S) kz
  unfold fX9_throughOf
  refine g_aload_n 1 X 0 dX9_throughOf_0 rfl rfl rfl ?_
  refine g_cVv0 4 X (tX9_runsTold _ _ (D)  _) mfX9_runsTold miX9_runsTold lkX9_192 rfl rfl rfl (Nat.le_of_ble_eq_true rfl) dX9_throughOf_1 rfl (fun r1 S2 => ?_)
  refine g_aload_n 5 X 0 dX9_throughOf_4 rfl rfl rfl ?_
  refine g_getr 8 X 15 rfl flX9_52 rfl dX9_throughOf_5 rfl ?_
  refine g_iload_n 9 X 1 dX9_throughOf_8 rfl rfl rfl ?_
  refine g_iald 10 X rfl dX9_throughOf_9 rfl ?_
  refine g_cSi1 13 X (tX9_ones _ _ (D + 7) _ _) mfX9_ones msX9_ones lkX9_214 (Nat.le_of_ble_eq_true rfl) dX9_throughOf_10 rfl (fun r3 S4 => ?_)
  exact g_iret X dX9_throughOf_13 rfl
def fX9_through (x1 : Int32) (S : Sg) : Option (Int32 × Sg) :=
  bd (fX9_isDay x1 S) (fun r1 S2 => (if r1 = 0 then some ((-2 : Int32), S2) else bd (fX9_throughOf x1 S2) (fun r3 S4 => some (r3, S4))))
set_option maxHeartbeats 4000000 in
set_option maxRecDepth 100000 in
theorem tX9_through (G : Gd) (l : Launch) (D : Nat) (x1 : Int32) (S : Sg) : Ct LM G l rI yX9_through cX9_through 2 (some .int) (D + 9) [.ref (G.2.1 0), .int x1] S (fX9_through x1 S) := by
  refine Ct.of (by decide) (Nat.le_of_ble_eq_true rfl) (fun Z hZ X => ?_)
  subst hZ
  show Go LM G Z 2 rI 0 [(0, .ref (G.2.1 0)), (1, .int x1)] [] S (fX9_through x1 S) kz
  unfold fX9_through
  refine g_iload_n 1 X 1 dX9_through_0 rfl rfl rfl ?_
  refine g_cSi1 4 X (tX9_isDay _ _ (D + 7) _ _) mfX9_isDay msX9_isDay lkX9_134 (Nat.le_of_ble_eq_true rfl) dX9_through_1 rfl (fun r1 S2 => ?_)
  refine g_if_eq 15 7 X dX9_through_4 (by decide) rfl (fun _ => ?_) (fun _ => ?_)
  · refine g_bipush 17 X dX9_through_15 rfl cb_m2 ?_
    exact g_iret X dX9_through_17 rfl
  · refine g_aload_n 8 X 0 dX9_through_7 rfl rfl rfl ?_
    refine g_iload_n 9 X 1 dX9_through_8 rfl rfl rfl ?_
    refine g_cVi1 12 X (tX9_throughOf _ _ (D) _ _) mfX9_throughOf miX9_throughOf lkX9_217 rfl rfl rfl (Nat.le_of_ble_eq_true rfl) dX9_through_9 rfl (fun r3 S4 => ?_)
    refine g_goto 17 X dX9_through_12 (by decide) ?_
    exact g_iret X dX9_through_17 rfl
def bX9_isMisread_8 (c1 : Int32) (c2 : Int32) (rec : (Int32 × Int32 × Int32) → Sg → Option ((Int32 × Int32 × Int32) × Sg)) (a1 : Int32 × Int32 × Int32) (S2 : Sg) : Option ((Int32 × Int32 × Int32) × Sg) :=
  (if (S2.1 0 4) ≤ a1.2.2 then some ((a1.1, a1.2.1, a1.2.2), S2) else bd ((if a1.1 = 0 then gd (ix a1.2.2 9) ((if ((S2.1 5 (Int32.toNatClampNeg a1.2.2)) / (6 : Int32)) = c2 then gd (ix (((8 : Int32) * c1) + a1.2.2) 160) ((if (S2.1 16 (Int32.toNatClampNeg (((8 : Int32) * c1) + a1.2.2))) = (3 : Int32) then some ((1 : Int32), S2) else some ((0 : Int32), S2))) else some ((0 : Int32), S2))) else some ((1 : Int32), S2))) (fun (t3 : Int32) S4 => bd ((if a1.2.1 = 0 then gd (ix a1.2.2 9) ((if ((S4.1 5 (Int32.toNatClampNeg a1.2.2)) / (6 : Int32)) = c2 then gd (ix (((8 : Int32) * c1) + a1.2.2) 160) ((if (S4.1 16 (Int32.toNatClampNeg (((8 : Int32) * c1) + a1.2.2))) = (1 : Int32) then some ((1 : Int32), S4) else some ((0 : Int32), S4))) else some ((0 : Int32), S4))) else some ((1 : Int32), S4))) (fun (t6 : Int32) S7 => rec (t3, t6, (a1.2.2 + (1 : Int32))) S7)))
def fX9_isMisread (x1 : Int32) (x2 : Int32) (S : Sg) : Option (Int32 × Sg) :=
  bd (lp (bX9_isMisread_8 x1 x2) fl ((0 : Int32), (0 : Int32), (0 : Int32)) S) (fun (a12 : Int32 × Int32 × Int32) S13 => (if a12.1 = 0 then some ((0 : Int32), S13) else (if a12.2.1 = 0 then some ((0 : Int32), S13) else some ((1 : Int32), S13))))
set_option maxHeartbeats 4000000 in
set_option maxRecDepth 100000 in
theorem tX9_isMisread (G : Gd) (l : Launch) (D : Nat) (x1 : Int32) (x2 : Int32) (S : Sg) : Ct LM G l rI yX9_isMisread cX9_isMisread 6 (some .boolean) (D + 0) [.ref (G.2.1 0), .int x1, .int x2] S (fX9_isMisread x1 x2 S) := by
  refine Ct.of (by decide) (Nat.le_of_ble_eq_true rfl) (fun Z hZ X => ?_)
  subst hZ
  show Go LM G Z 6 rI 0 [(0, .ref (G.2.1 0)), (1, .int x1), (2, .int x2)] [] S (fX9_isMisread x1 x2 S) kz
  unfold fX9_isMisread
  refine g_iconst 1 X dX9_isMisread_0 rfl ci_0 ?_
  refine g_istore_n 2 X [(3, _), (0, _), (1, _), (2, _)] dX9_isMisread_1 rfl rfl (Nat.le_of_ble_eq_true rfl) rfl ?_
  refine g_iconst 3 X dX9_isMisread_2 rfl ci_0 ?_
  refine g_istore 5 X [(4, _), (3, _), (0, _), (1, _), (2, _)] dX9_isMisread_3 rfl (Nat.le_of_ble_eq_true rfl) rfl ?_
  refine g_iconst 6 X dX9_isMisread_5 rfl ci_0 ?_
  refine g_istore 8 X [(5, _), (4, _), (3, _), (0, _), (1, _), (2, _)] dX9_isMisread_6 rfl (Nat.le_of_ble_eq_true rfl) rfl ?_
  refine g_joinK 105 (fun (a12 : Int32 × Int32 × Int32) => [(3, .int a12.1), (4, .int a12.2.1)]) (fun (a12 : Int32 × Int32 × Int32) => []) (fun a12 S13 => ?_) (fun J3 => ?_)
  · refine g_iload_n 106 X 0 dX9_isMisread_105 rfl rfl rfl ?_
    refine g_if_eq 118 109 X dX9_isMisread_106 (by decide) rfl (fun _ => ?_) (fun _ => ?_)
    · refine g_iconst 119 X dX9_isMisread_118 rfl ci_0 ?_
      exact g_zret X dX9_isMisread_119 rfl rfl
    · refine g_iload 111 X 1 dX9_isMisread_109 rfl rfl ?_
      refine g_if_eq 118 114 X dX9_isMisread_111 (by decide) rfl (fun _ => ?_) (fun _ => ?_)
      · refine g_iconst 119 X dX9_isMisread_118 rfl ci_0 ?_
        exact g_zret X dX9_isMisread_119 rfl rfl
      · refine g_iconst 115 X dX9_isMisread_114 rfl ci_1 ?_
        refine g_goto 119 X dX9_isMisread_115 (by decide) ?_
        exact g_zret X dX9_isMisread_119 rfl rfl
  · refine g_sub [3, 4, 5, 2, 1, 0] rfl (g_lp (fun (a1 : Int32 × Int32 × Int32) => [(0, .ref (G.2.1 0)), (1, .int x1), (2, .int x2), (3, .int a1.1), (4, .int a1.2.1), (5, .int a1.2.2)]) (fun rec5 ih4 a1 S2 => ?_) fl ((0 : Int32), (0 : Int32), (0 : Int32)) _)
    unfold bX9_isMisread_8
    refine g_iload 10 X 5 dX9_isMisread_8 rfl rfl ?_
    refine g_aload_n 11 X 0 dX9_isMisread_10 rfl rfl rfl ?_
    refine g_geti 14 X rfl flX9_114 rfl dX9_isMisread_11 rfl ?_
    refine g_icmp_ge 105 17 X dX9_isMisread_14 (by decide) rfl (fun _ => ?_) (fun _ => ?_)
    · exact g_sub [3, 4] rfl (J3 (a1.1, a1.2.1, a1.2.2) _)
    · refine g_iload_n 18 X 3 dX9_isMisread_17 rfl rfl rfl ?_
      refine g_joinK 56 (fun (t6 : Int32) => [(0, .ref (G.2.1 0)), (1, .int x1), (2, .int x2), (4, .int a1.2.1), (5, .int a1.2.2)]) (fun (t6 : Int32) => [.int t6]) (fun t6 S7 => ?_) (fun J8 => ?_)
      · refine g_istore_n 57 X [(3, _), (0, _), (1, _), (2, _), (4, _), (5, _)] dX9_isMisread_56 rfl rfl (Nat.le_of_ble_eq_true rfl) rfl ?_
        refine g_iload 59 X 4 dX9_isMisread_57 rfl rfl ?_
        refine g_joinK 97 (fun (t9 : Int32) => [(0, .ref (G.2.1 0)), (1, .int x1), (2, .int x2), (3, .int t6), (5, .int a1.2.2)]) (fun (t9 : Int32) => [.int t9]) (fun t9 S10 => ?_) (fun J11 => ?_)
        · refine g_istore 99 X [(4, _), (0, _), (1, _), (2, _), (3, _), (5, _)] dX9_isMisread_97 rfl (Nat.le_of_ble_eq_true rfl) rfl ?_
          refine g_iinc 102 X 5 [(5, _), (4, _), (0, _), (1, _), (2, _), (3, _)] dX9_isMisread_99 rfl rfl (ii_1 _) (Nat.le_of_ble_eq_true rfl) rfl ?_
          refine g_goto 8 X dX9_isMisread_102 (by decide) ?_
          exact g_sub [2, 3, 4, 5, 1, 0] rfl (ih4 (t6, t9, (a1.2.2 + (1 : Int32))) _)
        · refine g_if_ne 92 62 X dX9_isMisread_59 (by decide) rfl (fun _ => ?_) (fun _ => ?_)
          · refine g_iconst 93 X dX9_isMisread_92 rfl ci_1 ?_
            refine g_goto 97 X dX9_isMisread_93 (by decide) ?_
            exact g_sub [1, 2, 3, 0, 5] rfl (J11 (1 : Int32) _)
          · refine g_aload_n 63 X 1 dX9_isMisread_62 rfl rfl rfl ?_
            refine g_getr 66 X 5 rfl flX9_22 rfl dX9_isMisread_63 rfl ?_
            refine g_iload 68 X 5 dX9_isMisread_66 rfl rfl ?_
            refine g_iald 69 X rfl dX9_isMisread_68 rfl ?_
            refine g_bipush 71 X dX9_isMisread_69 rfl cb_6 ?_
            refine g_idiv 72 X dX9_isMisread_71 rfl (by decide) ?_
            refine g_iload_n 73 X 3 dX9_isMisread_72 rfl rfl rfl ?_
            refine g_icmp_ne 96 76 X dX9_isMisread_73 (by decide) rfl (fun _ => ?_) (fun _ => ?_)
            · refine g_iconst 97 X dX9_isMisread_96 rfl ci_0 ?_
              exact g_sub [1, 2, 3, 0, 5] rfl (J11 (0 : Int32) _)
            · refine g_aload_n 77 X 1 dX9_isMisread_76 rfl rfl rfl ?_
              refine g_getr 80 X 16 rfl flX9_55 rfl dX9_isMisread_77 rfl ?_
              refine g_bipush 82 X dX9_isMisread_80 rfl cb_8 ?_
              refine g_iload_n 83 X 2 dX9_isMisread_82 rfl rfl rfl ?_
              refine g_imul 84 X dX9_isMisread_83 rfl ?_
              refine g_iload 86 X 5 dX9_isMisread_84 rfl rfl ?_
              refine g_iadd 87 X dX9_isMisread_86 rfl ?_
              refine g_iald 88 X rfl dX9_isMisread_87 rfl ?_
              refine g_iconst 89 X dX9_isMisread_88 rfl ci_1 ?_
              refine g_icmp_ne 96 92 X dX9_isMisread_89 (by decide) rfl (fun _ => ?_) (fun _ => ?_)
              · refine g_iconst 97 X dX9_isMisread_96 rfl ci_0 ?_
                exact g_sub [1, 2, 3, 0, 5] rfl (J11 (0 : Int32) _)
              · refine g_iconst 93 X dX9_isMisread_92 rfl ci_1 ?_
                refine g_goto 97 X dX9_isMisread_93 (by decide) ?_
                exact g_sub [1, 2, 3, 0, 5] rfl (J11 (1 : Int32) _)
      · refine g_if_ne 51 21 X dX9_isMisread_18 (by decide) rfl (fun _ => ?_) (fun _ => ?_)
        · refine g_iconst 52 X dX9_isMisread_51 rfl ci_1 ?_
          refine g_goto 56 X dX9_isMisread_52 (by decide) ?_
          exact g_sub [0, 1, 2, 4, 5] rfl (J8 (1 : Int32) _)
        · refine g_aload_n 22 X 0 dX9_isMisread_21 rfl rfl rfl ?_
          refine g_getr 25 X 5 rfl flX9_22 rfl dX9_isMisread_22 rfl ?_
          refine g_iload 27 X 5 dX9_isMisread_25 rfl rfl ?_
          refine g_iald 28 X rfl dX9_isMisread_27 rfl ?_
          refine g_bipush 30 X dX9_isMisread_28 rfl cb_6 ?_
          refine g_idiv 31 X dX9_isMisread_30 rfl (by decide) ?_
          refine g_iload_n 32 X 2 dX9_isMisread_31 rfl rfl rfl ?_
          refine g_icmp_ne 55 35 X dX9_isMisread_32 (by decide) rfl (fun _ => ?_) (fun _ => ?_)
          · refine g_iconst 56 X dX9_isMisread_55 rfl ci_0 ?_
            exact g_sub [0, 1, 2, 4, 5] rfl (J8 (0 : Int32) _)
          · refine g_aload_n 36 X 0 dX9_isMisread_35 rfl rfl rfl ?_
            refine g_getr 39 X 16 rfl flX9_55 rfl dX9_isMisread_36 rfl ?_
            refine g_bipush 41 X dX9_isMisread_39 rfl cb_8 ?_
            refine g_iload_n 42 X 1 dX9_isMisread_41 rfl rfl rfl ?_
            refine g_imul 43 X dX9_isMisread_42 rfl ?_
            refine g_iload 45 X 5 dX9_isMisread_43 rfl rfl ?_
            refine g_iadd 46 X dX9_isMisread_45 rfl ?_
            refine g_iald 47 X rfl dX9_isMisread_46 rfl ?_
            refine g_iconst 48 X dX9_isMisread_47 rfl ci_3 ?_
            refine g_icmp_ne 55 51 X dX9_isMisread_48 (by decide) rfl (fun _ => ?_) (fun _ => ?_)
            · refine g_iconst 56 X dX9_isMisread_55 rfl ci_0 ?_
              exact g_sub [0, 1, 2, 4, 5] rfl (J8 (0 : Int32) _)
            · refine g_iconst 52 X dX9_isMisread_51 rfl ci_1 ?_
              refine g_goto 56 X dX9_isMisread_52 (by decide) ?_
              exact g_sub [0, 1, 2, 4, 5] rfl (J8 (1 : Int32) _)
def bX9_misreadOf_14 (c1 : Int32) (c2 : Int32) (rec : Int32 → Sg → Option (((Int32) ⊕ Int32) × Sg)) (a5 : Int32) (S6 : Sg) : Option (((Int32) ⊕ Int32) × Sg) :=
  (if (6 : Int32) ≤ a5 then some (.inl a5, S6) else bd (fX9_isMisread c2 a5 S6) (fun r7 S8 => (if r7 = 0 then rec (a5 + (1 : Int32)) S8 else (if c1 = 0 then some (.inr c2, S8) else some (.inr a5, S8)))))
def bX9_misreadOf_6 (c1 : Int32) (rec : Int32 → Sg → Option (((Int32) ⊕ Int32) × Sg)) (a3 : Int32) (S4 : Sg) : Option (((Int32) ⊕ Int32) × Sg) :=
  (if (20 : Int32) ≤ a3 then some (.inl a3, S4) else bd (lp (bX9_misreadOf_14 c1 a3) fl (0 : Int32) S4) (se (fun (a12 : Int32) S13 => rec (a3 + (1 : Int32)) S13) (fun (v : Int32) S13 => some (.inr v, S13))))
def fX9_misreadOf (x1 : Int32) (S : Sg) : Option (Int32 × Sg) :=
  bd (fX9_runsTold S) (fun r1 S2 => bd (lp (bX9_misreadOf_6 x1) fl (0 : Int32) S2) (se (fun (a17 : Int32) S18 => some ((-1 : Int32), S18)) (fun (v : Int32) S18 => some (v, S18))))
set_option maxHeartbeats 4000000 in
set_option maxRecDepth 100000 in
theorem tX9_misreadOf (G : Gd) (l : Launch) (D : Nat) (x1 : Int32) (S : Sg) : Ct LM G l rI yX9_misreadOf cX9_misreadOf 4 (some .int) (D + 8) [.ref (G.2.1 0), .int x1] S (fX9_misreadOf x1 S) := by
  refine Ct.of (by decide) (Nat.le_of_ble_eq_true rfl) (fun Z hZ X => ?_)
  subst hZ
  show Go LM G Z 4 rI 0 [(0, .ref (G.2.1 0)), (1, .int x1)] [] S (fX9_misreadOf x1 S) kz
  unfold fX9_misreadOf
  refine g_aload_n 1 X 0 dX9_misreadOf_0 rfl rfl rfl ?_
  refine g_cVv0 4 X (tX9_runsTold _ _ (D)  _) mfX9_runsTold miX9_runsTold lkX9_192 rfl rfl rfl (Nat.le_of_ble_eq_true rfl) dX9_misreadOf_1 rfl (fun r1 S2 => ?_)
  refine g_iconst 5 X dX9_misreadOf_4 rfl ci_0 ?_
  refine g_istore_n 6 X [(2, _), (0, _), (1, _)] dX9_misreadOf_5 rfl rfl (Nat.le_of_ble_eq_true rfl) rfl ?_
  refine g_joinR 51 (fun (a17 : Int32) => []) (fun (a17 : Int32) => []) (fun a17 S18 => ?_) (fun J5 => ?_)
  · refine g_iconst 52 X dX9_misreadOf_51 rfl ci_m1 ?_
    exact g_iret X dX9_misreadOf_52 rfl
  · refine g_sub [1, 2, 0] rfl (g_lp (fun (a3 : Int32) => [(0, .ref (G.2.1 0)), (1, .int x1), (2, .int a3)]) (fun rec7 ih6 a3 S4 => ?_) fl (0 : Int32) _)
    unfold bX9_misreadOf_6
    refine g_iload_n 7 X 2 dX9_misreadOf_6 rfl rfl rfl ?_
    refine g_bipush 9 X dX9_misreadOf_7 rfl cb_20 ?_
    refine g_icmp_ge 51 12 X dX9_misreadOf_9 (by decide) rfl (fun _ => ?_) (fun _ => ?_)
    · exact g_sub [] rfl (J5 a3 _)
    · refine g_iconst 13 X dX9_misreadOf_12 rfl ci_0 ?_
      refine g_istore_n 14 X [(3, _), (0, _), (1, _), (2, _)] dX9_misreadOf_13 rfl rfl (Nat.le_of_ble_eq_true rfl) rfl ?_
      refine g_joinR 45 (fun (a15 : Int32) => [(0, .ref (G.2.1 0)), (1, .int x1), (2, .int a3)]) (fun (a15 : Int32) => []) (fun a15 S16 => ?_) (fun J10 => ?_)
      · refine g_iinc 48 X 2 [(2, _), (0, _), (1, _)] dX9_misreadOf_45 rfl rfl (ii_1 _) (Nat.le_of_ble_eq_true rfl) rfl ?_
        refine g_goto 6 X dX9_misreadOf_48 (by decide) ?_
        exact g_sub [1, 2, 0] rfl (ih6 (a3 + (1 : Int32)) _)
      · refine g_sub [1, 2, 3, 0] rfl (g_lp (fun (a8 : Int32) => [(0, .ref (G.2.1 0)), (1, .int x1), (2, .int a3), (3, .int a8)]) (fun rec12 ih11 a8 S9 => ?_) fl (0 : Int32) _)
        unfold bX9_misreadOf_14
        refine g_iload_n 15 X 3 dX9_misreadOf_14 rfl rfl rfl ?_
        refine g_bipush 17 X dX9_misreadOf_15 rfl cb_6 ?_
        refine g_icmp_ge 45 20 X dX9_misreadOf_17 (by decide) rfl (fun _ => ?_) (fun _ => ?_)
        · exact g_sub [0, 1, 2] rfl (J10 a8 _)
        · refine g_aload_n 21 X 0 dX9_misreadOf_20 rfl rfl rfl ?_
          refine g_iload_n 22 X 2 dX9_misreadOf_21 rfl rfl rfl ?_
          refine g_iload_n 23 X 3 dX9_misreadOf_22 rfl rfl rfl ?_
          refine g_cVi2 26 X (tX9_isMisread _ _ (D + 7) _ _ _) mfX9_isMisread miX9_isMisread lkX9_220 rfl rfl rfl (Nat.le_of_ble_eq_true rfl) dX9_misreadOf_23 rfl (fun r13 S14 => ?_)
          refine g_if_eq 39 29 X dX9_misreadOf_26 (by decide) rfl (fun _ => ?_) (fun _ => ?_)
          · refine g_iinc 42 X 3 [(3, _), (0, _), (1, _), (2, _)] dX9_misreadOf_39 rfl rfl (ii_1 _) (Nat.le_of_ble_eq_true rfl) rfl ?_
            refine g_goto 14 X dX9_misreadOf_42 (by decide) ?_
            exact g_sub [1, 2, 3, 0] rfl (ih11 (a8 + (1 : Int32)) _)
          · refine g_iload_n 30 X 1 dX9_misreadOf_29 rfl rfl rfl ?_
            refine g_if_ne 37 33 X dX9_misreadOf_30 (by decide) rfl (fun _ => ?_) (fun _ => ?_)
            · refine g_iload_n 38 X 3 dX9_misreadOf_37 rfl rfl rfl ?_
              exact g_iret X dX9_misreadOf_38 rfl
            · refine g_iload_n 34 X 2 dX9_misreadOf_33 rfl rfl rfl ?_
              refine g_goto 38 X dX9_misreadOf_34 (by decide) ?_
              exact g_iret X dX9_misreadOf_38 rfl
def fX9_misread (x1 : Int32) (S : Sg) : Option (Int32 × Sg) :=
  bd (fX9_in x1 (0 : Int32) (1 : Int32) S) (fun r1 S2 => (if r1 = 0 then some ((-2 : Int32), S2) else bd (fX9_misreadOf x1 S2) (fun r3 S4 => some (r3, S4))))
set_option maxHeartbeats 4000000 in
set_option maxRecDepth 100000 in
theorem tX9_misread (G : Gd) (l : Launch) (D : Nat) (x1 : Int32) (S : Sg) : Ct LM G l rI yX9_misread cX9_misread 2 (some .int) (D + 9) [.ref (G.2.1 0), .int x1] S (fX9_misread x1 S) := by
  refine Ct.of (by decide) (Nat.le_of_ble_eq_true rfl) (fun Z hZ X => ?_)
  subst hZ
  show Go LM G Z 2 rI 0 [(0, .ref (G.2.1 0)), (1, .int x1)] [] S (fX9_misread x1 S) kz
  unfold fX9_misread
  refine g_iload_n 1 X 1 dX9_misread_0 rfl rfl rfl ?_
  refine g_iconst 2 X dX9_misread_1 rfl ci_0 ?_
  refine g_iconst 3 X dX9_misread_2 rfl ci_1 ?_
  refine g_cSi3 6 X (tX9_in _ _ (D + 8) _ _ _ _) mfX9_in msX9_in lkX9_95 (Nat.le_of_ble_eq_true rfl) dX9_misread_3 rfl (fun r1 S2 => ?_)
  refine g_if_eq 17 9 X dX9_misread_6 (by decide) rfl (fun _ => ?_) (fun _ => ?_)
  · refine g_bipush 19 X dX9_misread_17 rfl cb_m2 ?_
    exact g_iret X dX9_misread_19 rfl
  · refine g_aload_n 10 X 0 dX9_misread_9 rfl rfl rfl ?_
    refine g_iload_n 11 X 1 dX9_misread_10 rfl rfl rfl ?_
    refine g_cVi1 14 X (tX9_misreadOf _ _ (D) _ _) mfX9_misreadOf miX9_misreadOf lkX9_223 rfl rfl rfl (Nat.le_of_ble_eq_true rfl) dX9_misread_11 rfl (fun r3 S4 => ?_)
    refine g_goto 19 X dX9_misread_14 (by decide) ?_
    exact g_iret X dX9_misread_19 rfl
def bX9_mostNow_8 (rec : (Int32 × Int32) → Sg → Option ((Int32 × Int32) × Sg)) (a3 : Int32 × Int32) (S4 : Sg) : Option ((Int32 × Int32) × Sg) :=
  (if (S4.1 0 4) ≤ a3.2 then some ((a3.1, a3.2), S4) else bd ((if a3.1 = (-1 : Int32) then some (a3.2, S4) else bd (fX9_upsOf a3.2 S4) (fun r8 S9 => bd (fX9_upsOf a3.1 S9) (fun r10 S11 => (if r8 ≤ r10 then some (a3.1, S11) else some (a3.2, S11)))))) (fun (t5 : Int32) S6 => rec (t5, (a3.2 + (1 : Int32))) S6))
def fX9_mostNow  (S : Sg) : Option (Int32 × Sg) :=
  bd (fX9_runsTold S) (fun r1 S2 => bd (lp (bX9_mostNow_8) fl ((-1 : Int32), (0 : Int32)) S2) (fun (a15 : Int32 × Int32) S16 => some (a15.1, S16)))
set_option maxHeartbeats 4000000 in
set_option maxRecDepth 100000 in
theorem tX9_mostNow (G : Gd) (l : Launch) (D : Nat)  (S : Sg) : Ct LM G l rI yX9_mostNow cX9_mostNow 3 (some .int) (D + 8) [.ref (G.2.1 0)] S (fX9_mostNow  S) := by
  refine Ct.of (by decide) (Nat.le_of_ble_eq_true rfl) (fun Z hZ X => ?_)
  subst hZ
  show Go LM G Z 3 rI 0 [(0, .ref (G.2.1 0))] [] S (fX9_mostNow  S) kz
  unfold fX9_mostNow
  refine g_aload_n 1 X 0 dX9_mostNow_0 rfl rfl rfl ?_
  refine g_cVv0 4 X (tX9_runsTold _ _ (D)  _) mfX9_runsTold miX9_runsTold lkX9_192 rfl rfl rfl (Nat.le_of_ble_eq_true rfl) dX9_mostNow_1 rfl (fun r1 S2 => ?_)
  refine g_iconst 5 X dX9_mostNow_4 rfl ci_m1 ?_
  refine g_istore_n 6 X [(1, _), (0, _)] dX9_mostNow_5 rfl rfl (Nat.le_of_ble_eq_true rfl) rfl ?_
  refine g_iconst 7 X dX9_mostNow_6 rfl ci_0 ?_
  refine g_istore_n 8 X [(2, _), (1, _), (0, _)] dX9_mostNow_7 rfl rfl (Nat.le_of_ble_eq_true rfl) rfl ?_
  refine g_joinK 46 (fun (a15 : Int32 × Int32) => [(1, .int a15.1)]) (fun (a15 : Int32 × Int32) => []) (fun a15 S16 => ?_) (fun J5 => ?_)
  · refine g_iload_n 47 X 0 dX9_mostNow_46 rfl rfl rfl ?_
    exact g_iret X dX9_mostNow_47 rfl
  · refine g_sub [2, 1, 0] rfl (g_lp (fun (a3 : Int32 × Int32) => [(0, .ref (G.2.1 0)), (1, .int a3.1), (2, .int a3.2)]) (fun rec7 ih6 a3 S4 => ?_) fl ((-1 : Int32), (0 : Int32)) _)
    unfold bX9_mostNow_8
    refine g_iload_n 9 X 2 dX9_mostNow_8 rfl rfl rfl ?_
    refine g_aload_n 10 X 0 dX9_mostNow_9 rfl rfl rfl ?_
    refine g_geti 13 X rfl flX9_114 rfl dX9_mostNow_10 rfl ?_
    refine g_icmp_ge 46 16 X dX9_mostNow_13 (by decide) rfl (fun _ => ?_) (fun _ => ?_)
    · exact g_sub [1] rfl (J5 (a3.1, a3.2) _)
    · refine g_iload_n 17 X 1 dX9_mostNow_16 rfl rfl rfl ?_
      refine g_iconst 18 X dX9_mostNow_17 rfl ci_m1 ?_
      refine g_joinK 39 (fun (t8 : Int32) => [(0, .ref (G.2.1 0)), (2, .int a3.2)]) (fun (t8 : Int32) => [.int t8]) (fun t8 S9 => ?_) (fun J10 => ?_)
      · refine g_istore_n 40 X [(1, _), (0, _), (2, _)] dX9_mostNow_39 rfl rfl (Nat.le_of_ble_eq_true rfl) rfl ?_
        refine g_iinc 43 X 2 [(2, _), (1, _), (0, _)] dX9_mostNow_40 rfl rfl (ii_1 _) (Nat.le_of_ble_eq_true rfl) rfl ?_
        refine g_goto 8 X dX9_mostNow_43 (by decide) ?_
        exact g_sub [2, 1, 0] rfl (ih6 (t8, (a3.2 + (1 : Int32))) _)
      · refine g_icmp_eq 34 21 X dX9_mostNow_18 (by decide) rfl (fun _ => ?_) (fun _ => ?_)
        · refine g_iload_n 35 X 2 dX9_mostNow_34 rfl rfl rfl ?_
          refine g_goto 39 X dX9_mostNow_35 (by decide) ?_
          exact g_sub [0, 2] rfl (J10 a3.2 _)
        · refine g_aload_n 22 X 0 dX9_mostNow_21 rfl rfl rfl ?_
          refine g_iload_n 23 X 2 dX9_mostNow_22 rfl rfl rfl ?_
          refine g_cVi1 26 X (tX9_upsOf _ _ (D + 7) _ _) mfX9_upsOf miX9_upsOf lkX9_208 rfl rfl rfl (Nat.le_of_ble_eq_true rfl) dX9_mostNow_23 rfl (fun r11 S12 => ?_)
          refine g_aload_n 27 X 0 dX9_mostNow_26 rfl rfl rfl ?_
          refine g_iload_n 28 X 1 dX9_mostNow_27 rfl rfl rfl ?_
          refine g_cVi1 31 X (tX9_upsOf _ _ (D + 7) _ _) mfX9_upsOf miX9_upsOf lkX9_208 rfl rfl rfl (Nat.le_of_ble_eq_true rfl) dX9_mostNow_28 rfl (fun r13 S14 => ?_)
          refine g_icmp_le 38 34 X dX9_mostNow_31 (by decide) rfl (fun _ => ?_) (fun _ => ?_)
          · refine g_iload_n 39 X 1 dX9_mostNow_38 rfl rfl rfl ?_
            exact g_sub [0, 2] rfl (J10 a3.1 _)
          · refine g_iload_n 35 X 2 dX9_mostNow_34 rfl rfl rfl ?_
            refine g_goto 39 X dX9_mostNow_35 (by decide) ?_
            exact g_sub [0, 2] rfl (J10 a3.2 _)
def fX9_most  (S : Sg) : Option (Int32 × Sg) :=
  bd (fX9_mostNow S) (fun r1 S2 => some (r1, S2))
set_option maxHeartbeats 4000000 in
set_option maxRecDepth 100000 in
theorem tX9_most (G : Gd) (l : Launch) (D : Nat)  (S : Sg) : Ct LM G l rI yX9_most cX9_most 1 (some .int) (D + 9) [.ref (G.2.1 0)] S (fX9_most  S) := by
  refine Ct.of (by decide) (Nat.le_of_ble_eq_true rfl) (fun Z hZ X => ?_)
  subst hZ
  show Go LM G Z 1 rI 0 [(0, .ref (G.2.1 0))] [] S (fX9_most  S) kz
  unfold fX9_most
  refine g_aload_n 1 X 0 dX9_most_0 rfl rfl rfl ?_
  refine g_cVi0 4 X (tX9_mostNow _ _ (D)  _) mfX9_mostNow miX9_mostNow lkX9_226 rfl rfl rfl (Nat.le_of_ble_eq_true rfl) dX9_most_1 rfl (fun r1 S2 => ?_)
  exact g_iret X dX9_most_4 rfl
def bX9_deepOf_24 (c1 : Int32) (c4 : Int32) (rec : (Int32 × Int32) → Sg → Option ((Int32 × Int32) × Sg)) (a5 : Int32 × Int32) (S6 : Sg) : Option ((Int32 × Int32) × Sg) :=
  (if (S6.1 0 4) ≤ a5.2 then some ((a5.1, a5.2), S6) else gd (ix a5.2 9) (bd ((if (S6.1 5 (Int32.toNatClampNeg a5.2)) = c4 then gd (ix (((8 : Int32) * c1) + a5.2) 160) ((if (S6.1 16 (Int32.toNatClampNeg (((8 : Int32) * c1) + a5.2))) ≤ (1 : Int32) then some ((0 : Int32), S6) else some ((1 : Int32), S6))) else some ((0 : Int32), S6))) (fun (t7 : Int32) S8 => rec ((a5.1 + t7), (a5.2 + (1 : Int32))) S8)))
def bX9_deepOf_11 (c1 : Int32) (rec : (Int32 × Int32 × Int32) → Sg → Option ((Int32 × Int32 × Int32) × Sg)) (a3 : Int32 × Int32 × Int32) (S4 : Sg) : Option ((Int32 × Int32 × Int32) × Sg) :=
  (if (36 : Int32) ≤ a3.2.2 then some ((a3.1, a3.2.1, a3.2.2), S4) else bd (lp (bX9_deepOf_24 c1 a3.2.2) fl ((0 : Int32), (0 : Int32)) S4) (fun (a13 : Int32 × Int32) S14 => bd ((if a13.1 ≤ a3.2.1 then some (a3.1, S14) else some (a3.2.2, S14))) (fun (t15 : Int32) S16 => bd ((if a13.1 ≤ a3.2.1 then some (a3.2.1, S16) else some (a13.1, S16))) (fun (t18 : Int32) S19 => rec (t15, t18, (a3.2.2 + (1 : Int32))) S19))))
def fX9_deepOf (x1 : Int32) (S : Sg) : Option (Int32 × Sg) :=
  bd (fX9_runsTold S) (fun r1 S2 => bd (lp (bX9_deepOf_11 x1) fl ((-1 : Int32), (0 : Int32), (0 : Int32)) S2) (fun (a24 : Int32 × Int32 × Int32) S25 => some (a24.1, S25)))
set_option maxHeartbeats 4000000 in
set_option maxRecDepth 100000 in
theorem tX9_deepOf (G : Gd) (l : Launch) (D : Nat) (x1 : Int32) (S : Sg) : Ct LM G l rI yX9_deepOf cX9_deepOf 7 (some .int) (D + 8) [.ref (G.2.1 0), .int x1] S (fX9_deepOf x1 S) := by
  refine Ct.of (by decide) (Nat.le_of_ble_eq_true rfl) (fun Z hZ X => ?_)
  subst hZ
  show Go LM G Z 7 rI 0 [(0, .ref (G.2.1 0)), (1, .int x1)] [] S (fX9_deepOf x1 S) kz
  unfold fX9_deepOf
  refine g_aload_n 1 X 0 dX9_deepOf_0 rfl rfl rfl ?_
  refine g_cVv0 4 X (tX9_runsTold _ _ (D)  _) mfX9_runsTold miX9_runsTold lkX9_192 rfl rfl rfl (Nat.le_of_ble_eq_true rfl) dX9_deepOf_1 rfl (fun r1 S2 => ?_)
  refine g_iconst 5 X dX9_deepOf_4 rfl ci_m1 ?_
  refine g_istore_n 6 X [(2, _), (0, _), (1, _)] dX9_deepOf_5 rfl rfl (Nat.le_of_ble_eq_true rfl) rfl ?_
  refine g_iconst 7 X dX9_deepOf_6 rfl ci_0 ?_
  refine g_istore_n 8 X [(3, _), (2, _), (0, _), (1, _)] dX9_deepOf_7 rfl rfl (Nat.le_of_ble_eq_true rfl) rfl ?_
  refine g_iconst 9 X dX9_deepOf_8 rfl ci_0 ?_
  refine g_istore 11 X [(4, _), (3, _), (2, _), (0, _), (1, _)] dX9_deepOf_9 rfl (Nat.le_of_ble_eq_true rfl) rfl ?_
  refine g_joinK 109 (fun (a24 : Int32 × Int32 × Int32) => [(2, .int a24.1)]) (fun (a24 : Int32 × Int32 × Int32) => []) (fun a24 S25 => ?_) (fun J5 => ?_)
  · refine g_iload_n 110 X 0 dX9_deepOf_109 rfl rfl rfl ?_
    exact g_iret X dX9_deepOf_110 rfl
  · refine g_sub [3, 4, 2, 1, 0] rfl (g_lp (fun (a3 : Int32 × Int32 × Int32) => [(0, .ref (G.2.1 0)), (1, .int x1), (2, .int a3.1), (3, .int a3.2.1), (4, .int a3.2.2)]) (fun rec7 ih6 a3 S4 => ?_) fl ((-1 : Int32), (0 : Int32), (0 : Int32)) _)
    unfold bX9_deepOf_11
    refine g_iload 13 X 4 dX9_deepOf_11 rfl rfl ?_
    refine g_bipush 15 X dX9_deepOf_13 rfl cb_36 ?_
    refine g_icmp_ge 109 18 X dX9_deepOf_15 (by decide) rfl (fun _ => ?_) (fun _ => ?_)
    · exact g_sub [2] rfl (J5 (a3.1, a3.2.1, a3.2.2) _)
    · refine g_iconst 19 X dX9_deepOf_18 rfl ci_0 ?_
      refine g_istore 21 X [(5, _), (0, _), (1, _), (2, _), (3, _), (4, _)] dX9_deepOf_19 rfl (Nat.le_of_ble_eq_true rfl) rfl ?_
      refine g_iconst 22 X dX9_deepOf_21 rfl ci_0 ?_
      refine g_istore 24 X [(6, _), (5, _), (0, _), (1, _), (2, _), (3, _), (4, _)] dX9_deepOf_22 rfl (Nat.le_of_ble_eq_true rfl) rfl ?_
      refine g_joinK 77 (fun (a16 : Int32 × Int32) => [(0, .ref (G.2.1 0)), (1, .int x1), (2, .int a3.1), (3, .int a3.2.1), (4, .int a3.2.2), (5, .int a16.1)]) (fun (a16 : Int32 × Int32) => []) (fun a16 S17 => ?_) (fun J10 => ?_)
      · refine g_iload 79 X 5 dX9_deepOf_77 rfl rfl ?_
        refine g_iload_n 80 X 3 dX9_deepOf_79 rfl rfl rfl ?_
        refine g_joinK 89 (fun (t18 : Int32) => [(0, .ref (G.2.1 0)), (1, .int x1), (3, .int a3.2.1), (4, .int a3.2.2), (5, .int a16.1)]) (fun (t18 : Int32) => [.int t18]) (fun t18 S19 => ?_) (fun J20 => ?_)
        · refine g_istore_n 90 X [(2, _), (0, _), (1, _), (3, _), (4, _), (5, _)] dX9_deepOf_89 rfl rfl (Nat.le_of_ble_eq_true rfl) rfl ?_
          refine g_iload 92 X 5 dX9_deepOf_90 rfl rfl ?_
          refine g_iload_n 93 X 3 dX9_deepOf_92 rfl rfl rfl ?_
          refine g_joinK 102 (fun (t21 : Int32) => [(0, .ref (G.2.1 0)), (1, .int x1), (2, .int t18), (4, .int a3.2.2)]) (fun (t21 : Int32) => [.int t21]) (fun t21 S22 => ?_) (fun J23 => ?_)
          · refine g_istore_n 103 X [(3, _), (0, _), (1, _), (2, _), (4, _)] dX9_deepOf_102 rfl rfl (Nat.le_of_ble_eq_true rfl) rfl ?_
            refine g_iinc 106 X 4 [(4, _), (3, _), (0, _), (1, _), (2, _)] dX9_deepOf_103 rfl rfl (ii_1 _) (Nat.le_of_ble_eq_true rfl) rfl ?_
            refine g_goto 11 X dX9_deepOf_106 (by decide) ?_
            exact g_sub [2, 3, 4, 1, 0] rfl (ih6 (t18, t21, (a3.2.2 + (1 : Int32))) _)
          · refine g_icmp_le 101 96 X dX9_deepOf_93 (by decide) rfl (fun _ => ?_) (fun _ => ?_)
            · refine g_iload_n 102 X 3 dX9_deepOf_101 rfl rfl rfl ?_
              exact g_sub [1, 2, 0, 4] rfl (J23 a3.2.1 _)
            · refine g_iload 98 X 5 dX9_deepOf_96 rfl rfl ?_
              refine g_goto 102 X dX9_deepOf_98 (by decide) ?_
              exact g_sub [1, 2, 0, 4] rfl (J23 a16.1 _)
        · refine g_icmp_le 88 83 X dX9_deepOf_80 (by decide) rfl (fun _ => ?_) (fun _ => ?_)
          · refine g_iload_n 89 X 2 dX9_deepOf_88 rfl rfl rfl ?_
            exact g_sub [0, 1, 3, 4, 5] rfl (J20 a3.1 _)
          · refine g_iload 85 X 4 dX9_deepOf_83 rfl rfl ?_
            refine g_goto 89 X dX9_deepOf_85 (by decide) ?_
            exact g_sub [0, 1, 3, 4, 5] rfl (J20 a3.2.2 _)
      · refine g_sub [2, 3, 4, 5, 6, 1, 0] rfl (g_lp (fun (a8 : Int32 × Int32) => [(0, .ref (G.2.1 0)), (1, .int x1), (2, .int a3.1), (3, .int a3.2.1), (4, .int a3.2.2), (5, .int a8.1), (6, .int a8.2)]) (fun rec12 ih11 a8 S9 => ?_) fl ((0 : Int32), (0 : Int32)) _)
        unfold bX9_deepOf_24
        refine g_iload 26 X 6 dX9_deepOf_24 rfl rfl ?_
        refine g_aload_n 27 X 0 dX9_deepOf_26 rfl rfl rfl ?_
        refine g_geti 30 X rfl flX9_114 rfl dX9_deepOf_27 rfl ?_
        refine g_icmp_ge 77 33 X dX9_deepOf_30 (by decide) rfl (fun _ => ?_) (fun _ => ?_)
        · exact g_sub [0, 1, 2, 3, 4, 5] rfl (J10 (a8.1, a8.2) _)
        · refine g_iload 35 X 5 dX9_deepOf_33 rfl rfl ?_
          refine g_aload_n 36 X 0 dX9_deepOf_35 rfl rfl rfl ?_
          refine g_getr 39 X 5 rfl flX9_22 rfl dX9_deepOf_36 rfl ?_
          refine g_iload 41 X 6 dX9_deepOf_39 rfl rfl ?_
          refine g_iald 42 X rfl dX9_deepOf_41 rfl ?_
          refine g_iload 44 X 4 dX9_deepOf_42 rfl rfl ?_
          refine g_joinK 68 (fun (t13 : Int32) => [(0, .ref (G.2.1 0)), (1, .int x1), (2, .int a3.1), (3, .int a3.2.1), (4, .int a3.2.2), (6, .int a8.2)]) (fun (t13 : Int32) => [.int t13, .int a8.1]) (fun t13 S14 => ?_) (fun J15 => ?_)
          · refine g_iadd 69 X dX9_deepOf_68 rfl ?_
            refine g_istore 71 X [(5, _), (0, _), (1, _), (2, _), (3, _), (4, _), (6, _)] dX9_deepOf_69 rfl (Nat.le_of_ble_eq_true rfl) rfl ?_
            refine g_iinc 74 X 6 [(6, _), (5, _), (0, _), (1, _), (2, _), (3, _), (4, _)] dX9_deepOf_71 rfl rfl (ii_1 _) (Nat.le_of_ble_eq_true rfl) rfl ?_
            refine g_goto 24 X dX9_deepOf_74 (by decide) ?_
            exact g_sub [2, 3, 4, 5, 6, 1, 0] rfl (ih11 ((a8.1 + t13), (a8.2 + (1 : Int32))) _)
          · refine g_icmp_ne 67 47 X dX9_deepOf_44 (by decide) rfl (fun _ => ?_) (fun _ => ?_)
            · refine g_iconst 68 X dX9_deepOf_67 rfl ci_0 ?_
              exact g_sub [0, 1, 2, 3, 4, 6] rfl (J15 (0 : Int32) _)
            · refine g_aload_n 48 X 0 dX9_deepOf_47 rfl rfl rfl ?_
              refine g_getr 51 X 16 rfl flX9_55 rfl dX9_deepOf_48 rfl ?_
              refine g_bipush 53 X dX9_deepOf_51 rfl cb_8 ?_
              refine g_iload_n 54 X 1 dX9_deepOf_53 rfl rfl rfl ?_
              refine g_imul 55 X dX9_deepOf_54 rfl ?_
              refine g_iload 57 X 6 dX9_deepOf_55 rfl rfl ?_
              refine g_iadd 58 X dX9_deepOf_57 rfl ?_
              refine g_iald 59 X rfl dX9_deepOf_58 rfl ?_
              refine g_iconst 60 X dX9_deepOf_59 rfl ci_1 ?_
              refine g_icmp_le 67 63 X dX9_deepOf_60 (by decide) rfl (fun _ => ?_) (fun _ => ?_)
              · refine g_iconst 68 X dX9_deepOf_67 rfl ci_0 ?_
                exact g_sub [0, 1, 2, 3, 4, 6] rfl (J15 (0 : Int32) _)
              · refine g_iconst 64 X dX9_deepOf_63 rfl ci_1 ?_
                refine g_goto 68 X dX9_deepOf_64 (by decide) ?_
                exact g_sub [0, 1, 2, 3, 4, 6] rfl (J15 (1 : Int32) _)
def fX9_deep (x1 : Int32) (S : Sg) : Option (Int32 × Sg) :=
  bd (fX9_isDay x1 S) (fun r1 S2 => (if r1 = 0 then some ((-2 : Int32), S2) else bd (fX9_deepOf x1 S2) (fun r3 S4 => some (r3, S4))))
set_option maxHeartbeats 4000000 in
set_option maxRecDepth 100000 in
theorem tX9_deep (G : Gd) (l : Launch) (D : Nat) (x1 : Int32) (S : Sg) : Ct LM G l rI yX9_deep cX9_deep 2 (some .int) (D + 9) [.ref (G.2.1 0), .int x1] S (fX9_deep x1 S) := by
  refine Ct.of (by decide) (Nat.le_of_ble_eq_true rfl) (fun Z hZ X => ?_)
  subst hZ
  show Go LM G Z 2 rI 0 [(0, .ref (G.2.1 0)), (1, .int x1)] [] S (fX9_deep x1 S) kz
  unfold fX9_deep
  refine g_iload_n 1 X 1 dX9_deep_0 rfl rfl rfl ?_
  refine g_cSi1 4 X (tX9_isDay _ _ (D + 7) _ _) mfX9_isDay msX9_isDay lkX9_134 (Nat.le_of_ble_eq_true rfl) dX9_deep_1 rfl (fun r1 S2 => ?_)
  refine g_if_eq 15 7 X dX9_deep_4 (by decide) rfl (fun _ => ?_) (fun _ => ?_)
  · refine g_bipush 17 X dX9_deep_15 rfl cb_m2 ?_
    exact g_iret X dX9_deep_17 rfl
  · refine g_aload_n 8 X 0 dX9_deep_7 rfl rfl rfl ?_
    refine g_iload_n 9 X 1 dX9_deep_8 rfl rfl rfl ?_
    refine g_cVi1 12 X (tX9_deepOf _ _ (D) _ _) mfX9_deepOf miX9_deepOf lkX9_229 rfl rfl rfl (Nat.le_of_ble_eq_true rfl) dX9_deep_9 rfl (fun r3 S4 => ?_)
    refine g_goto 17 X dX9_deep_12 (by decide) ?_
    exact g_iret X dX9_deep_17 rfl
def bX9_allUp_4 (rec : (Int32 × Int32) → Sg → Option ((Int32 × Int32) × Sg)) (a1 : Int32 × Int32) (S2 : Sg) : Option ((Int32 × Int32) × Sg) :=
  (if (20 : Int32) ≤ a1.2 then some ((a1.1, a1.2), S2) else gd (ix a1.2 20) (bd (fX9_ones (S2.1 15 (Int32.toNatClampNeg a1.2)) S2) (fun r3 S4 => rec ((a1.1 + r3), (a1.2 + (1 : Int32))) S4)))
def fX9_allUp  (S : Sg) : Option (Int32 × Sg) :=
  bd (lp (bX9_allUp_4) fl ((0 : Int32), (0 : Int32)) S) (fun (a8 : Int32 × Int32) S9 => some (a8.1, S9))
set_option maxHeartbeats 4000000 in
set_option maxRecDepth 100000 in
theorem tX9_allUp (G : Gd) (l : Launch) (D : Nat)  (S : Sg) : Ct LM G l rI yX9_allUp cX9_allUp 3 (some .int) (D + 1) [.ref (G.2.1 0)] S (fX9_allUp  S) := by
  refine Ct.of (by decide) (Nat.le_of_ble_eq_true rfl) (fun Z hZ X => ?_)
  subst hZ
  show Go LM G Z 3 rI 0 [(0, .ref (G.2.1 0))] [] S (fX9_allUp  S) kz
  unfold fX9_allUp
  refine g_iconst 1 X dX9_allUp_0 rfl ci_0 ?_
  refine g_istore_n 2 X [(1, _), (0, _)] dX9_allUp_1 rfl rfl (Nat.le_of_ble_eq_true rfl) rfl ?_
  refine g_iconst 3 X dX9_allUp_2 rfl ci_0 ?_
  refine g_istore_n 4 X [(2, _), (1, _), (0, _)] dX9_allUp_3 rfl rfl (Nat.le_of_ble_eq_true rfl) rfl ?_
  refine g_joinK 28 (fun (a8 : Int32 × Int32) => [(1, .int a8.1)]) (fun (a8 : Int32 × Int32) => []) (fun a8 S9 => ?_) (fun J3 => ?_)
  · refine g_iload_n 29 X 0 dX9_allUp_28 rfl rfl rfl ?_
    exact g_iret X dX9_allUp_29 rfl
  · refine g_sub [2, 1, 0] rfl (g_lp (fun (a1 : Int32 × Int32) => [(0, .ref (G.2.1 0)), (1, .int a1.1), (2, .int a1.2)]) (fun rec5 ih4 a1 S2 => ?_) fl ((0 : Int32), (0 : Int32)) _)
    unfold bX9_allUp_4
    refine g_iload_n 5 X 2 dX9_allUp_4 rfl rfl rfl ?_
    refine g_bipush 7 X dX9_allUp_5 rfl cb_20 ?_
    refine g_icmp_ge 28 10 X dX9_allUp_7 (by decide) rfl (fun _ => ?_) (fun _ => ?_)
    · exact g_sub [1] rfl (J3 (a1.1, a1.2) _)
    · refine g_iload_n 11 X 1 dX9_allUp_10 rfl rfl rfl ?_
      refine g_aload_n 12 X 0 dX9_allUp_11 rfl rfl rfl ?_
      refine g_getr 15 X 15 rfl flX9_52 rfl dX9_allUp_12 rfl ?_
      refine g_iload_n 16 X 2 dX9_allUp_15 rfl rfl rfl ?_
      refine g_iald 17 X rfl dX9_allUp_16 rfl ?_
      refine g_cSi1 20 X (tX9_ones _ _ (D) _ _) mfX9_ones msX9_ones lkX9_214 (Nat.le_of_ble_eq_true rfl) dX9_allUp_17 rfl (fun r6 S7 => ?_)
      refine g_iadd 21 X dX9_allUp_20 rfl ?_
      refine g_istore_n 22 X [(1, _), (0, _), (2, _)] dX9_allUp_21 rfl rfl (Nat.le_of_ble_eq_true rfl) rfl ?_
      refine g_iinc 25 X 2 [(2, _), (1, _), (0, _)] dX9_allUp_22 rfl rfl (ii_1 _) (Nat.le_of_ble_eq_true rfl) rfl ?_
      refine g_goto 4 X dX9_allUp_25 (by decide) ?_
      exact g_sub [2, 1, 0] rfl (ih4 ((a1.1 + r6), (a1.2 + (1 : Int32))) _)
def bX9_oilOf_8 (rec : (Int32 × Int32) → Sg → Option ((Int32 × Int32) × Sg)) (a3 : Int32 × Int32) (S4 : Sg) : Option ((Int32 × Int32) × Sg) :=
  (if (64 : Int32) ≤ a3.2 then some ((a3.1, a3.2), S4) else bd (fX9_ones a3.2 S4) (fun r5 S6 => bd ((if (4 : Int32) ≤ r5 then some (a3.1, S6) else (if a3.1 = (-1 : Int32) then bd (fX9_runs (sI S6 0 18 a3.2)) (fun r10 S11 => bd (fX9_allUp S11) (fun r12 S13 => bd ((if r12 = 0 then some (a3.2, S13) else some (a3.1, S13))) (fun (t14 : Int32) S15 => some (t14, S15)))) else bd (fX9_ones a3.2 S6) (fun r17 S18 => bd (fX9_ones a3.1 S18) (fun r19 S20 => (if r19 ≤ r17 then some (a3.1, S20) else bd (fX9_runs (sI S20 0 18 a3.2)) (fun r21 S22 => bd (fX9_allUp S22) (fun r23 S24 => bd ((if r23 = 0 then some (a3.2, S24) else some (a3.1, S24))) (fun (t25 : Int32) S26 => some (t25, S26)))))))))) (fun (t7 : Int32) S8 => rec (t7, (a3.2 + (1 : Int32))) S8)))
def fX9_oilOf (x1 : Int32) (S : Sg) : Option (Int32 × Sg) :=
  bd (fX9_asTold S) (fun r1 S2 => bd (lp (bX9_oilOf_8) fl ((-1 : Int32), (0 : Int32)) S2) (fun (a31 : Int32 × Int32) S32 => (if a31.1 = (-1 : Int32) then some (a31.1, S32) else (if x1 = (1 : Int32) then some (a31.1, S32) else bd (fX9_ones a31.1 S32) (fun r33 S34 => some (r33, S34))))))
set_option maxHeartbeats 4000000 in
set_option maxRecDepth 100000 in
theorem tX9_oilOf (G : Gd) (l : Launch) (D : Nat) (x1 : Int32) (S : Sg) : Ct LM G l rI yX9_oilOf cX9_oilOf 4 (some .int) (D + 7) [.ref (G.2.1 0), .int x1] S (fX9_oilOf x1 S) := by
  refine Ct.of (by decide) (Nat.le_of_ble_eq_true rfl) (fun Z hZ X => ?_)
  subst hZ
  show Go LM G Z 4 rI 0 [(0, .ref (G.2.1 0)), (1, .int x1)] [] S (fX9_oilOf x1 S) kz
  unfold fX9_oilOf
  refine g_aload_n 1 X 0 dX9_oilOf_0 rfl rfl rfl ?_
  refine g_cVv0 4 X (tX9_asTold _ _ (D)  _) mfX9_asTold miX9_asTold lkX9_186 rfl rfl rfl (Nat.le_of_ble_eq_true rfl) dX9_oilOf_1 rfl (fun r1 S2 => ?_)
  refine g_iconst 5 X dX9_oilOf_4 rfl ci_m1 ?_
  refine g_istore_n 6 X [(2, _), (0, _), (1, _)] dX9_oilOf_5 rfl rfl (Nat.le_of_ble_eq_true rfl) rfl ?_
  refine g_iconst 7 X dX9_oilOf_6 rfl ci_0 ?_
  refine g_istore_n 8 X [(3, _), (2, _), (0, _), (1, _)] dX9_oilOf_7 rfl rfl (Nat.le_of_ble_eq_true rfl) rfl ?_
  refine g_joinK 66 (fun (a31 : Int32 × Int32) => [(1, .int x1), (2, .int a31.1)]) (fun (a31 : Int32 × Int32) => []) (fun a31 S32 => ?_) (fun J5 => ?_)
  · refine g_iload_n 67 X 1 dX9_oilOf_66 rfl rfl rfl ?_
    refine g_iconst 68 X dX9_oilOf_67 rfl ci_m1 ?_
    refine g_icmp_eq 76 71 X dX9_oilOf_68 (by decide) rfl (fun _ => ?_) (fun _ => ?_)
    · refine g_iload_n 77 X 1 dX9_oilOf_76 rfl rfl rfl ?_
      refine g_goto 84 X dX9_oilOf_77 (by decide) ?_
      exact g_iret X dX9_oilOf_84 rfl
    · refine g_iload_n 72 X 0 dX9_oilOf_71 rfl rfl rfl ?_
      refine g_iconst 73 X dX9_oilOf_72 rfl ci_1 ?_
      refine g_icmp_ne 80 76 X dX9_oilOf_73 (by decide) rfl (fun _ => ?_) (fun _ => ?_)
      · refine g_iload_n 81 X 1 dX9_oilOf_80 rfl rfl rfl ?_
        refine g_cSi1 84 X (tX9_ones _ _ (D + 6) _ _) mfX9_ones msX9_ones lkX9_214 (Nat.le_of_ble_eq_true rfl) dX9_oilOf_81 rfl (fun r33 S34 => ?_)
        exact g_iret X dX9_oilOf_84 rfl
      · refine g_iload_n 77 X 1 dX9_oilOf_76 rfl rfl rfl ?_
        refine g_goto 84 X dX9_oilOf_77 (by decide) ?_
        exact g_iret X dX9_oilOf_84 rfl
  · refine g_sub [2, 3, 1, 0] rfl (g_lp (fun (a3 : Int32 × Int32) => [(0, .ref (G.2.1 0)), (1, .int x1), (2, .int a3.1), (3, .int a3.2)]) (fun rec7 ih6 a3 S4 => ?_) fl ((-1 : Int32), (0 : Int32)) _)
    unfold bX9_oilOf_8
    refine g_iload_n 9 X 3 dX9_oilOf_8 rfl rfl rfl ?_
    refine g_bipush 11 X dX9_oilOf_9 rfl cb_64 ?_
    refine g_icmp_ge 66 14 X dX9_oilOf_11 (by decide) rfl (fun _ => ?_) (fun _ => ?_)
    · exact g_sub [1, 2] rfl (J5 (a3.1, a3.2) _)
    · refine g_iload_n 15 X 3 dX9_oilOf_14 rfl rfl rfl ?_
      refine g_cSi1 18 X (tX9_ones _ _ (D + 6) _ _) mfX9_ones msX9_ones lkX9_214 (Nat.le_of_ble_eq_true rfl) dX9_oilOf_15 rfl (fun r8 S9 => ?_)
      refine g_iconst 19 X dX9_oilOf_18 rfl ci_4 ?_
      refine g_joinK 60 (fun (t10 : Int32) => [(0, .ref (G.2.1 0)), (1, .int x1), (2, .int t10), (3, .int a3.2)]) (fun (t10 : Int32) => []) (fun t10 S11 => ?_) (fun J12 => ?_)
      · refine g_iinc 63 X 3 [(3, _), (0, _), (1, _), (2, _)] dX9_oilOf_60 rfl rfl (ii_1 _) (Nat.le_of_ble_eq_true rfl) rfl ?_
        refine g_goto 8 X dX9_oilOf_63 (by decide) ?_
        exact g_sub [1, 2, 3, 0] rfl (ih6 (t10, (a3.2 + (1 : Int32))) _)
      · refine g_icmp_ge 60 22 X dX9_oilOf_19 (by decide) rfl (fun _ => ?_) (fun _ => ?_)
        · exact g_sub [0, 1, 2, 3] rfl (J12 a3.1 _)
        · refine g_iload_n 23 X 2 dX9_oilOf_22 rfl rfl rfl ?_
          refine g_iconst 24 X dX9_oilOf_23 rfl ci_m1 ?_
          refine g_icmp_eq 38 27 X dX9_oilOf_24 (by decide) rfl (fun _ => ?_) (fun _ => ?_)
          · refine g_aload_n 39 X 0 dX9_oilOf_38 rfl rfl rfl ?_
            refine g_iload_n 40 X 3 dX9_oilOf_39 rfl rfl rfl ?_
            refine g_puti 43 X rfl flX9_164 fp_9_18 rfl dX9_oilOf_40 rfl ?_
            refine g_aload_n 44 X 0 dX9_oilOf_43 rfl rfl rfl ?_
            refine g_cVv0 47 X (tX9_runs _ _ (D + 3)  _) mfX9_runs miX9_runs lkX9_189 rfl rfl rfl (Nat.le_of_ble_eq_true rfl) dX9_oilOf_44 rfl (fun r13 S14 => ?_)
            refine g_aload_n 48 X 0 dX9_oilOf_47 rfl rfl rfl ?_
            refine g_cVi0 51 X (tX9_allUp _ _ (D + 5)  _) mfX9_allUp miX9_allUp lkX9_232 rfl rfl rfl (Nat.le_of_ble_eq_true rfl) dX9_oilOf_48 rfl (fun r15 S16 => ?_)
            refine g_joinK 59 (fun (t17 : Int32) => [(0, .ref (G.2.1 0)), (1, .int x1), (3, .int a3.2)]) (fun (t17 : Int32) => [.int t17]) (fun t17 S18 => ?_) (fun J19 => ?_)
            · refine g_istore_n 60 X [(2, _), (0, _), (1, _), (3, _)] dX9_oilOf_59 rfl rfl (Nat.le_of_ble_eq_true rfl) rfl ?_
              exact g_sub [1, 2, 0, 3] rfl (J12 t17 _)
            · refine g_if_ne 58 54 X dX9_oilOf_51 (by decide) rfl (fun _ => ?_) (fun _ => ?_)
              · refine g_iload_n 59 X 2 dX9_oilOf_58 rfl rfl rfl ?_
                exact g_sub [0, 1, 3] rfl (J19 a3.1 _)
              · refine g_iload_n 55 X 3 dX9_oilOf_54 rfl rfl rfl ?_
                refine g_goto 59 X dX9_oilOf_55 (by decide) ?_
                exact g_sub [0, 1, 3] rfl (J19 a3.2 _)
          · refine g_iload_n 28 X 3 dX9_oilOf_27 rfl rfl rfl ?_
            refine g_cSi1 31 X (tX9_ones _ _ (D + 6) _ _) mfX9_ones msX9_ones lkX9_214 (Nat.le_of_ble_eq_true rfl) dX9_oilOf_28 rfl (fun r20 S21 => ?_)
            refine g_iload_n 32 X 2 dX9_oilOf_31 rfl rfl rfl ?_
            refine g_cSi1 35 X (tX9_ones _ _ (D + 6) _ _) mfX9_ones msX9_ones lkX9_214 (Nat.le_of_ble_eq_true rfl) dX9_oilOf_32 rfl (fun r22 S23 => ?_)
            refine g_icmp_ge 60 38 X dX9_oilOf_35 (by decide) rfl (fun _ => ?_) (fun _ => ?_)
            · exact g_sub [0, 1, 2, 3] rfl (J12 a3.1 _)
            · refine g_aload_n 39 X 0 dX9_oilOf_38 rfl rfl rfl ?_
              refine g_iload_n 40 X 3 dX9_oilOf_39 rfl rfl rfl ?_
              refine g_puti 43 X rfl flX9_164 fp_9_18 rfl dX9_oilOf_40 rfl ?_
              refine g_aload_n 44 X 0 dX9_oilOf_43 rfl rfl rfl ?_
              refine g_cVv0 47 X (tX9_runs _ _ (D + 3)  _) mfX9_runs miX9_runs lkX9_189 rfl rfl rfl (Nat.le_of_ble_eq_true rfl) dX9_oilOf_44 rfl (fun r24 S25 => ?_)
              refine g_aload_n 48 X 0 dX9_oilOf_47 rfl rfl rfl ?_
              refine g_cVi0 51 X (tX9_allUp _ _ (D + 5)  _) mfX9_allUp miX9_allUp lkX9_232 rfl rfl rfl (Nat.le_of_ble_eq_true rfl) dX9_oilOf_48 rfl (fun r26 S27 => ?_)
              refine g_joinK 59 (fun (t28 : Int32) => [(0, .ref (G.2.1 0)), (1, .int x1), (3, .int a3.2)]) (fun (t28 : Int32) => [.int t28]) (fun t28 S29 => ?_) (fun J30 => ?_)
              · refine g_istore_n 60 X [(2, _), (0, _), (1, _), (3, _)] dX9_oilOf_59 rfl rfl (Nat.le_of_ble_eq_true rfl) rfl ?_
                exact g_sub [1, 2, 0, 3] rfl (J12 t28 _)
              · refine g_if_ne 58 54 X dX9_oilOf_51 (by decide) rfl (fun _ => ?_) (fun _ => ?_)
                · refine g_iload_n 59 X 2 dX9_oilOf_58 rfl rfl rfl ?_
                  exact g_sub [0, 1, 3] rfl (J30 a3.1 _)
                · refine g_iload_n 55 X 3 dX9_oilOf_54 rfl rfl rfl ?_
                  refine g_goto 59 X dX9_oilOf_55 (by decide) ?_
                  exact g_sub [0, 1, 3] rfl (J30 a3.2 _)
def fX9_oil (x1 : Int32) (S : Sg) : Option (Int32 × Sg) :=
  bd (fX9_in x1 (0 : Int32) (1 : Int32) S) (fun r1 S2 => (if r1 = 0 then some ((-2 : Int32), S2) else bd (fX9_oilOf x1 S2) (fun r3 S4 => some (r3, S4))))
set_option maxHeartbeats 4000000 in
set_option maxRecDepth 100000 in
theorem tX9_oil (G : Gd) (l : Launch) (D : Nat) (x1 : Int32) (S : Sg) : Ct LM G l rI yX9_oil cX9_oil 2 (some .int) (D + 8) [.ref (G.2.1 0), .int x1] S (fX9_oil x1 S) := by
  refine Ct.of (by decide) (Nat.le_of_ble_eq_true rfl) (fun Z hZ X => ?_)
  subst hZ
  show Go LM G Z 2 rI 0 [(0, .ref (G.2.1 0)), (1, .int x1)] [] S (fX9_oil x1 S) kz
  unfold fX9_oil
  refine g_iload_n 1 X 1 dX9_oil_0 rfl rfl rfl ?_
  refine g_iconst 2 X dX9_oil_1 rfl ci_0 ?_
  refine g_iconst 3 X dX9_oil_2 rfl ci_1 ?_
  refine g_cSi3 6 X (tX9_in _ _ (D + 7) _ _ _ _) mfX9_in msX9_in lkX9_95 (Nat.le_of_ble_eq_true rfl) dX9_oil_3 rfl (fun r1 S2 => ?_)
  refine g_if_eq 17 9 X dX9_oil_6 (by decide) rfl (fun _ => ?_) (fun _ => ?_)
  · refine g_bipush 19 X dX9_oil_17 rfl cb_m2 ?_
    exact g_iret X dX9_oil_19 rfl
  · refine g_aload_n 10 X 0 dX9_oil_9 rfl rfl rfl ?_
    refine g_iload_n 11 X 1 dX9_oil_10 rfl rfl rfl ?_
    refine g_cVi1 14 X (tX9_oilOf _ _ (D) _ _) mfX9_oilOf miX9_oilOf lkX9_235 rfl rfl rfl (Nat.le_of_ble_eq_true rfl) dX9_oil_11 rfl (fun r3 S4 => ?_)
    refine g_goto 19 X dX9_oil_14 (by decide) ?_
    exact g_iret X dX9_oil_19 rfl
