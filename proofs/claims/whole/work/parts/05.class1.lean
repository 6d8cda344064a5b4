def fX8_isSheet (x0 : Int32) (S : Sg) : Option (Int32 × Sg) :=
  (if x0 < 0 then some ((0 : Int32), S) else (if (4 : Int32) ≤ x0 then some ((0 : Int32), S) else some ((1 : Int32), S)))
set_option maxHeartbeats 4000000 in
set_option maxRecDepth 100000 in
theorem tX8_isSheet (G : Gd) (l : Launch) (D : Nat) (x0 : Int32) (S : Sg) : Ct LC G l rI yX8_isSheet cX8_isSheet 1 (some .boolean) (D + 0) [.int x0] S (fX8_isSheet x0 S) := by
  refine Ct.of (by decide) (Nat.le_of_ble_eq_true rfl) (fun Z hZ X => ?_)
  subst hZ
  show Go LC G Z 1 rI 0 [(0, .int x0)] [] S (fX8_isSheet x0 S) kz
  unfold fX8_isSheet
  refine g_iload_n 1 X 0 dX8_isSheet_0 rfl rfl rfl ?_
  refine g_if_lt 13 4 X dX8_isSheet_1 (by decide) rfl (fun _ => ?_) (fun _ => ?_)
  · refine g_iconst 14 X dX8_isSheet_13 rfl ci_0 ?_
    exact g_zret X dX8_isSheet_14 rfl rfl
  · refine g_iload_n 5 X 0 dX8_isSheet_4 rfl rfl rfl ?_
    refine g_iconst 6 X dX8_isSheet_5 rfl ci_4 ?_
    refine g_icmp_ge 13 9 X dX8_isSheet_6 (by decide) rfl (fun _ => ?_) (fun _ => ?_)
    · refine g_iconst 14 X dX8_isSheet_13 rfl ci_0 ?_
      exact g_zret X dX8_isSheet_14 rfl rfl
    · refine g_iconst 10 X dX8_isSheet_9 rfl ci_1 ?_
      refine g_goto 14 X dX8_isSheet_10 (by decide) ?_
      exact g_zret X dX8_isSheet_14 rfl rfl
def fX8_found (x1 : Int32) (S : Sg) : Option (Int32 × Sg) :=
  some (((-10 : Int32) - x1), (sI S 0 16 x1))
set_option maxHeartbeats 4000000 in
set_option maxRecDepth 100000 in
theorem tX8_found (G : Gd) (l : Launch) (D : Nat) (x1 : Int32) (S : Sg) : Ct LC G l rI yX8_found cX8_found 2 (some .int) (D + 0) [.ref (G.2.1 0), .int x1] S (fX8_found x1 S) := by
  refine Ct.of (by decide) (Nat.le_of_ble_eq_true rfl) (fun Z hZ X => ?_)
  subst hZ
  show Go LC G Z 2 rI 0 [(0, .ref (G.2.1 0)), (1, .int x1)] [] S (fX8_found x1 S) kz
  unfold fX8_found
  refine g_aload_n 1 X 0 dX8_found_0 rfl rfl rfl ?_
  refine g_iload_n 2 X 1 dX8_found_1 rfl rfl rfl ?_
  refine g_puti 5 X rfl flX8_92 fp_8_16 rfl dX8_found_2 rfl ?_
  refine g_bipush 7 X dX8_found_5 rfl cb_m10 ?_
  refine g_iload_n 8 X 1 dX8_found_7 rfl rfl rfl ?_
  refine g_isub 9 X dX8_found_8 rfl ?_
  exact g_iret X dX8_found_9 rfl
def bX8_read_35 (c2 : Nat) (rec : (Int32 × Int32) → Sg → Option (((Int32 × Int32) ⊕ Int32) × Sg)) (a4 : Int32 × Int32) (S5 : Sg) : Option (((Int32 × Int32) ⊕ Int32) × Sg) :=
  (if (S5.1 c2 3) ≤ (a4.2 + (1 : Int32)) then some (.inl (a4.1, a4.2), S5) else gd (ix a4.2 60) (gd (ix (a4.2 + (1 : Int32)) 60) (bd (fX8_clean (S5.1 (c2 + 1) (Int32.toNatClampNeg a4.2)) (S5.1 (c2 + 1) (Int32.toNatClampNeg (a4.2 + (1 : Int32)))) S5) (fun r6 S7 => (if 0 ≤ r6 then rec ((a4.1 + (1 : Int32)), (a4.2 + (2 : Int32))) S7 else some (.inl (a4.1, a4.2), S7))))))
def fX8_read (x1 : Int32) (S : Sg) : Option (Int32 × Sg) :=
  bd (fX8_isSheet x1 S) (fun r1 S2 => (if r1 = 0 then some ((-2 : Int32), S2) else gd (ix x1 4) ((if (S2.1 (44 + 2 * Int32.toNatClampNeg x1) 1) = 0 then bd (lp (bX8_read_35 (44 + 2 * Int32.toNatClampNeg x1)) fl ((0 : Int32), (0 : Int32)) S2) (se (fun (a11 : Int32 × Int32) S12 => some (a11.1, S12)) (fun (v : Int32) S12 => some (v, S12))) else bd (fX8_found (1 : Int32) S2) (fun r13 S14 => some (r13, S14))))))
set_option maxHeartbeats 4000000 in
set_option maxRecDepth 100000 in
theorem tX8_read (G : Gd) (l : Launch) (D : Nat) (x1 : Int32) (S : Sg) : Ct LC G l rI yX8_read cX8_read 5 (some .int) (D + 2) [.ref (G.2.1 0), .int x1] S (fX8_read x1 S) := by
  refine Ct.of (by decide) (Nat.le_of_ble_eq_true rfl) (fun Z hZ X => ?_)
  subst hZ
  show Go LC G Z 5 rI 0 [(0, .ref (G.2.1 0)), (1, .int x1)] [] S (fX8_read x1 S) kz
  unfold fX8_read
  refine g_iload_n 1 X 1 dX8_read_0 rfl rfl rfl ?_
  refine g_cSi1 4 X (tX8_isSheet _ _ (D + 1) _ _) mfX8_isSheet msX8_isSheet lkX8_161 (Nat.le_of_ble_eq_true rfl) dX8_read_1 rfl (fun r1 S2 => ?_)
  refine g_if_ne 10 7 X dX8_read_4 (by decide) rfl (fun _ => ?_) (fun _ => ?_)
  · refine g_aload_n 11 X 0 dX8_read_10 rfl rfl rfl ?_
    refine g_getr 14 X 42 rfl flX8_78 rfl dX8_read_11 rfl ?_
    refine g_iload_n 15 X 1 dX8_read_14 rfl rfl rfl ?_
    refine g_aald (b := 44) 16 X rfl dX8_read_15 rfl (fun hsh3 => ?_)
    refine g_astore_n 17 X [(2, _), (0, _), (1, _)] dX8_read_16 rfl rfl (Nat.le_of_ble_eq_true rfl) rfl ?_
    refine g_aload_n 18 X 0 dX8_read_17 rfl rfl rfl ?_
    refine g_geti 21 X (sSheet (isSheet_i hsh3)) flX8_164 rfl dX8_read_18 rfl ?_
    refine g_if_eq 30 24 X dX8_read_21 (by decide) rfl (fun _ => ?_) (fun _ => ?_)
    · refine g_iconst 31 X dX8_read_30 rfl ci_0 ?_
      refine g_istore_n 32 X [(3, _), (2, _), (0, _), (1, _)] dX8_read_31 rfl rfl (Nat.le_of_ble_eq_true rfl) rfl ?_
      refine g_iconst 33 X dX8_read_32 rfl ci_0 ?_
      refine g_istore 35 X [(4, _), (3, _), (2, _), (0, _), (1, _)] dX8_read_33 rfl (Nat.le_of_ble_eq_true rfl) rfl ?_
      refine g_joinR 81 (fun (a11 : Int32 × Int32) => [(3, .int a11.1)]) (fun (a11 : Int32 × Int32) => []) (fun a11 S12 => ?_) (fun J6 => ?_)
      · refine g_iload_n 82 X 0 dX8_read_81 rfl rfl rfl ?_
        exact g_iret X dX8_read_82 rfl
      · refine g_sub [3, 2, 1, 0] rfl (g_lp (fun (a4 : Int32 × Int32) => [(0, .ref (G.2.1 0)), (2, .ref (G.2.1 (44 + 2 * Int32.toNatClampNeg x1))), (3, .int a4.1), (4, .int a4.2)]) (fun rec8 ih7 a4 S5 => ?_) fl ((0 : Int32), (0 : Int32)) _)
        unfold bX8_read_35
        refine g_iload 37 X 3 dX8_read_35 rfl rfl ?_
        refine g_iconst 38 X dX8_read_37 rfl ci_1 ?_
        refine g_iadd 39 X dX8_read_38 rfl ?_
        refine g_aload_n 40 X 1 dX8_read_39 rfl rfl rfl ?_
        refine g_geti 43 X (sSheet (isSheet_i hsh3)) flX8_171 rfl dX8_read_40 rfl ?_
        refine g_icmp_ge 81 46 X dX8_read_43 (by decide) rfl (fun _ => ?_) (fun _ => ?_)
        · exact g_sub [2] rfl (J6 (a4.1, a4.2) _)
        · refine g_aload_n 47 X 0 dX8_read_46 rfl rfl rfl ?_
          refine g_aload_n 48 X 1 dX8_read_47 rfl rfl rfl ?_
          refine g_getr 51 X ((44 + 2 * Int32.toNatClampNeg x1) + 1) (sSheet (isSheet_i hsh3)) flX8_172 rfl dX8_read_48 rfl ?_
          refine g_iload 53 X 3 dX8_read_51 rfl rfl ?_
          refine g_iald 54 X (sSheetA (isSheet_i hsh3)) dX8_read_53 rfl ?_
          refine g_aload_n 55 X 1 dX8_read_54 rfl rfl rfl ?_
          refine g_getr 58 X ((44 + 2 * Int32.toNatClampNeg x1) + 1) (sSheet (isSheet_i hsh3)) flX8_172 rfl dX8_read_55 rfl ?_
          refine g_iload 60 X 3 dX8_read_58 rfl rfl ?_
          refine g_iconst 61 X dX8_read_60 rfl ci_1 ?_
          refine g_iadd 62 X dX8_read_61 rfl ?_
          refine g_iald 63 X (sSheetA (isSheet_i hsh3)) dX8_read_62 rfl ?_
          refine g_cVi2 66 X (tX8_clean _ _ (D) _ _ _) mfX8_clean miX8_clean lkX8_175 rfl rfl rfl (Nat.le_of_ble_eq_true rfl) dX8_read_63 rfl (fun r9 S10 => ?_)
          refine g_if_ge 72 69 X dX8_read_66 (by decide) rfl (fun _ => ?_) (fun _ => ?_)
          · refine g_iinc 75 X 2 [(3, _), (0, _), (2, _), (4, _)] dX8_read_72 rfl rfl (ii_1 _) (Nat.le_of_ble_eq_true rfl) rfl ?_
            refine g_iinc 78 X 3 [(4, _), (3, _), (0, _), (2, _)] dX8_read_75 rfl rfl (ii_2 _) (Nat.le_of_ble_eq_true rfl) rfl ?_
            refine g_goto 35 X dX8_read_78 (by decide) ?_
            exact g_sub [2, 3, 1, 0] rfl (ih7 ((a4.1 + (1 : Int32)), (a4.2 + (2 : Int32))) _)
          · refine g_goto 81 X dX8_read_69 (by decide) ?_
            exact g_sub [2] rfl (J6 (a4.1, a4.2) _)
    · refine g_aload_n 25 X 1 dX8_read_24 rfl rfl rfl ?_
      refine g_iconst 26 X dX8_read_25 rfl ci_1 ?_
      refine g_cVi1 29 X (tX8_found _ _ (D + 1) _ _) mfX8_found miX8_found lkX8_167 rfl rfl rfl (Nat.le_of_ble_eq_true rfl) dX8_read_26 rfl (fun r13 S14 => ?_)
      exact g_iret X dX8_read_29 rfl
  · refine g_bipush 9 X dX8_read_7 rfl cb_m2 ?_
    exact g_iret X dX8_read_9 rfl
def fX8_isCell (x0 : Int32) (S : Sg) : Option (Int32 × Sg) :=
  (if x0 < 0 then some ((0 : Int32), S) else (if (36 : Int32) ≤ x0 then some ((0 : Int32), S) else some ((1 : Int32), S)))
set_option maxHeartbeats 4000000 in
set_option maxRecDepth 100000 in
theorem tX8_isCell (G : Gd) (l : Launch) (D : Nat) (x0 : Int32) (S : Sg) : Ct LC G l rI yX8_isCell cX8_isCell 1 (some .boolean) (D + 0) [.int x0] S (fX8_isCell x0 S) := by
  refine Ct.of (by decide) (Nat.le_of_ble_eq_true rfl) (fun Z hZ X => ?_)
  subst hZ
  show Go LC G Z 1 rI 0 [(0, .int x0)] [] S (fX8_isCell x0 S) kz
  unfold fX8_isCell
  refine g_iload_n 1 X 0 dX8_isCell_0 rfl rfl rfl ?_
  refine g_if_lt 14 4 X dX8_isCell_1 (by decide) rfl (fun _ => ?_) (fun _ => ?_)
  · refine g_iconst 15 X dX8_isCell_14 rfl ci_0 ?_
    exact g_zret X dX8_isCell_15 rfl rfl
  · refine g_iload_n 5 X 0 dX8_isCell_4 rfl rfl rfl ?_
    refine g_bipush 7 X dX8_isCell_5 rfl cb_36 ?_
    refine g_icmp_ge 14 10 X dX8_isCell_7 (by decide) rfl (fun _ => ?_) (fun _ => ?_)
    · refine g_iconst 15 X dX8_isCell_14 rfl ci_0 ?_
      exact g_zret X dX8_isCell_15 rfl rfl
    · refine g_iconst 11 X dX8_isCell_10 rfl ci_1 ?_
      refine g_goto 15 X dX8_isCell_11 (by decide) ?_
      exact g_zret X dX8_isCell_15 rfl rfl
def fX8_stands (x1 : Int32) (x2 : Int32) (S : Sg) : Option (Int32 × Sg) :=
  bd (fX8_isDay x1 S) (fun r1 S2 => (if r1 = 0 then some ((-2 : Int32), S2) else bd (fX8_isCell x2 S2) (fun r3 S4 => (if r3 = 0 then some ((-2 : Int32), S4) else bd (fX8_bringUpToDate S4) (fun r5 S6 => gd (ix x1 20) (bd (fX0_shownOn 12 x1 x2 (S6.1 22 (Int32.toNatClampNeg x1)) S6) (fun r7 S8 => some (r7, S8))))))))
set_option maxHeartbeats 4000000 in
set_option maxRecDepth 100000 in
theorem tX8_stands (G : Gd) (l : Launch) (D : Nat) (x1 : Int32) (x2 : Int32) (S : Sg) : Ct LC G l rI yX8_stands cX8_stands 3 (some .int) (D + 5) [.ref (G.2.1 0), .int x1, .int x2] S (fX8_stands x1 x2 S) := by
  refine Ct.of (by decide) (Nat.le_of_ble_eq_true rfl) (fun Z hZ X => ?_)
  subst hZ
  show Go LC G Z 3 rI 0 [(0, .ref (G.2.1 0)), (1, .int x1), (2, .int x2)] [] S (fX8_stands x1 x2 S) kz
  unfold fX8_stands
  refine g_iload_n 1 X 1 dX8_stands_0 rfl rfl rfl ?_
  refine g_cSi1 4 X (tX8_isDay _ _ (D + 4) _ _) mfX8_isDay msX8_isDay lkX8_121 (Nat.le_of_ble_eq_true rfl) dX8_stands_1 rfl (fun r1 S2 => ?_)
  refine g_if_eq 14 7 X dX8_stands_4 (by decide) rfl (fun _ => ?_) (fun _ => ?_)
  · refine g_bipush 16 X dX8_stands_14 rfl cb_m2 ?_
    exact g_iret X dX8_stands_16 rfl
  · refine g_iload_n 8 X 2 dX8_stands_7 rfl rfl rfl ?_
    refine g_cSi1 11 X (tX8_isCell _ _ (D + 4) _ _) mfX8_isCell msX8_isCell lkX8_179 (Nat.le_of_ble_eq_true rfl) dX8_stands_8 rfl (fun r3 S4 => ?_)
    refine g_if_ne 17 14 X dX8_stands_11 (by decide) rfl (fun _ => ?_) (fun _ => ?_)
    · refine g_aload_n 18 X 0 dX8_stands_17 rfl rfl rfl ?_
      refine g_cVv0 21 X (tX8_bringUpToDate _ _ (D)  _) mfX8_bringUpToDate miX8_bringUpToDate lkX8_124 rfl rfl rfl (Nat.le_of_ble_eq_true rfl) dX8_stands_18 rfl (fun r5 S6 => ?_)
      refine g_aload_n 22 X 0 dX8_stands_21 rfl rfl rfl ?_
      refine g_getr 25 X 12 rfl flX8_38 rfl dX8_stands_22 rfl ?_
      refine g_iload_n 26 X 1 dX8_stands_25 rfl rfl rfl ?_
      refine g_iload_n 27 X 2 dX8_stands_26 rfl rfl rfl ?_
      refine g_aload_n 28 X 0 dX8_stands_27 rfl rfl rfl ?_
      refine g_getr 31 X 21 rfl flX8_45 rfl dX8_stands_28 rfl ?_
      refine g_getr 34 X 22 rfl flX8_182 rfl dX8_stands_31 rfl ?_
      refine g_iload_n 35 X 1 dX8_stands_34 rfl rfl rfl ?_
      refine g_iald 36 X rfl dX8_stands_35 rfl ?_
      refine g_cVi3 39 X (tX0_shownOn _ _ (D + 3) _ (Or.inl rfl) _ _ _ _) mfX0_shownOn miX0_shownOn lkX8_185 rfl rfl rfl (Nat.le_of_ble_eq_true rfl) dX8_stands_36 rfl (fun r7 S8 => ?_)
      exact g_iret X dX8_stands_39 rfl
    · refine g_bipush 16 X dX8_stands_14 rfl cb_m2 ?_
      exact g_iret X dX8_stands_16 rfl
def fX8_state (x1 : Int32) (x2 : Int32) (x3 : Int32) (S : Sg) : Option (Int32 × Sg) :=
  bd (fX8_bringUpToDate S) (fun r1 S2 => bd (fX8_isDay x1 S2) (fun r3 S4 => (if r3 = 0 then some ((-2 : Int32), S4) else bd (fX8_isStroke x2 S4) (fun r5 S6 => (if r5 = 0 then some ((-2 : Int32), S6) else bd (fX8_isEither x3 S6) (fun r7 S8 => (if r7 = 0 then some ((-2 : Int32), S8) else gd (ix x1 20) (bd (fX8_has (S8.1 19 (Int32.toNatClampNeg x1)) x2 S8) (fun r9 S10 => (if x3 = (1 : Int32) then (if r9 = 0 then some ((-1 : Int32), S10) else gd (ix x1 20) (bd (fX8_strengthIn (S10.1 23 (Int32.toNatClampNeg x1)) x2 S10) (fun r15 S16 => some (r15, S16)))) else (if r9 = 0 then gd (ix x1 20) (bd (fX8_has (S10.1 18 (Int32.toNatClampNeg x1)) x2 S10) (fun r11 S12 => (if r11 = 0 then some ((0 : Int32), S12) else some ((1 : Int32), S12)))) else gd (ix x1 20) (bd (fX8_has (S10.1 22 (Int32.toNatClampNeg x1)) x2 S10) (fun r13 S14 => (if r13 = 0 then some ((2 : Int32), S14) else some ((3 : Int32), S14)))))))))))))))
set_option maxHeartbeats 4000000 in
set_option maxRecDepth 100000 in
theorem tX8_state (G : Gd) (l : Launch) (D : Nat) (x1 : Int32) (x2 : Int32) (x3 : Int32) (S : Sg) : Ct LC G l rI yX8_state cX8_state 5 (some .int) (D + 5) [.ref (G.2.1 0), .int x1, .int x2, .int x3] S (fX8_state x1 x2 x3 S) := by
  refine Ct.of (by decide) (Nat.le_of_ble_eq_true rfl) (fun Z hZ X => ?_)
  subst hZ
  show Go LC G Z 5 rI 0 [(0, .ref (G.2.1 0)), (1, .int x1), (2, .int x2), (3, .int x3)] [] S (fX8_state x1 x2 x3 S) kz
  unfold fX8_state
  refine g_aload_n 1 X 0 dX8_state_0 rfl rfl rfl ?_
  refine g_cVv0 4 X (tX8_bringUpToDate _ _ (D)  _) mfX8_bringUpToDate miX8_bringUpToDate lkX8_124 rfl rfl rfl (Nat.le_of_ble_eq_true rfl) dX8_state_1 rfl (fun r1 S2 => ?_)
  refine g_iload_n 5 X 1 dX8_state_4 rfl rfl rfl ?_
  refine g_cSi1 8 X (tX8_isDay _ _ (D + 4) _ _) mfX8_isDay msX8_isDay lkX8_121 (Nat.le_of_ble_eq_true rfl) dX8_state_5 rfl (fun r3 S4 => ?_)
  refine g_if_eq 26 11 X dX8_state_8 (by decide) rfl (fun _ => ?_) (fun _ => ?_)
  · refine g_bipush 28 X dX8_state_26 rfl cb_m2 ?_
    exact g_iret X dX8_state_28 rfl
  · refine g_aload_n 12 X 0 dX8_state_11 rfl rfl rfl ?_
    refine g_iload_n 13 X 2 dX8_state_12 rfl rfl rfl ?_
    refine g_cVi1 16 X (tX8_isStroke _ _ (D + 4) _ _) mfX8_isStroke miX8_isStroke lkX8_127 rfl rfl rfl (Nat.le_of_ble_eq_true rfl) dX8_state_13 rfl (fun r5 S6 => ?_)
    refine g_if_eq 26 19 X dX8_state_16 (by decide) rfl (fun _ => ?_) (fun _ => ?_)
    · refine g_bipush 28 X dX8_state_26 rfl cb_m2 ?_
      exact g_iret X dX8_state_28 rfl
    · refine g_iload_n 20 X 3 dX8_state_19 rfl rfl rfl ?_
      refine g_cSi1 23 X (tX8_isEither _ _ (D + 4) _ _) mfX8_isEither msX8_isEither lkX8_158 (Nat.le_of_ble_eq_true rfl) dX8_state_20 rfl (fun r7 S8 => ?_)
      refine g_if_ne 29 26 X dX8_state_23 (by decide) rfl (fun _ => ?_) (fun _ => ?_)
      · refine g_aload_n 30 X 0 dX8_state_29 rfl rfl rfl ?_
        refine g_getr 33 X 12 rfl flX8_38 rfl dX8_state_30 rfl ?_
        refine g_getr 36 X 19 rfl flX8_189 rfl dX8_state_33 rfl ?_
        refine g_iload_n 37 X 1 dX8_state_36 rfl rfl rfl ?_
        refine g_iald 38 X rfl dX8_state_37 rfl ?_
        refine g_iload_n 39 X 2 dX8_state_38 rfl rfl rfl ?_
        refine g_cSi2 42 X (tX8_has _ _ (D + 4) _ _ _) mfX8_has msX8_has lkX8_192 (Nat.le_of_ble_eq_true rfl) dX8_state_39 rfl (fun r9 S10 => ?_)
        refine g_istore 44 X [(4, _), (0, _), (1, _), (2, _), (3, _)] dX8_state_42 rfl (Nat.le_of_ble_eq_true rfl) rfl ?_
        refine g_iload_n 45 X 4 dX8_state_44 rfl rfl rfl ?_
        refine g_iconst 46 X dX8_state_45 rfl ci_1 ?_
        refine g_icmp_ne 72 49 X dX8_state_46 (by decide) rfl (fun _ => ?_) (fun _ => ?_)
        · refine g_iload 74 X 0 dX8_state_72 rfl rfl ?_
          refine g_if_eq 99 77 X dX8_state_74 (by decide) rfl (fun _ => ?_) (fun _ => ?_)
          · refine g_aload_n 100 X 1 dX8_state_99 rfl rfl rfl ?_
            refine g_getr 103 X 12 rfl flX8_38 rfl dX8_state_100 rfl ?_
            refine g_getr 106 X 18 rfl flX8_201 rfl dX8_state_103 rfl ?_
            refine g_iload_n 107 X 2 dX8_state_106 rfl rfl rfl ?_
            refine g_iald 108 X rfl dX8_state_107 rfl ?_
            refine g_iload_n 109 X 3 dX8_state_108 rfl rfl rfl ?_
            refine g_cSi2 112 X (tX8_has _ _ (D + 4) _ _ _) mfX8_has msX8_has lkX8_192 (Nat.le_of_ble_eq_true rfl) dX8_state_109 rfl (fun r11 S12 => ?_)
            refine g_if_eq 119 115 X dX8_state_112 (by decide) rfl (fun _ => ?_) (fun _ => ?_)
            · refine g_iconst 120 X dX8_state_119 rfl ci_0 ?_
              exact g_iret X dX8_state_120 rfl
            · refine g_iconst 116 X dX8_state_115 rfl ci_1 ?_
              refine g_goto 120 X dX8_state_116 (by decide) ?_
              exact g_iret X dX8_state_120 rfl
          · refine g_aload_n 78 X 1 dX8_state_77 rfl rfl rfl ?_
            refine g_getr 81 X 21 rfl flX8_45 rfl dX8_state_78 rfl ?_
            refine g_getr 84 X 22 rfl flX8_182 rfl dX8_state_81 rfl ?_
            refine g_iload_n 85 X 2 dX8_state_84 rfl rfl rfl ?_
            refine g_iald 86 X rfl dX8_state_85 rfl ?_
            refine g_iload_n 87 X 3 dX8_state_86 rfl rfl rfl ?_
            refine g_cSi2 90 X (tX8_has _ _ (D + 4) _ _ _) mfX8_has msX8_has lkX8_192 (Nat.le_of_ble_eq_true rfl) dX8_state_87 rfl (fun r13 S14 => ?_)
            refine g_if_eq 97 93 X dX8_state_90 (by decide) rfl (fun _ => ?_) (fun _ => ?_)
            · refine g_iconst 98 X dX8_state_97 rfl ci_2 ?_
              exact g_iret X dX8_state_98 rfl
            · refine g_iconst 94 X dX8_state_93 rfl ci_3 ?_
              refine g_goto 98 X dX8_state_94 (by decide) ?_
              exact g_iret X dX8_state_98 rfl
        · refine g_iload 51 X 0 dX8_state_49 rfl rfl ?_
          refine g_if_eq 70 54 X dX8_state_51 (by decide) rfl (fun _ => ?_) (fun _ => ?_)
          · refine g_iconst 71 X dX8_state_70 rfl ci_m1 ?_
            exact g_iret X dX8_state_71 rfl
          · refine g_aload_n 55 X 1 dX8_state_54 rfl rfl rfl ?_
            refine g_getr 58 X 21 rfl flX8_45 rfl dX8_state_55 rfl ?_
            refine g_getr 61 X 23 rfl flX8_195 rfl dX8_state_58 rfl ?_
            refine g_iload_n 62 X 2 dX8_state_61 rfl rfl rfl ?_
            refine g_iald 63 X rfl dX8_state_62 rfl ?_
            refine g_iload_n 64 X 3 dX8_state_63 rfl rfl rfl ?_
            refine g_cSi2 67 X (tX8_strengthIn _ _ (D + 4) _ _ _) mfX8_strengthIn msX8_strengthIn lkX8_198 (Nat.le_of_ble_eq_true rfl) dX8_state_64 rfl (fun r15 S16 => ?_)
            refine g_goto 71 X dX8_state_67 (by decide) ?_
            exact g_iret X dX8_state_71 rfl
      · refine g_bipush 28 X dX8_state_26 rfl cb_m2 ?_
        exact g_iret X dX8_state_28 rfl
def fX8_up (x1 : Int32) (S : Sg) : Option (Int32 × Sg) :=
  bd (fX8_bringUpToDate S) (fun r1 S2 => bd (fX8_isStroke x1 S2) (fun r3 S4 => (if r3 = 0 then some ((-2 : Int32), S4) else bd (fX8_only x1 S4) (fun r5 S6 => bd (fX3_upsOf 21 r5 S6) (fun r7 S8 => some (r7, S8))))))
set_option maxHeartbeats 4000000 in
set_option maxRecDepth 100000 in
theorem tX8_up (G : Gd) (l : Launch) (D : Nat) (x1 : Int32) (S : Sg) : Ct LC G l rI yX8_up cX8_up 2 (some .int) (D + 5) [.ref (G.2.1 0), .int x1] S (fX8_up x1 S) := by
  refine Ct.of (by decide) (Nat.le_of_ble_eq_true rfl) (fun Z hZ X => ?_)
  subst hZ
  show Go LC G Z 2 rI 0 [(0, .ref (G.2.1 0)), (1, .int x1)] [] S (fX8_up x1 S) kz
  unfold fX8_up
  refine g_aload_n 1 X 0 dX8_up_0 rfl rfl rfl ?_
  refine g_cVv0 4 X (tX8_bringUpToDate _ _ (D)  _) mfX8_bringUpToDate miX8_bringUpToDate lkX8_124 rfl rfl rfl (Nat.le_of_ble_eq_true rfl) dX8_up_1 rfl (fun r1 S2 => ?_)
  refine g_aload_n 5 X 0 dX8_up_4 rfl rfl rfl ?_
  refine g_iload_n 6 X 1 dX8_up_5 rfl rfl rfl ?_
  refine g_cVi1 9 X (tX8_isStroke _ _ (D + 4) _ _) mfX8_isStroke miX8_isStroke lkX8_127 rfl rfl rfl (Nat.le_of_ble_eq_true rfl) dX8_up_6 rfl (fun r3 S4 => ?_)
  refine g_if_eq 26 12 X dX8_up_9 (by decide) rfl (fun _ => ?_) (fun _ => ?_)
  · refine g_bipush 28 X dX8_up_26 rfl cb_m2 ?_
    exact g_iret X dX8_up_28 rfl
  · refine g_aload_n 13 X 0 dX8_up_12 rfl rfl rfl ?_
    refine g_getr 16 X 21 rfl flX8_45 rfl dX8_up_13 rfl ?_
    refine g_iload_n 17 X 1 dX8_up_16 rfl rfl rfl ?_
    refine g_cSi1 20 X (tX8_only _ _ (D + 4) _ _) mfX8_only msX8_only lkX8_204 (Nat.le_of_ble_eq_true rfl) dX8_up_17 rfl (fun r5 S6 => ?_)
    refine g_cVi1 23 X (tX3_upsOf _ _ (D + 3) _ (Or.inl rfl) _ _) mfX3_upsOf miX3_upsOf lkX8_207 rfl rfl rfl (Nat.le_of_ble_eq_true rfl) dX8_up_20 rfl (fun r7 S8 => ?_)
    refine g_goto 28 X dX8_up_23 (by decide) ?_
    exact g_iret X dX8_up_28 rfl
def fX8_through (x1 : Int32) (S : Sg) : Option (Int32 × Sg) :=
  bd (fX8_isDay x1 S) (fun r1 S2 => (if r1 = 0 then some ((-2 : Int32), S2) else bd (fX8_bringUpToDate S2) (fun r3 S4 => gd (ix x1 20) (bd (fJ6_bitCount_0f7a4 (S4.1 22 (Int32.toNatClampNeg x1)) S4) (fun r5 S6 => some (r5, S6))))))
set_option maxHeartbeats 4000000 in
set_option maxRecDepth 100000 in
theorem tX8_through (G : Gd) (l : Launch) (D : Nat) (x1 : Int32) (S : Sg) : Ct LC G l rI yX8_through cX8_through 2 (some .int) (D + 5) [.ref (G.2.1 0), .int x1] S (fX8_through x1 S) := by
  refine Ct.of (by decide) (Nat.le_of_ble_eq_true rfl) (fun Z hZ X => ?_)
  subst hZ
  show Go LC G Z 2 rI 0 [(0, .ref (G.2.1 0)), (1, .int x1)] [] S (fX8_through x1 S) kz
  unfold fX8_through
  refine g_iload_n 1 X 1 dX8_through_0 rfl rfl rfl ?_
  refine g_cSi1 4 X (tX8_isDay _ _ (D + 4) _ _) mfX8_isDay msX8_isDay lkX8_121 (Nat.le_of_ble_eq_true rfl) dX8_through_1 rfl (fun r1 S2 => ?_)
  refine g_if_ne 10 7 X dX8_through_4 (by decide) rfl (fun _ => ?_) (fun _ => ?_)
  · refine g_aload_n 11 X 0 dX8_through_10 rfl rfl rfl ?_
    refine g_cVv0 14 X (tX8_bringUpToDate _ _ (D)  _) mfX8_bringUpToDate miX8_bringUpToDate lkX8_124 rfl rfl rfl (Nat.le_of_ble_eq_true rfl) dX8_through_11 rfl (fun r3 S4 => ?_)
    refine g_aload_n 15 X 0 dX8_through_14 rfl rfl rfl ?_
    refine g_getr 18 X 21 rfl flX8_45 rfl dX8_through_15 rfl ?_
    refine g_getr 21 X 22 rfl flX8_182 rfl dX8_through_18 rfl ?_
    refine g_iload_n 22 X 1 dX8_through_21 rfl rfl rfl ?_
    refine g_iald 23 X rfl dX8_through_22 rfl ?_
    refine g_cSi1 26 X (tJ6_bitCount_0f7a4 _ _ (D + 4) _ _) mfJ6_bitCount_0f7a4 msJ6_bitCount_0f7a4 lkX8_210 (Nat.le_of_ble_eq_true rfl) dX8_through_23 rfl (fun r5 S6 => ?_)
    exact g_iret X dX8_through_26 rfl
  · refine g_bipush 9 X dX8_through_7 rfl cb_m2 ?_
    exact g_iret X dX8_through_9 rfl
def fX8_hasBit (x0 : Int32) (x1 : Int32) (S : Sg) : Option (Int32 × Sg) :=
  (if ((x0 >>> (x1 &&& 31)) &&& (1 : Int32)) = 0 then some ((0 : Int32), S) else some ((1 : Int32), S))
set_option maxHeartbeats 4000000 in
set_option maxRecDepth 100000 in
theorem tX8_hasBit (G : Gd) (l : Launch) (D : Nat) (x0 : Int32) (x1 : Int32) (S : Sg) : Ct LC G l rI yX8_hasBit cX8_hasBit 2 (some .boolean) (D + 0) [.int x0, .int x1] S (fX8_hasBit x0 x1 S) := by
  refine Ct.of (by decide) (Nat.le_of_ble_eq_true rfl) (fun Z hZ X => ?_)
  subst hZ
  show Go LC G Z 2 rI 0 [(0, .int x0), (1, .int x1)] [] S (fX8_hasBit x0 x1 S) kz
  unfold fX8_hasBit
  refine g_iload_n 1 X 0 dX8_hasBit_0 rfl rfl rfl ?_
  refine g_iload_n 2 X 1 dX8_hasBit_1 rfl rfl rfl ?_
  refine g_ishr 3 X dX8_hasBit_2 rfl ?_
  refine g_iconst 4 X dX8_hasBit_3 rfl ci_1 ?_
  refine g_iand 5 X dX8_hasBit_4 rfl ?_
  refine g_if_eq 12 8 X dX8_hasBit_5 (by decide) rfl (fun _ => ?_) (fun _ => ?_)
  · refine g_iconst 13 X dX8_hasBit_12 rfl ci_0 ?_
    exact g_zret X dX8_hasBit_13 rfl rfl
  · refine g_iconst 9 X dX8_hasBit_8 rfl ci_1 ?_
    refine g_goto 13 X dX8_hasBit_9 (by decide) ?_
    exact g_zret X dX8_hasBit_13 rfl rfl
def bX8_leastLine_2 (c0 : Int32) (rec : Int32 → Sg → Option (((Int32) ⊕ Int32) × Sg)) (a1 : Int32) (S2 : Sg) : Option (((Int32) ⊕ Int32) × Sg) :=
  (if (6 : Int32) ≤ a1 then some (.inl a1, S2) else bd (fX8_hasBit c0 a1 S2) (fun r3 S4 => (if r3 = 0 then rec (a1 + (1 : Int32)) S4 else some (.inr a1, S4))))
def fX8_leastLine (x0 : Int32) (S : Sg) : Option (Int32 × Sg) :=
  bd (lp (bX8_leastLine_2 x0) fl (0 : Int32) S) (se (fun (a8 : Int32) S9 => some ((-1 : Int32), S9)) (fun (v : Int32) S9 => some (v, S9)))
set_option maxHeartbeats 4000000 in
set_option maxRecDepth 100000 in
theorem tX8_leastLine (G : Gd) (l : Launch) (D : Nat) (x0 : Int32) (S : Sg) : Ct LC G l rI yX8_leastLine cX8_leastLine 2 (some .int) (D + 1) [.int x0] S (fX8_leastLine x0 S) := by
  refine Ct.of (by decide) (Nat.le_of_ble_eq_true rfl) (fun Z hZ X => ?_)
  subst hZ
  show Go LC G Z 2 rI 0 [(0, .int x0)] [] S (fX8_leastLine x0 S) kz
  unfold fX8_leastLine
  refine g_iconst 1 X dX8_leastLine_0 rfl ci_0 ?_
  refine g_istore_n 2 X [(1, _), (0, _)] dX8_leastLine_1 rfl rfl (Nat.le_of_ble_eq_true rfl) rfl ?_
  refine g_joinR 24 (fun (a8 : Int32) => []) (fun (a8 : Int32) => []) (fun a8 S9 => ?_) (fun J3 => ?_)
  · refine g_iconst 25 X dX8_leastLine_24 rfl ci_m1 ?_
    exact g_iret X dX8_leastLine_25 rfl
  · refine g_sub [1, 0] rfl (g_lp (fun (a1 : Int32) => [(0, .int x0), (1, .int a1)]) (fun rec5 ih4 a1 S2 => ?_) fl (0 : Int32) _)
    unfold bX8_leastLine_2
    refine g_iload_n 3 X 1 dX8_leastLine_2 rfl rfl rfl ?_
    refine g_bipush 5 X dX8_leastLine_3 rfl cb_6 ?_
    refine g_icmp_ge 24 8 X dX8_leastLine_5 (by decide) rfl (fun _ => ?_) (fun _ => ?_)
    · exact g_sub [] rfl (J3 a1 _)
    · refine g_iload_n 9 X 0 dX8_leastLine_8 rfl rfl rfl ?_
      refine g_iload_n 10 X 1 dX8_leastLine_9 rfl rfl rfl ?_
      refine g_cSi2 13 X (tX8_hasBit _ _ (D) _ _ _) mfX8_hasBit msX8_hasBit lkX8_402 (Nat.le_of_ble_eq_true rfl) dX8_leastLine_10 rfl (fun r6 S7 => ?_)
      refine g_if_eq 18 16 X dX8_leastLine_13 (by decide) rfl (fun _ => ?_) (fun _ => ?_)
      · refine g_iinc 21 X 1 [(1, _), (0, _)] dX8_leastLine_18 rfl rfl (ii_1 _) (Nat.le_of_ble_eq_true rfl) rfl ?_
        refine g_goto 2 X dX8_leastLine_21 (by decide) ?_
        exact g_sub [1, 0] rfl (ih4 (a1 + (1 : Int32)) _)
      · refine g_iload_n 17 X 1 dX8_leastLine_16 rfl rfl rfl ?_
        exact g_iret X dX8_leastLine_17 rfl
def bX8_misread_16 (c1 : Int32) (rec : Int32 → Sg → Option (((Int32) ⊕ Int32) × Sg)) (a5 : Int32) (S6 : Sg) : Option (((Int32) ⊕ Int32) × Sg) :=
  (if (20 : Int32) ≤ a5 then some (.inl a5, S6) else gd (ix a5 20) (bd (fX0_linesOf 12 (S6.1 22 (Int32.toNatClampNeg a5)) S6) (fun r7 S8 => gd (ix a5 20) (bd (fX0_linesOf 12 (S8.1 18 (Int32.toNatClampNeg a5)) S8) (fun r9 S10 => (if (r7 &&& r9) = 0 then rec (a5 + (1 : Int32)) S10 else (if c1 = 0 then some (.inr a5, S10) else bd (fX8_leastLine (r7 &&& r9) S10) (fun r11 S12 => some (.inr r11, S12)))))))))
def fX8_misread (x1 : Int32) (S : Sg) : Option (Int32 × Sg) :=
  bd (fX8_isEither x1 S) (fun r1 S2 => (if r1 = 0 then some ((-2 : Int32), S2) else bd (fX8_bringUpToDate S2) (fun r3 S4 => bd (lp (bX8_misread_16 x1) fl (0 : Int32) S4) (se (fun (a16 : Int32) S17 => some ((-1 : Int32), S17)) (fun (v : Int32) S17 => some (v, S17))))))
set_option maxHeartbeats 4000000 in
set_option maxRecDepth 100000 in
theorem tX8_misread (G : Gd) (l : Launch) (D : Nat) (x1 : Int32) (S : Sg) : Ct LC G l rI yX8_misread cX8_misread 4 (some .int) (D + 5) [.ref (G.2.1 0), .int x1] S (fX8_misread x1 S) := by
  refine Ct.of (by decide) (Nat.le_of_ble_eq_true rfl) (fun Z hZ X => ?_)
  subst hZ
  show Go LC G Z 4 rI 0 [(0, .ref (G.2.1 0)), (1, .int x1)] [] S (fX8_misread x1 S) kz
  unfold fX8_misread
  refine g_iload_n 1 X 1 dX8_misread_0 rfl rfl rfl ?_
  refine g_cSi1 4 X (tX8_isEither _ _ (D + 4) _ _) mfX8_isEither msX8_isEither lkX8_158 (Nat.le_of_ble_eq_true rfl) dX8_misread_1 rfl (fun r1 S2 => ?_)
  refine g_if_ne 10 7 X dX8_misread_4 (by decide) rfl (fun _ => ?_) (fun _ => ?_)
  · refine g_aload_n 11 X 0 dX8_misread_10 rfl rfl rfl ?_
    refine g_cVv0 14 X (tX8_bringUpToDate _ _ (D)  _) mfX8_bringUpToDate miX8_bringUpToDate lkX8_124 rfl rfl rfl (Nat.le_of_ble_eq_true rfl) dX8_misread_11 rfl (fun r3 S4 => ?_)
    refine g_iconst 15 X dX8_misread_14 rfl ci_0 ?_
    refine g_istore_n 16 X [(2, _), (0, _), (1, _)] dX8_misread_15 rfl rfl (Nat.le_of_ble_eq_true rfl) rfl ?_
    refine g_joinR 79 (fun (a16 : Int32) => []) (fun (a16 : Int32) => []) (fun a16 S17 => ?_) (fun J7 => ?_)
    · refine g_iconst 80 X dX8_misread_79 rfl ci_m1 ?_
      exact g_iret X dX8_misread_80 rfl
    · refine g_sub [1, 2, 0] rfl (g_lp (fun (a5 : Int32) => [(0, .ref (G.2.1 0)), (1, .int x1), (2, .int a5)]) (fun rec9 ih8 a5 S6 => ?_) fl (0 : Int32) _)
      unfold bX8_misread_16
      refine g_iload_n 17 X 2 dX8_misread_16 rfl rfl rfl ?_
      refine g_bipush 19 X dX8_misread_17 rfl cb_20 ?_
      refine g_icmp_ge 79 22 X dX8_misread_19 (by decide) rfl (fun _ => ?_) (fun _ => ?_)
      · exact g_sub [] rfl (J7 a5 _)
      · refine g_aload_n 23 X 0 dX8_misread_22 rfl rfl rfl ?_
        refine g_getr 26 X 12 rfl flX8_38 rfl dX8_misread_23 rfl ?_
        refine g_aload_n 27 X 0 dX8_misread_26 rfl rfl rfl ?_
        refine g_getr 30 X 21 rfl flX8_45 rfl dX8_misread_27 rfl ?_
        refine g_getr 33 X 22 rfl flX8_182 rfl dX8_misread_30 rfl ?_
        refine g_iload_n 34 X 2 dX8_misread_33 rfl rfl rfl ?_
        refine g_iald 35 X rfl dX8_misread_34 rfl ?_
        refine g_cVi1 38 X (tX0_linesOf _ _ (D + 3) _ (Or.inl rfl) _ _) mfX0_linesOf miX0_linesOf lkX8_215 rfl rfl rfl (Nat.le_of_ble_eq_true rfl) dX8_misread_35 rfl (fun r10 S11 => ?_)
        refine g_aload_n 39 X 0 dX8_misread_38 rfl rfl rfl ?_
        refine g_getr 42 X 12 rfl flX8_38 rfl dX8_misread_39 rfl ?_
        refine g_aload_n 43 X 0 dX8_misread_42 rfl rfl rfl ?_
        refine g_getr 46 X 12 rfl flX8_38 rfl dX8_misread_43 rfl ?_
        refine g_getr 49 X 18 rfl flX8_201 rfl dX8_misread_46 rfl ?_
        refine g_iload_n 50 X 2 dX8_misread_49 rfl rfl rfl ?_
        refine g_iald 51 X rfl dX8_misread_50 rfl ?_
        refine g_cVi1 54 X (tX0_linesOf _ _ (D + 3) _ (Or.inl rfl) _ _) mfX0_linesOf miX0_linesOf lkX8_215 rfl rfl rfl (Nat.le_of_ble_eq_true rfl) dX8_misread_51 rfl (fun r12 S13 => ?_)
        refine g_iand 55 X dX8_misread_54 rfl ?_
        refine g_istore_n 56 X [(3, _), (0, _), (1, _), (2, _)] dX8_misread_55 rfl rfl (Nat.le_of_ble_eq_true rfl) rfl ?_
        refine g_iload_n 57 X 0 dX8_misread_56 rfl rfl rfl ?_
        refine g_if_eq 73 60 X dX8_misread_57 (by decide) rfl (fun _ => ?_) (fun _ => ?_)
        · refine g_iinc 76 X 3 [(2, _), (3, _), (0, _), (1, _)] dX8_misread_73 rfl rfl (ii_1 _) (Nat.le_of_ble_eq_true rfl) rfl ?_
          refine g_goto 16 X dX8_misread_76 (by decide) ?_
          exact g_sub [2, 3, 0] rfl (ih8 (a5 + (1 : Int32)) _)
        · refine g_iload_n 61 X 2 dX8_misread_60 rfl rfl rfl ?_
          refine g_if_ne 68 64 X dX8_misread_61 (by decide) rfl (fun _ => ?_) (fun _ => ?_)
          · refine g_iload_n 69 X 0 dX8_misread_68 rfl rfl rfl ?_
            refine g_cSi1 72 X (tX8_leastLine _ _ (D + 3) _ _) mfX8_leastLine msX8_leastLine lkX8_218 (Nat.le_of_ble_eq_true rfl) dX8_misread_69 rfl (fun r14 S15 => ?_)
            exact g_iret X dX8_misread_72 rfl
          · refine g_iload_n 65 X 3 dX8_misread_64 rfl rfl rfl ?_
            refine g_goto 72 X dX8_misread_65 (by decide) ?_
            exact g_iret X dX8_misread_72 rfl
  · refine g_bipush 9 X dX8_misread_7 rfl cb_m2 ?_
    exact g_iret X dX8_misread_9 rfl
def bX8_most_10 (rec : (Int32 × Int32 × Int32) → Sg → Option ((Int32 × Int32 × Int32) × Sg)) (a3 : Int32 × Int32 × Int32) (S4 : Sg) : Option ((Int32 × Int32 × Int32) × Sg) :=
  (if (S4.1 12 0) ≤ a3.2.2 then some ((a3.1, a3.2.1, a3.2.2), S4) else bd (fX8_only a3.2.2 S4) (fun r5 S6 => bd (fX3_upsOf 21 r5 S6) (fun r7 S8 => bd ((if r7 ≤ a3.2.1 then some ((a3.1, a3.2.1), S8) else some ((a3.2.2, r7), S8))) (fun (t9 : Int32 × Int32) S10 => rec (t9.1, t9.2, (a3.2.2 + (1 : Int32))) S10))))
def fX8_most  (S : Sg) : Option (Int32 × Sg) :=
  bd (fX8_bringUpToDate S) (fun r1 S2 => bd (lp (bX8_most_10) fl ((-1 : Int32), (-1 : Int32), (0 : Int32)) S2) (fun (a15 : Int32 × Int32 × Int32) S16 => some (a15.1, S16)))
set_option maxHeartbeats 4000000 in
set_option maxRecDepth 100000 in
theorem tX8_most (G : Gd) (l : Launch) (D : Nat)  (S : Sg) : Ct LC G l rI yX8_most cX8_most 5 (some .int) (D + 5) [.ref (G.2.1 0)] S (fX8_most  S) := by
  refine Ct.of (by decide) (Nat.le_of_ble_eq_true rfl) (fun Z hZ X => ?_)
  subst hZ
  show Go LC G Z 5 rI 0 [(0, .ref (G.2.1 0))] [] S (fX8_most  S) kz
  unfold fX8_most
  refine g_aload_n 1 X 0 dX8_most_0 rfl rfl rfl ?_
  refine g_cVv0 4 X (tX8_bringUpToDate _ _ (D)  _) mfX8_bringUpToDate miX8_bringUpToDate lkX8_124 rfl rfl rfl (Nat.le_of_ble_eq_true rfl) dX8_most_1 rfl (fun r1 S2 => ?_)
  refine g_iconst 5 X dX8_most_4 rfl ci_m1 ?_
  refine g_istore_n 6 X [(1, _), (0, _)] dX8_most_5 rfl rfl (Nat.le_of_ble_eq_true rfl) rfl ?_
  refine g_iconst 7 X dX8_most_6 rfl ci_m1 ?_
  refine g_istore_n 8 X [(2, _), (1, _), (0, _)] dX8_most_7 rfl rfl (Nat.le_of_ble_eq_true rfl) rfl ?_
  refine g_iconst 9 X dX8_most_8 rfl ci_0 ?_
  refine g_istore_n 10 X [(3, _), (2, _), (1, _), (0, _)] dX8_most_9 rfl rfl (Nat.le_of_ble_eq_true rfl) rfl ?_
  refine g_joinK 51 (fun (a15 : Int32 × Int32 × Int32) => [(1, .int a15.1)]) (fun (a15 : Int32 × Int32 × Int32) => []) (fun a15 S16 => ?_) (fun J5 => ?_)
  · refine g_iload_n 52 X 0 dX8_most_51 rfl rfl rfl ?_
    exact g_iret X dX8_most_52 rfl
  · refine g_sub [3, 2, 1, 0] rfl (g_lp (fun (a3 : Int32 × Int32 × Int32) => [(0, .ref (G.2.1 0)), (1, .int a3.1), (2, .int a3.2.1), (3, .int a3.2.2)]) (fun rec7 ih6 a3 S4 => ?_) fl ((-1 : Int32), (-1 : Int32), (0 : Int32)) _)
    unfold bX8_most_10
    refine g_iload_n 11 X 3 dX8_most_10 rfl rfl rfl ?_
    refine g_aload_n 12 X 0 dX8_most_11 rfl rfl rfl ?_
    refine g_getr 15 X 12 rfl flX8_38 rfl dX8_most_12 rfl ?_
    refine g_geti 18 X rfl flX8_221 rfl dX8_most_15 rfl ?_
    refine g_icmp_ge 51 21 X dX8_most_18 (by decide) rfl (fun _ => ?_) (fun _ => ?_)
    · exact g_sub [1] rfl (J5 (a3.1, a3.2.1, a3.2.2) _)
    · refine g_aload_n 22 X 0 dX8_most_21 rfl rfl rfl ?_
      refine g_getr 25 X 21 rfl flX8_45 rfl dX8_most_22 rfl ?_
      refine g_iload_n 26 X 3 dX8_most_25 rfl rfl rfl ?_
      refine g_cSi1 29 X (tX8_only _ _ (D + 4) _ _) mfX8_only msX8_only lkX8_204 (Nat.le_of_ble_eq_true rfl) dX8_most_26 rfl (fun r8 S9 => ?_)
      refine g_cVi1 32 X (tX3_upsOf _ _ (D + 3) _ (Or.inl rfl) _ _) mfX3_upsOf miX3_upsOf lkX8_207 rfl rfl rfl (Nat.le_of_ble_eq_true rfl) dX8_most_29 rfl (fun r10 S11 => ?_)
      refine g_istore 34 X [(4, _), (0, _), (1, _), (2, _), (3, _)] dX8_most_32 rfl (Nat.le_of_ble_eq_true rfl) rfl ?_
      refine g_iload 36 X 0 dX8_most_34 rfl rfl ?_
      refine g_iload_n 37 X 3 dX8_most_36 rfl rfl rfl ?_
      refine g_joinK 45 (fun (t12 : Int32 × Int32) => [(0, .ref (G.2.1 0)), (1, .int t12.1), (2, .int t12.2), (3, .int a3.2.2)]) (fun (t12 : Int32 × Int32) => []) (fun t12 S13 => ?_) (fun J14 => ?_)
      · refine g_iinc 48 X 3 [(3, _), (0, _), (1, _), (2, _)] dX8_most_45 rfl rfl (ii_1 _) (Nat.le_of_ble_eq_true rfl) rfl ?_
        refine g_goto 10 X dX8_most_48 (by decide) ?_
        exact g_sub [1, 2, 3, 0] rfl (ih6 (t12.1, t12.2, (a3.2.2 + (1 : Int32))) _)
      · refine g_icmp_le 45 40 X dX8_most_37 (by decide) rfl (fun _ => ?_) (fun _ => ?_)
        · exact g_sub [1, 2, 3, 4] rfl (J14 (a3.1, a3.2.1) _)
        · refine g_iload_n 41 X 4 dX8_most_40 rfl rfl rfl ?_
          refine g_istore_n 42 X [(1, _), (4, _), (0, _), (2, _), (3, _)] dX8_most_41 rfl rfl (Nat.le_of_ble_eq_true rfl) rfl ?_
          refine g_iload 44 X 1 dX8_most_42 rfl rfl ?_
          refine g_istore_n 45 X [(2, _), (1, _), (4, _), (0, _), (3, _)] dX8_most_44 rfl rfl (Nat.le_of_ble_eq_true rfl) rfl ?_
          exact g_sub [3, 1, 0, 4] rfl (J14 (a3.2.2, r10) _)
def fX8_deep (x1 : Int32) (S : Sg) : Option (Int32 × Sg) :=
  bd (fX8_isDay x1 S) (fun r1 S2 => (if r1 = 0 then some ((-2 : Int32), S2) else bd (fX8_bringUpToDate S2) (fun r3 S4 => gd (ix x1 20) (bd (fX0_deepestCell 12 (S4.1 19 (Int32.toNatClampNeg x1)) S4) (fun r5 S6 => some (r5, S6))))))
set_option maxHeartbeats 4000000 in
set_option maxRecDepth 100000 in
theorem tX8_deep (G : Gd) (l : Launch) (D : Nat) (x1 : Int32) (S : Sg) : Ct LC G l rI yX8_deep cX8_deep 2 (some .int) (D + 5) [.ref (G.2.1 0), .int x1] S (fX8_deep x1 S) := by
  refine Ct.of (by decide) (Nat.le_of_ble_eq_true rfl) (fun Z hZ X => ?_)
  subst hZ
  show Go LC G Z 2 rI 0 [(0, .ref (G.2.1 0)), (1, .int x1)] [] S (fX8_deep x1 S) kz
  unfold fX8_deep
  refine g_iload_n 1 X 1 dX8_deep_0 rfl rfl rfl ?_
  refine g_cSi1 4 X (tX8_isDay _ _ (D + 4) _ _) mfX8_isDay msX8_isDay lkX8_121 (Nat.le_of_ble_eq_true rfl) dX8_deep_1 rfl (fun r1 S2 => ?_)
  refine g_if_ne 10 7 X dX8_deep_4 (by decide) rfl (fun _ => ?_) (fun _ => ?_)
  · refine g_aload_n 11 X 0 dX8_deep_10 rfl rfl rfl ?_
    refine g_cVv0 14 X (tX8_bringUpToDate _ _ (D)  _) mfX8_bringUpToDate miX8_bringUpToDate lkX8_124 rfl rfl rfl (Nat.le_of_ble_eq_true rfl) dX8_deep_11 rfl (fun r3 S4 => ?_)
    refine g_aload_n 15 X 0 dX8_deep_14 rfl rfl rfl ?_
    refine g_getr 18 X 12 rfl flX8_38 rfl dX8_deep_15 rfl ?_
    refine g_aload_n 19 X 0 dX8_deep_18 rfl rfl rfl ?_
    refine g_getr 22 X 12 rfl flX8_38 rfl dX8_deep_19 rfl ?_
    refine g_getr 25 X 19 rfl flX8_189 rfl dX8_deep_22 rfl ?_
    refine g_iload_n 26 X 1 dX8_deep_25 rfl rfl rfl ?_
    refine g_iald 27 X rfl dX8_deep_26 rfl ?_
    refine g_cVi1 30 X (tX0_deepestCell _ _ (D + 3) _ (Or.inl rfl) _ _) mfX0_deepestCell miX0_deepestCell lkX8_224 rfl rfl rfl (Nat.le_of_ble_eq_true rfl) dX8_deep_27 rfl (fun r5 S6 => ?_)
    exact g_iret X dX8_deep_30 rfl
  · refine g_bipush 9 X dX8_deep_7 rfl cb_m2 ?_
    exact g_iret X dX8_deep_9 rfl
def bX8_oil_18 (rec : (Int32 × Int32) → Sg → Option ((Int32 × Int32) × Sg)) (a5 : Int32 × Int32) (S6 : Sg) : Option ((Int32 × Int32) × Sg) :=
  (if (20 : Int32) ≤ a5.2 then some ((a5.1, a5.2), S6) else gd (ix a5.2 20) (bd (fX0_linesOf 12 (S6.1 22 (Int32.toNatClampNeg a5.2)) S6) (fun r7 S8 => rec ((a5.1 ||| r7), (a5.2 + (1 : Int32))) S8)))
def fX8_oil (x1 : Int32) (S : Sg) : Option (Int32 × Sg) :=
  bd (fX8_isEither x1 S) (fun r1 S2 => (if r1 = 0 then some ((-2 : Int32), S2) else bd (fX8_bringUpToDate S2) (fun r3 S4 => bd (lp (bX8_oil_18) fl ((0 : Int32), (0 : Int32)) S4) (fun (a12 : Int32 × Int32) S13 => bd (fJ6_bitCount_0f7a4 a12.1 S13) (fun r14 S15 => (if r14 ≤ (3 : Int32) then (if x1 = 0 then some (r14, S15) else some (a12.1, S15)) else some ((-1 : Int32), S15)))))))
set_option maxHeartbeats 4000000 in
set_option maxRecDepth 100000 in
theorem tX8_oil (G : Gd) (l : Launch) (D : Nat) (x1 : Int32) (S : Sg) : Ct LC G l rI yX8_oil cX8_oil 4 (some .int) (D + 5) [.ref (G.2.1 0), .int x1] S (fX8_oil x1 S) := by
  refine Ct.of (by decide) (Nat.le_of_ble_eq_true rfl) (fun Z hZ X => ?_)
  subst hZ
  show Go LC G Z 4 rI 0 [(0, .ref (G.2.1 0)), (1, .int x1)] [] S (fX8_oil x1 S) kz
  unfold fX8_oil
  refine g_iload_n 1 X 1 dX8_oil_0 rfl rfl rfl ?_
  refine g_cSi1 4 X (tX8_isEither _ _ (D + 4) _ _) mfX8_isEither msX8_isEither lkX8_158 (Nat.le_of_ble_eq_true rfl) dX8_oil_1 rfl (fun r1 S2 => ?_)
  refine g_if_ne 10 7 X dX8_oil_4 (by decide) rfl (fun _ => ?_) (fun _ => ?_)
  · refine g_aload_n 11 X 0 dX8_oil_10 rfl rfl rfl ?_
    refine g_cVv0 14 X (tX8_bringUpToDate _ _ (D)  _) mfX8_bringUpToDate miX8_bringUpToDate lkX8_124 rfl rfl rfl (Nat.le_of_ble_eq_true rfl) dX8_oil_11 rfl (fun r3 S4 => ?_)
    refine g_iconst 15 X dX8_oil_14 rfl ci_0 ?_
    refine g_istore_n 16 X [(2, _), (0, _), (1, _)] dX8_oil_15 rfl rfl (Nat.le_of_ble_eq_true rfl) rfl ?_
    refine g_iconst 17 X dX8_oil_16 rfl ci_0 ?_
    refine g_istore_n 18 X [(3, _), (2, _), (0, _), (1, _)] dX8_oil_17 rfl rfl (Nat.le_of_ble_eq_true rfl) rfl ?_
    refine g_joinK 49 (fun (a12 : Int32 × Int32) => [(1, .int x1), (2, .int a12.1)]) (fun (a12 : Int32 × Int32) => []) (fun a12 S13 => ?_) (fun J7 => ?_)
    · refine g_iload_n 50 X 1 dX8_oil_49 rfl rfl rfl ?_
      refine g_cSi1 53 X (tJ6_bitCount_0f7a4 _ _ (D + 4) _ _) mfJ6_bitCount_0f7a4 msJ6_bitCount_0f7a4 lkX8_210 (Nat.le_of_ble_eq_true rfl) dX8_oil_50 rfl (fun r14 S15 => ?_)
      refine g_istore_n 54 X [(3, _), (1, _), (2, _)] dX8_oil_53 rfl rfl (Nat.le_of_ble_eq_true rfl) rfl ?_
      refine g_iload_n 55 X 0 dX8_oil_54 rfl rfl rfl ?_
      refine g_iconst 56 X dX8_oil_55 rfl ci_3 ?_
      refine g_icmp_le 61 59 X dX8_oil_56 (by decide) rfl (fun _ => ?_) (fun _ => ?_)
      · refine g_iload_n 62 X 1 dX8_oil_61 rfl rfl rfl ?_
        refine g_if_ne 69 65 X dX8_oil_62 (by decide) rfl (fun _ => ?_) (fun _ => ?_)
        · refine g_iload_n 70 X 2 dX8_oil_69 rfl rfl rfl ?_
          exact g_iret X dX8_oil_70 rfl
        · refine g_iload_n 66 X 0 dX8_oil_65 rfl rfl rfl ?_
          refine g_goto 70 X dX8_oil_66 (by decide) ?_
          exact g_iret X dX8_oil_70 rfl
      · refine g_iconst 60 X dX8_oil_59 rfl ci_m1 ?_
        exact g_iret X dX8_oil_60 rfl
    · refine g_sub [2, 3, 1, 0] rfl (g_lp (fun (a5 : Int32 × Int32) => [(0, .ref (G.2.1 0)), (1, .int x1), (2, .int a5.1), (3, .int a5.2)]) (fun rec9 ih8 a5 S6 => ?_) fl ((0 : Int32), (0 : Int32)) _)
      unfold bX8_oil_18
      refine g_iload_n 19 X 3 dX8_oil_18 rfl rfl rfl ?_
      refine g_bipush 21 X dX8_oil_19 rfl cb_20 ?_
      refine g_icmp_ge 49 24 X dX8_oil_21 (by decide) rfl (fun _ => ?_) (fun _ => ?_)
      · exact g_sub [1, 2] rfl (J7 (a5.1, a5.2) _)
      · refine g_iload_n 25 X 2 dX8_oil_24 rfl rfl rfl ?_
        refine g_aload_n 26 X 0 dX8_oil_25 rfl rfl rfl ?_
        refine g_getr 29 X 12 rfl flX8_38 rfl dX8_oil_26 rfl ?_
        refine g_aload_n 30 X 0 dX8_oil_29 rfl rfl rfl ?_
        refine g_getr 33 X 21 rfl flX8_45 rfl dX8_oil_30 rfl ?_
        refine g_getr 36 X 22 rfl flX8_182 rfl dX8_oil_33 rfl ?_
        refine g_iload_n 37 X 3 dX8_oil_36 rfl rfl rfl ?_
        refine g_iald 38 X rfl dX8_oil_37 rfl ?_
        refine g_cVi1 41 X (tX0_linesOf _ _ (D + 3) _ (Or.inl rfl) _ _) mfX0_linesOf miX0_linesOf lkX8_215 rfl rfl rfl (Nat.le_of_ble_eq_true rfl) dX8_oil_38 rfl (fun r10 S11 => ?_)
        refine g_ior 42 X dX8_oil_41 rfl ?_
        refine g_istore_n 43 X [(2, _), (0, _), (1, _), (3, _)] dX8_oil_42 rfl rfl (Nat.le_of_ble_eq_true rfl) rfl ?_
        refine g_iinc 46 X 3 [(3, _), (2, _), (0, _), (1, _)] dX8_oil_43 rfl rfl (ii_1 _) (Nat.le_of_ble_eq_true rfl) rfl ?_
        refine g_goto 18 X dX8_oil_46 (by decide) ?_
        exact g_sub [2, 3, 1, 0] rfl (ih8 ((a5.1 ||| r10), (a5.2 + (1 : Int32))) _)
  · refine g_bipush 9 X dX8_oil_7 rfl cb_m2 ?_
    exact g_iret X dX8_oil_9 rfl
def fX8_upsInTrial (x1 : Int32) (S : Sg) : Option (Int32 × Sg) :=
  bd (fX0_settle 24 x1 S) (fun r1 S2 => bd (fX3_follow 33 24 5 (S2.1 0 15) S2) (fun r3 S4 => bd (fX3_total 33 S4) (fun r5 S6 => some (r5, S6))))
set_option maxHeartbeats 4000000 in
set_option maxRecDepth 100000 in
theorem tX8_upsInTrial (G : Gd) (l : Launch) (D : Nat) (x1 : Int32) (S : Sg) : Ct LC G l rI yX8_upsInTrial cX8_upsInTrial 2 (some .int) (D + 3) [.ref (G.2.1 0), .int x1] S (fX8_upsInTrial x1 S) := by
  refine Ct.of (by decide) (Nat.le_of_ble_eq_true rfl) (fun Z hZ X => ?_)
  subst hZ
  show Go LC G Z 2 rI 0 [(0, .ref (G.2.1 0)), (1, .int x1)] [] S (fX8_upsInTrial x1 S) kz
  unfold fX8_upsInTrial
  refine g_aload_n 1 X 0 dX8_upsInTrial_0 rfl rfl rfl ?_
  refine g_getr 4 X 24 rfl flX8_49 rfl dX8_upsInTrial_1 rfl ?_
  refine g_iload_n 5 X 1 dX8_upsInTrial_4 rfl rfl rfl ?_
  refine g_aload_n 6 X 0 dX8_upsInTrial_5 rfl rfl rfl ?_
  refine g_getr 9 X 7 rfl flX8_31 rfl dX8_upsInTrial_6 rfl ?_
  refine g_cVv2 12 X (tX0_settle _ _ (D) _ (Or.inr rfl) _ _) mfX0_settle miX0_settle lkX8_257 rfl rfl rfl (Nat.le_of_ble_eq_true rfl) dX8_upsInTrial_9 rfl (fun r1 S2 => ?_)
  refine g_aload_n 13 X 0 dX8_upsInTrial_12 rfl rfl rfl ?_
  refine g_getr 16 X 33 rfl flX8_52 rfl dX8_upsInTrial_13 rfl ?_
  refine g_aload_n 17 X 0 dX8_upsInTrial_16 rfl rfl rfl ?_
  refine g_getr 20 X 24 rfl flX8_49 rfl dX8_upsInTrial_17 rfl ?_
  refine g_aload_n 21 X 0 dX8_upsInTrial_20 rfl rfl rfl ?_
  refine g_getr 24 X 5 rfl flX8_21 rfl dX8_upsInTrial_21 rfl ?_
  refine g_aload_n 25 X 0 dX8_upsInTrial_24 rfl rfl rfl ?_
  refine g_geti 28 X rfl flX8_89 rfl dX8_upsInTrial_25 rfl ?_
  refine g_cVv3 31 X (tX3_follow _ _ (D) _ (Or.inr rfl) _ (Or.inr rfl) _ (Or.inl rfl) _ _) mfX3_follow miX3_follow lkX8_261 rfl rfl rfl (Nat.le_of_ble_eq_true rfl) dX8_upsInTrial_28 rfl (fun r3 S4 => ?_)
  refine g_aload_n 32 X 0 dX8_upsInTrial_31 rfl rfl rfl ?_
  refine g_getr 35 X 33 rfl flX8_52 rfl dX8_upsInTrial_32 rfl ?_
  refine g_cVi0 38 X (tX3_total _ _ (D) _ (Or.inr rfl) _) mfX3_total miX3_total lkX8_300 rfl rfl rfl (Nat.le_of_ble_eq_true rfl) dX8_upsInTrial_35 rfl (fun r5 S6 => ?_)
  exact g_iret X dX8_upsInTrial_38 rfl
def bX8_seekDay_52 (c1 : Int32) (c3 : Int32) (c4 : Int32) (rec : Int32 → Sg → Option ((Int32) × Sg)) (a9 : Int32) (S10 : Sg) : Option ((Int32) × Sg) :=
  (if (20 : Int32) ≤ a9 then some (a9, S10) else gd (ix c1 8) (bd (fX8_upsInTrial c3 (sI S10 25 (Int32.toNatClampNeg c1) a9)) (fun r11 S12 => bd (fX4_offer a9 (c4 + r11) S12) (fun r13 S14 => rec (a9 + (1 : Int32)) S14))))
def fX8_seekDay (x1 : Int32) (S : Sg) : Option (Unit × Sg) :=
  gd (ix x1 8) (bd (fX0_onCell 12 (S.1 14 (Int32.toNatClampNeg x1)) S) (fun r1 S2 => bd (fX3_upsOf 21 (r1 ^^^ (-1 : Int32)) S2) (fun r3 S4 => bd (fX0_takeStrokes 24 12 S4) (fun r5 S6 => bd (fX4_begin S6) (fun r7 S8 => bd (lp (bX8_seekDay_52 x1 r1 r3) fl (0 : Int32) S8) (fun (a18 : Int32) S19 => some ((), S19)))))))
set_option maxHeartbeats 4000000 in
set_option maxRecDepth 100000 in
theorem tX8_seekDay (G : Gd) (l : Launch) (D : Nat) (x1 : Int32) (S : Sg) : Ct LC G l rV yX8_seekDay cX8_seekDay 6 none (D + 4) [.ref (G.2.1 0), .int x1] S (fX8_seekDay x1 S) := by
  refine Ct.of (by decide) (Nat.le_of_ble_eq_true rfl) (fun Z hZ X => ?_)
  subst hZ
  show Go LC G Z 6 rV 0 [(0, .ref (G.2.1 0)), (1, .int x1)] [] S (fX8_seekDay x1 S) kz
  unfold fX8_seekDay
  refine g_aload_n 1 X 0 dX8_seekDay_0 rfl rfl rfl ?_
  refine g_getr 4 X 12 rfl flX8_38 rfl dX8_seekDay_1 rfl ?_
  refine g_getr 7 X 14 rfl flX8_133 rfl dX8_seekDay_4 rfl ?_
  refine g_iload_n 8 X 1 dX8_seekDay_7 rfl rfl rfl ?_
  refine g_iald 9 X rfl dX8_seekDay_8 rfl ?_
  refine g_istore_n 10 X [(2, _), (0, _), (1, _)] dX8_seekDay_9 rfl rfl (Nat.le_of_ble_eq_true rfl) rfl ?_
  refine g_aload_n 11 X 1 dX8_seekDay_10 rfl rfl rfl ?_
  refine g_getr 14 X 12 rfl flX8_38 rfl dX8_seekDay_11 rfl ?_
  refine g_iload_n 15 X 0 dX8_seekDay_14 rfl rfl rfl ?_
  refine g_cVi1 18 X (tX0_onCell _ _ (D + 2) _ (Or.inl rfl) _ _) mfX0_onCell miX0_onCell lkX8_254 rfl rfl rfl (Nat.le_of_ble_eq_true rfl) dX8_seekDay_15 rfl (fun r1 S2 => ?_)
  refine g_istore_n 19 X [(3, _), (2, _), (0, _), (1, _)] dX8_seekDay_18 rfl rfl (Nat.le_of_ble_eq_true rfl) rfl ?_
  refine g_aload_n 20 X 2 dX8_seekDay_19 rfl rfl rfl ?_
  refine g_getr 23 X 21 rfl flX8_45 rfl dX8_seekDay_20 rfl ?_
  refine g_iload_n 24 X 0 dX8_seekDay_23 rfl rfl rfl ?_
  refine g_iconst 25 X dX8_seekDay_24 rfl ci_m1 ?_
  refine g_ixor 26 X dX8_seekDay_25 rfl ?_
  refine g_cVi1 29 X (tX3_upsOf _ _ (D + 2) _ (Or.inl rfl) _ _) mfX3_upsOf miX3_upsOf lkX8_207 rfl rfl rfl (Nat.le_of_ble_eq_true rfl) dX8_seekDay_26 rfl (fun r3 S4 => ?_)
  refine g_istore 31 X [(4, _), (3, _), (2, _), (0, _), (1, _)] dX8_seekDay_29 rfl (Nat.le_of_ble_eq_true rfl) rfl ?_
  refine g_aload_n 32 X 3 dX8_seekDay_31 rfl rfl rfl ?_
  refine g_getr 35 X 24 rfl flX8_49 rfl dX8_seekDay_32 rfl ?_
  refine g_aload_n 36 X 3 dX8_seekDay_35 rfl rfl rfl ?_
  refine g_getr 39 X 12 rfl flX8_38 rfl dX8_seekDay_36 rfl ?_
  refine g_cVv1 42 X (tX0_takeStrokes _ _ (D + 2) _ (Or.inr rfl) _ (Or.inl rfl) _) mfX0_takeStrokes miX0_takeStrokes lkX8_250 rfl rfl rfl (Nat.le_of_ble_eq_true rfl) dX8_seekDay_39 rfl (fun r5 S6 => ?_)
  refine g_aload_n 43 X 3 dX8_seekDay_42 rfl rfl rfl ?_
  refine g_getr 46 X 40 rfl flX8_65 rfl dX8_seekDay_43 rfl ?_
  refine g_cVv0 49 X (tX4_begin _ _ (D + 3)  _) mfX4_begin miX4_begin lkX8_272 rfl rfl rfl (Nat.le_of_ble_eq_true rfl) dX8_seekDay_46 rfl (fun r7 S8 => ?_)
  refine g_iconst 50 X dX8_seekDay_49 rfl ci_0 ?_
  refine g_istore 52 X [(5, _), (4, _), (3, _), (2, _), (0, _), (1, _)] dX8_seekDay_50 rfl (Nat.le_of_ble_eq_true rfl) rfl ?_
  refine g_joinK 93 (fun (a18 : Int32) => []) (fun (a18 : Int32) => []) (fun a18 S19 => ?_) (fun J11 => ?_)
  · exact g_vret X dX8_seekDay_93 rfl
  · refine g_sub [4, 5, 2, 1, 0] rfl (g_lp (fun (a9 : Int32) => [(0, .ref (G.2.1 0)), (1, .int x1), (3, .int r1), (4, .int r3), (5, .int a9)]) (fun rec13 ih12 a9 S10 => ?_) fl (0 : Int32) _)
    unfold bX8_seekDay_52
    refine g_iload 54 X 4 dX8_seekDay_52 rfl rfl ?_
    refine g_bipush 56 X dX8_seekDay_54 rfl cb_20 ?_
    refine g_icmp_ge 93 59 X dX8_seekDay_56 (by decide) rfl (fun _ => ?_) (fun _ => ?_)
    · exact g_sub [] rfl (J11 a9 _)
    · refine g_aload_n 60 X 0 dX8_seekDay_59 rfl rfl rfl ?_
      refine g_getr 63 X 24 rfl flX8_49 rfl dX8_seekDay_60 rfl ?_
      refine g_getr 66 X 25 rfl flX8_130 rfl dX8_seekDay_63 rfl ?_
      refine g_iload_n 67 X 1 dX8_seekDay_66 rfl rfl rfl ?_
      refine g_iload 69 X 4 dX8_seekDay_67 rfl rfl ?_
      refine g_iast 70 X rfl dX8_seekDay_69 rfl ?_
      refine g_aload_n 71 X 0 dX8_seekDay_70 rfl rfl rfl ?_
      refine g_getr 74 X 40 rfl flX8_65 rfl dX8_seekDay_71 rfl ?_
      refine g_iload 76 X 4 dX8_seekDay_74 rfl rfl ?_
      refine g_iload 78 X 3 dX8_seekDay_76 rfl rfl ?_
      refine g_aload_n 79 X 0 dX8_seekDay_78 rfl rfl rfl ?_
      refine g_iload_n 80 X 2 dX8_seekDay_79 rfl rfl rfl ?_
      refine g_cVi1 83 X (tX8_upsInTrial _ _ (D) _ _) mfX8_upsInTrial miX8_upsInTrial lkX8_423 rfl rfl rfl (Nat.le_of_ble_eq_true rfl) dX8_seekDay_80 rfl (fun r14 S15 => ?_)
      refine g_iadd 84 X dX8_seekDay_83 rfl ?_
      refine g_cVv2 87 X (tX4_offer _ _ (D + 3) _ _ _) mfX4_offer miX4_offer lkX8_278 rfl rfl rfl (Nat.le_of_ble_eq_true rfl) dX8_seekDay_84 rfl (fun r16 S17 => ?_)
      refine g_iinc 90 X 4 [(5, _), (0, _), (1, _), (3, _), (4, _)] dX8_seekDay_87 rfl rfl (ii_1 _) (Nat.le_of_ble_eq_true rfl) rfl ?_
      refine g_goto 52 X dX8_seekDay_90 (by decide) ?_
      exact g_sub [1, 2, 3, 4, 0] rfl (ih12 (a9 + (1 : Int32)) _)
def fX8_when (x1 : Int32) (x2 : Int32) (S : Sg) : Option (Int32 × Sg) :=
  bd (fX8_bringUpToDate S) (fun r1 S2 => bd (fX8_isStroke x1 S2) (fun r3 S4 => (if r3 = 0 then some ((-2 : Int32), S4) else bd (fX8_isEither x2 S4) (fun r5 S6 => (if r5 = 0 then some ((-2 : Int32), S6) else bd (fX8_seekDay x1 S6) (fun r7 S8 => bd (fX4_tell x2 S8) (fun r9 S10 => some (r9, S10))))))))
set_option maxHeartbeats 4000000 in
set_option maxRecDepth 100000 in
theorem tX8_when (G : Gd) (l : Launch) (D : Nat) (x1 : Int32) (x2 : Int32) (S : Sg) : Ct LC G l rI yX8_when cX8_when 3 (some .int) (D + 5) [.ref (G.2.1 0), .int x1, .int x2] S (fX8_when x1 x2 S) := by
  refine Ct.of (by decide) (Nat.le_of_ble_eq_true rfl) (fun Z hZ X => ?_)
  subst hZ
  show Go LC G Z 3 rI 0 [(0, .ref (G.2.1 0)), (1, .int x1), (2, .int x2)] [] S (fX8_when x1 x2 S) kz
  unfold fX8_when
  refine g_aload_n 1 X 0 dX8_when_0 rfl rfl rfl ?_
  refine g_cVv0 4 X (tX8_bringUpToDate _ _ (D)  _) mfX8_bringUpToDate miX8_bringUpToDate lkX8_124 rfl rfl rfl (Nat.le_of_ble_eq_true rfl) dX8_when_1 rfl (fun r1 S2 => ?_)
  refine g_aload_n 5 X 0 dX8_when_4 rfl rfl rfl ?_
  refine g_iload_n 6 X 1 dX8_when_5 rfl rfl rfl ?_
  refine g_cVi1 9 X (tX8_isStroke _ _ (D + 4) _ _) mfX8_isStroke miX8_isStroke lkX8_127 rfl rfl rfl (Nat.le_of_ble_eq_true rfl) dX8_when_6 rfl (fun r3 S4 => ?_)
  refine g_if_eq 19 12 X dX8_when_9 (by decide) rfl (fun _ => ?_) (fun _ => ?_)
  · refine g_bipush 21 X dX8_when_19 rfl cb_m2 ?_
    exact g_iret X dX8_when_21 rfl
  · refine g_iload_n 13 X 2 dX8_when_12 rfl rfl rfl ?_
    refine g_cSi1 16 X (tX8_isEither _ _ (D + 4) _ _) mfX8_isEither msX8_isEither lkX8_158 (Nat.le_of_ble_eq_true rfl) dX8_when_13 rfl (fun r5 S6 => ?_)
    refine g_if_ne 22 19 X dX8_when_16 (by decide) rfl (fun _ => ?_) (fun _ => ?_)
    · refine g_aload_n 23 X 0 dX8_when_22 rfl rfl rfl ?_
      refine g_iload_n 24 X 1 dX8_when_23 rfl rfl rfl ?_
      refine g_cVv1 27 X (tX8_seekDay _ _ (D) _ _) mfX8_seekDay miX8_seekDay lkX8_227 rfl rfl rfl (Nat.le_of_ble_eq_true rfl) dX8_when_24 rfl (fun r7 S8 => ?_)
      refine g_aload_n 28 X 0 dX8_when_27 rfl rfl rfl ?_
      refine g_getr 31 X 40 rfl flX8_65 rfl dX8_when_28 rfl ?_
      refine g_iload_n 32 X 2 dX8_when_31 rfl rfl rfl ?_
      refine g_cVi1 35 X (tX4_tell _ _ (D + 4) _ _) mfX4_tell miX4_tell lkX8_230 rfl rfl rfl (Nat.le_of_ble_eq_true rfl) dX8_when_32 rfl (fun r9 S10 => ?_)
      exact g_iret X dX8_when_35 rfl
    · refine g_bipush 21 X dX8_when_19 rfl cb_m2 ?_
      exact g_iret X dX8_when_21 rfl
def bX8_seekCell_57 (c1 : Int32) (c2 : Int32) (c3 : Int32) (c4 : Int32) (rec : (Int32 × Int32) → Sg → Option ((Int32 × Int32) × Sg)) (a11 : Int32 × Int32) (S12 : Sg) : Option ((Int32 × Int32) × Sg) :=
  (if (36 : Int32) ≤ a11.2 then some ((a11.1, a11.2), S12) else bd (fX0_onCell 12 a11.2 S12) (fun r13 S14 => bd (fX8_only c1 S14) (fun r15 S16 => bd ((if (r13 &&& (r15 ^^^ (-1 : Int32))) = 0 then some ((1 : Int32), S16) else some ((0 : Int32), S16))) (fun (t17 : Int32) S18 => bd ((if t17 = 0 then bd ((if t17 = 0 then some (a11.1, S18) else some ((a11.2 / (6 : Int32)), S18))) (fun (t23 : Int32) S24 => gd (ix c1 8) (bd (fX3_upsOf 21 ((c3 ||| r13) ^^^ (-1 : Int32)) (sI S24 26 (Int32.toNatClampNeg c1) a11.2)) (fun r26 S27 => bd ((if a11.2 = c2 then some ((0 : Int32), S27) else some (c4, S27))) (fun (t28 : Int32) S29 => bd (fX8_only c1 S29) (fun r31 S32 => bd (fX8_upsInTrial (r13 ||| r31) S32) (fun r33 S34 => bd (fX4_offer a11.2 ((r26 + t28) + r33) S34) (fun r35 S36 => some (t23, S36)))))))) else (if a11.1 = (a11.2 / (6 : Int32)) then some (a11.1, S18) else bd ((if t17 = 0 then some (a11.1, S18) else some ((a11.2 / (6 : Int32)), S18))) (fun (t37 : Int32) S38 => gd (ix c1 8) (bd (fX3_upsOf 21 ((c3 ||| r13) ^^^ (-1 : Int32)) (sI S38 26 (Int32.toNatClampNeg c1) a11.2)) (fun r40 S41 => bd ((if a11.2 = c2 then some ((0 : Int32), S41) else some (c4, S41))) (fun (t42 : Int32) S43 => bd (fX8_only c1 S43) (fun r45 S46 => bd (fX8_upsInTrial (r13 ||| r45) S46) (fun r47 S48 => bd (fX4_offer a11.2 ((r40 + t42) + r47) S48) (fun r49 S50 => some (t37, S50))))))))))) (fun (t20 : Int32) S21 => rec (t20, (a11.2 + (1 : Int32))) S21)))))
def fX8_seekCell (x1 : Int32) (S : Sg) : Option (Unit × Sg) :=
  gd (ix x1 8) (bd (fX0_onCell 12 (S.1 14 (Int32.toNatClampNeg x1)) S) (fun r1 S2 => bd (fX0_takeStrokes 24 12 S2) (fun r3 S4 => bd (fX8_only x1 S4) (fun r5 S6 => bd (fX8_upsInTrial (r1 &&& (r5 ^^^ (-1 : Int32))) S6) (fun r7 S8 => bd (fX4_begin S8) (fun r9 S10 => bd (lp (bX8_seekCell_57 x1 (S.1 14 (Int32.toNatClampNeg x1)) r1 r7) fl ((-1 : Int32), (0 : Int32)) S10) (fun (a54 : Int32 × Int32) S55 => some ((), S55))))))))
set_option maxHeartbeats 4000000 in
set_option maxRecDepth 100000 in
theorem tX8_seekCell (G : Gd) (l : Launch) (D : Nat) (x1 : Int32) (S : Sg) : Ct LC G l rV yX8_seekCell cX8_seekCell 10 none (D + 4) [.ref (G.2.1 0), .int x1] S (fX8_seekCell x1 S) := by
  refine Ct.of (by decide) (Nat.le_of_ble_eq_true rfl) (fun Z hZ X => ?_)
  subst hZ
  show Go LC G Z 10 rV 0 [(0, .ref (G.2.1 0)), (1, .int x1)] [] S (fX8_seekCell x1 S) kz
  unfold fX8_seekCell
  refine g_aload_n 1 X 0 dX8_seekCell_0 rfl rfl rfl ?_
  refine g_getr 4 X 12 rfl flX8_38 rfl dX8_seekCell_1 rfl ?_
  refine g_getr 7 X 14 rfl flX8_133 rfl dX8_seekCell_4 rfl ?_
  refine g_iload_n 8 X 1 dX8_seekCell_7 rfl rfl rfl ?_
  refine g_iald 9 X rfl dX8_seekCell_8 rfl ?_
  refine g_istore_n 10 X [(2, _), (0, _), (1, _)] dX8_seekCell_9 rfl rfl (Nat.le_of_ble_eq_true rfl) rfl ?_
  refine g_aload_n 11 X 1 dX8_seekCell_10 rfl rfl rfl ?_
  refine g_getr 14 X 12 rfl flX8_38 rfl dX8_seekCell_11 rfl ?_
  refine g_iload_n 15 X 0 dX8_seekCell_14 rfl rfl rfl ?_
  refine g_cVi1 18 X (tX0_onCell _ _ (D + 2) _ (Or.inl rfl) _ _) mfX0_onCell miX0_onCell lkX8_254 rfl rfl rfl (Nat.le_of_ble_eq_true rfl) dX8_seekCell_15 rfl (fun r1 S2 => ?_)
  refine g_istore_n 19 X [(3, _), (2, _), (0, _), (1, _)] dX8_seekCell_18 rfl rfl (Nat.le_of_ble_eq_true rfl) rfl ?_
  refine g_aload_n 20 X 2 dX8_seekCell_19 rfl rfl rfl ?_
  refine g_getr 23 X 24 rfl flX8_49 rfl dX8_seekCell_20 rfl ?_
  refine g_aload_n 24 X 2 dX8_seekCell_23 rfl rfl rfl ?_
  refine g_getr 27 X 12 rfl flX8_38 rfl dX8_seekCell_24 rfl ?_
  refine g_cVv1 30 X (tX0_takeStrokes _ _ (D + 2) _ (Or.inr rfl) _ (Or.inl rfl) _) mfX0_takeStrokes miX0_takeStrokes lkX8_250 rfl rfl rfl (Nat.le_of_ble_eq_true rfl) dX8_seekCell_27 rfl (fun r3 S4 => ?_)
  refine g_aload_n 31 X 2 dX8_seekCell_30 rfl rfl rfl ?_
  refine g_iload_n 32 X 0 dX8_seekCell_31 rfl rfl rfl ?_
  refine g_iload_n 33 X 3 dX8_seekCell_32 rfl rfl rfl ?_
  refine g_cSi1 36 X (tX8_only _ _ (D + 3) _ _) mfX8_only msX8_only lkX8_204 (Nat.le_of_ble_eq_true rfl) dX8_seekCell_33 rfl (fun r5 S6 => ?_)
  refine g_iconst 37 X dX8_seekCell_36 rfl ci_m1 ?_
  refine g_ixor 38 X dX8_seekCell_37 rfl ?_
  refine g_iand 39 X dX8_seekCell_38 rfl ?_
  refine g_cVi1 42 X (tX8_upsInTrial _ _ (D) _ _) mfX8_upsInTrial miX8_upsInTrial lkX8_423 rfl rfl rfl (Nat.le_of_ble_eq_true rfl) dX8_seekCell_39 rfl (fun r7 S8 => ?_)
  refine g_istore 44 X [(4, _), (3, _), (2, _), (0, _), (1, _)] dX8_seekCell_42 rfl (Nat.le_of_ble_eq_true rfl) rfl ?_
  refine g_iconst 45 X dX8_seekCell_44 rfl ci_m1 ?_
  refine g_istore 47 X [(5, _), (4, _), (3, _), (2, _), (0, _), (1, _)] dX8_seekCell_45 rfl (Nat.le_of_ble_eq_true rfl) rfl ?_
  refine g_aload_n 48 X 4 dX8_seekCell_47 rfl rfl rfl ?_
  refine g_getr 51 X 40 rfl flX8_65 rfl dX8_seekCell_48 rfl ?_
  refine g_cVv0 54 X (tX4_begin _ _ (D + 3)  _) mfX4_begin miX4_begin lkX8_272 rfl rfl rfl (Nat.le_of_ble_eq_true rfl) dX8_seekCell_51 rfl (fun r9 S10 => ?_)
  refine g_iconst 55 X dX8_seekCell_54 rfl ci_0 ?_
  refine g_istore 57 X [(6, _), (5, _), (4, _), (3, _), (2, _), (0, _), (1, _)] dX8_seekCell_55 rfl (Nat.le_of_ble_eq_true rfl) rfl ?_
  refine g_joinK 197 (fun (a54 : Int32 × Int32) => []) (fun (a54 : Int32 × Int32) => []) (fun a54 S55 => ?_) (fun J13 => ?_)
  · exact g_vret X dX8_seekCell_197 rfl
  · refine g_sub [5, 6, 4, 3, 2, 1, 0] rfl (g_lp (fun (a11 : Int32 × Int32) => [(0, .ref (G.2.1 0)), (1, .int x1), (2, .int (S.1 14 (Int32.toNatClampNeg x1))), (3, .int r1), (4, .int r7), (5, .int a11.1), (6, .int a11.2)]) (fun rec15 ih14 a11 S12 => ?_) fl ((-1 : Int32), (0 : Int32)) _)
    unfold bX8_seekCell_57
    refine g_iload 59 X 6 dX8_seekCell_57 rfl rfl ?_
    refine g_bipush 61 X dX8_seekCell_59 rfl cb_36 ?_
    refine g_icmp_ge 197 64 X dX8_seekCell_61 (by decide) rfl (fun _ => ?_) (fun _ => ?_)
    · exact g_sub [] rfl (J13 (a11.1, a11.2) _)
    · refine g_aload_n 65 X 0 dX8_seekCell_64 rfl rfl rfl ?_
      refine g_getr 68 X 12 rfl flX8_38 rfl dX8_seekCell_65 rfl ?_
      refine g_iload 70 X 6 dX8_seekCell_68 rfl rfl ?_
      refine g_cVi1 73 X (tX0_onCell _ _ (D + 2) _ (Or.inl rfl) _ _) mfX0_onCell miX0_onCell lkX8_254 rfl rfl rfl (Nat.le_of_ble_eq_true rfl) dX8_seekCell_70 rfl (fun r16 S17 => ?_)
      refine g_istore 75 X [(7, _), (0, _), (1, _), (2, _), (3, _), (4, _), (5, _), (6, _)] dX8_seekCell_73 rfl (Nat.le_of_ble_eq_true rfl) rfl ?_
      refine g_iload 77 X 0 dX8_seekCell_75 rfl rfl ?_
      refine g_iload_n 78 X 2 dX8_seekCell_77 rfl rfl rfl ?_
      refine g_cSi1 81 X (tX8_only _ _ (D + 3) _ _) mfX8_only msX8_only lkX8_204 (Nat.le_of_ble_eq_true rfl) dX8_seekCell_78 rfl (fun r18 S19 => ?_)
      refine g_iconst 82 X dX8_seekCell_81 rfl ci_m1 ?_
      refine g_ixor 83 X dX8_seekCell_82 rfl ?_
      refine g_iand 84 X dX8_seekCell_83 rfl ?_
      refine g_joinK 92 (fun (t20 : Int32) => [(0, .ref (G.2.1 0)), (1, .int x1), (2, .int (S.1 14 (Int32.toNatClampNeg x1))), (3, .int r1), (4, .int r7), (5, .int a11.1), (6, .int a11.2), (7, .int r16)]) (fun (t20 : Int32) => [.int t20]) (fun t20 S21 => ?_) (fun J22 => ?_)
      · refine g_istore 94 X [(8, _), (0, _), (1, _), (2, _), (3, _), (4, _), (5, _), (6, _), (7, _)] dX8_seekCell_92 rfl (Nat.le_of_ble_eq_true rfl) rfl ?_
        refine g_iload 96 X 0 dX8_seekCell_94 rfl rfl ?_
        refine g_joinK 191 (fun (t23 : Int32) => [(0, .ref (G.2.1 0)), (1, .int x1), (2, .int (S.1 14 (Int32.toNatClampNeg x1))), (3, .int r1), (4, .int r7), (5, .int t23), (6, .int a11.2)]) (fun (t23 : Int32) => []) (fun t23 S24 => ?_) (fun J25 => ?_)
        · refine g_iinc 194 X 6 [(6, _), (0, _), (1, _), (2, _), (3, _), (4, _), (5, _)] dX8_seekCell_191 rfl rfl (ii_1 _) (Nat.le_of_ble_eq_true rfl) rfl ?_
          refine g_goto 57 X dX8_seekCell_194 (by decide) ?_
          exact g_sub [1, 2, 3, 4, 5, 6, 0] rfl (ih14 (t23, (a11.2 + (1 : Int32))) _)
        · refine g_if_eq 112 99 X dX8_seekCell_96 (by decide) rfl (fun _ => ?_) (fun _ => ?_)
          · refine g_iload 114 X 0 dX8_seekCell_112 rfl rfl ?_
            refine g_joinK 127 (fun (t26 : Int32) => [(0, .ref (G.2.1 0)), (1, .int x1), (2, .int (S.1 14 (Int32.toNatClampNeg x1))), (3, .int r1), (4, .int r7), (6, .int a11.2), (7, .int r16)]) (fun (t26 : Int32) => [.int t26]) (fun t26 S27 => ?_) (fun J28 => ?_)
            · refine g_istore 129 X [(5, _), (0, _), (1, _), (2, _), (3, _), (4, _), (6, _), (7, _)] dX8_seekCell_127 rfl (Nat.le_of_ble_eq_true rfl) rfl ?_
              refine g_aload_n 130 X 1 dX8_seekCell_129 rfl rfl rfl ?_
              refine g_getr 133 X 24 rfl flX8_49 rfl dX8_seekCell_130 rfl ?_
              refine g_getr 136 X 26 rfl flX8_133 rfl dX8_seekCell_133 rfl ?_
              refine g_iload_n 137 X 2 dX8_seekCell_136 rfl rfl rfl ?_
              refine g_iload 139 X 6 dX8_seekCell_137 rfl rfl ?_
              refine g_iast 140 X rfl dX8_seekCell_139 rfl ?_
              refine g_aload_n 141 X 1 dX8_seekCell_140 rfl rfl rfl ?_
              refine g_getr 144 X 21 rfl flX8_45 rfl dX8_seekCell_141 rfl ?_
              refine g_iload_n 145 X 4 dX8_seekCell_144 rfl rfl rfl ?_
              refine g_iload 147 X 7 dX8_seekCell_145 rfl rfl ?_
              refine g_ior 148 X dX8_seekCell_147 rfl ?_
              refine g_iconst 149 X dX8_seekCell_148 rfl ci_m1 ?_
              refine g_ixor 150 X dX8_seekCell_149 rfl ?_
              refine g_cVi1 153 X (tX3_upsOf _ _ (D + 2) _ (Or.inl rfl) _ _) mfX3_upsOf miX3_upsOf lkX8_207 rfl rfl rfl (Nat.le_of_ble_eq_true rfl) dX8_seekCell_150 rfl (fun r29 S30 => ?_)
              refine g_iload 155 X 6 dX8_seekCell_153 rfl rfl ?_
              refine g_iload_n 156 X 3 dX8_seekCell_155 rfl rfl rfl ?_
              refine g_joinK 165 (fun (t31 : Int32) => [(0, .ref (G.2.1 0)), (1, .int x1), (2, .int (S.1 14 (Int32.toNatClampNeg x1))), (3, .int r1), (4, .int r7), (5, .int t26), (6, .int a11.2), (7, .int r16)]) (fun (t31 : Int32) => [.int t31, .int r29]) (fun t31 S32 => ?_) (fun J33 => ?_)
              · refine g_iadd 166 X dX8_seekCell_165 rfl ?_
                refine g_istore 168 X [(9, _), (0, _), (1, _), (2, _), (3, _), (4, _), (5, _), (6, _), (7, _)] dX8_seekCell_166 rfl (Nat.le_of_ble_eq_true rfl) rfl ?_
                refine g_aload_n 169 X 1 dX8_seekCell_168 rfl rfl rfl ?_
                refine g_getr 172 X 40 rfl flX8_65 rfl dX8_seekCell_169 rfl ?_
                refine g_iload 174 X 7 dX8_seekCell_172 rfl rfl ?_
                refine g_iload 176 X 0 dX8_seekCell_174 rfl rfl ?_
                refine g_aload_n 177 X 1 dX8_seekCell_176 rfl rfl rfl ?_
                refine g_iload 179 X 8 dX8_seekCell_177 rfl rfl ?_
                refine g_iload_n 180 X 2 dX8_seekCell_179 rfl rfl rfl ?_
                refine g_cSi1 183 X (tX8_only _ _ (D + 3) _ _) mfX8_only msX8_only lkX8_204 (Nat.le_of_ble_eq_true rfl) dX8_seekCell_180 rfl (fun r34 S35 => ?_)
                refine g_ior 184 X dX8_seekCell_183 rfl ?_
                refine g_cVi1 187 X (tX8_upsInTrial _ _ (D) _ _) mfX8_upsInTrial miX8_upsInTrial lkX8_423 rfl rfl rfl (Nat.le_of_ble_eq_true rfl) dX8_seekCell_184 rfl (fun r36 S37 => ?_)
                refine g_iadd 188 X dX8_seekCell_187 rfl ?_
                refine g_cVv2 191 X (tX4_offer _ _ (D + 3) _ _ _) mfX4_offer miX4_offer lkX8_278 rfl rfl rfl (Nat.le_of_ble_eq_true rfl) dX8_seekCell_188 rfl (fun r38 S39 => ?_)
                exact g_sub [1, 2, 3, 4, 5, 6, 7] rfl (J25 t26 _)
              · refine g_icmp_ne 163 159 X dX8_seekCell_156 (by decide) rfl (fun _ => ?_) (fun _ => ?_)
                · refine g_iload 165 X 5 dX8_seekCell_163 rfl rfl ?_
                  exact g_sub [1, 2, 3, 4, 5, 0, 6, 7] rfl (J33 r7 _)
                · refine g_iconst 160 X dX8_seekCell_159 rfl ci_0 ?_
                  refine g_goto 165 X dX8_seekCell_160 (by decide) ?_
                  exact g_sub [1, 2, 3, 4, 5, 0, 6, 7] rfl (J33 (0 : Int32) _)
            · refine g_if_eq 125 117 X dX8_seekCell_114 (by decide) rfl (fun _ => ?_) (fun _ => ?_)
              · refine g_iload 127 X 6 dX8_seekCell_125 rfl rfl ?_
                exact g_sub [1, 2, 3, 4, 5, 7, 8] rfl (J28 a11.1 _)
              · refine g_iload 119 X 7 dX8_seekCell_117 rfl rfl ?_
                refine g_bipush 121 X dX8_seekCell_119 rfl cb_6 ?_
                refine g_idiv 122 X dX8_seekCell_121 rfl (by decide) ?_
                refine g_goto 127 X dX8_seekCell_122 (by decide) ?_
                exact g_sub [1, 2, 3, 4, 5, 7, 8] rfl (J28 (a11.2 / (6 : Int32)) _)
          · refine g_iload 101 X 6 dX8_seekCell_99 rfl rfl ?_
            refine g_iload 103 X 7 dX8_seekCell_101 rfl rfl ?_
            refine g_bipush 105 X dX8_seekCell_103 rfl cb_6 ?_
            refine g_idiv 106 X dX8_seekCell_105 rfl (by decide) ?_
            refine g_icmp_ne 112 109 X dX8_seekCell_106 (by decide) rfl (fun _ => ?_) (fun _ => ?_)
            · refine g_iload 114 X 0 dX8_seekCell_112 rfl rfl ?_
              refine g_joinK 127 (fun (t40 : Int32) => [(0, .ref (G.2.1 0)), (1, .int x1), (2, .int (S.1 14 (Int32.toNatClampNeg x1))), (3, .int r1), (4, .int r7), (6, .int a11.2), (7, .int r16)]) (fun (t40 : Int32) => [.int t40]) (fun t40 S41 => ?_) (fun J42 => ?_)
              · refine g_istore 129 X [(5, _), (0, _), (1, _), (2, _), (3, _), (4, _), (6, _), (7, _)] dX8_seekCell_127 rfl (Nat.le_of_ble_eq_true rfl) rfl ?_
                refine g_aload_n 130 X 1 dX8_seekCell_129 rfl rfl rfl ?_
                refine g_getr 133 X 24 rfl flX8_49 rfl dX8_seekCell_130 rfl ?_
                refine g_getr 136 X 26 rfl flX8_133 rfl dX8_seekCell_133 rfl ?_
                refine g_iload_n 137 X 2 dX8_seekCell_136 rfl rfl rfl ?_
                refine g_iload 139 X 6 dX8_seekCell_137 rfl rfl ?_
                refine g_iast 140 X rfl dX8_seekCell_139 rfl ?_
                refine g_aload_n 141 X 1 dX8_seekCell_140 rfl rfl rfl ?_
                refine g_getr 144 X 21 rfl flX8_45 rfl dX8_seekCell_141 rfl ?_
                refine g_iload_n 145 X 4 dX8_seekCell_144 rfl rfl rfl ?_
                refine g_iload 147 X 7 dX8_seekCell_145 rfl rfl ?_
                refine g_ior 148 X dX8_seekCell_147 rfl ?_
                refine g_iconst 149 X dX8_seekCell_148 rfl ci_m1 ?_
                refine g_ixor 150 X dX8_seekCell_149 rfl ?_
                refine g_cVi1 153 X (tX3_upsOf _ _ (D + 2) _ (Or.inl rfl) _ _) mfX3_upsOf miX3_upsOf lkX8_207 rfl rfl rfl (Nat.le_of_ble_eq_true rfl) dX8_seekCell_150 rfl (fun r43 S44 => ?_)
                refine g_iload 155 X 6 dX8_seekCell_153 rfl rfl ?_
                refine g_iload_n 156 X 3 dX8_seekCell_155 rfl rfl rfl ?_
                refine g_joinK 165 (fun (t45 : Int32) => [(0, .ref (G.2.1 0)), (1, .int x1), (2, .int (S.1 14 (Int32.toNatClampNeg x1))), (3, .int r1), (4, .int r7), (5, .int t40), (6, .int a11.2), (7, .int r16)]) (fun (t45 : Int32) => [.int t45, .int r43]) (fun t45 S46 => ?_) (fun J47 => ?_)
                · refine g_iadd 166 X dX8_seekCell_165 rfl ?_
                  refine g_istore 168 X [(9, _), (0, _), (1, _), (2, _), (3, _), (4, _), (5, _), (6, _), (7, _)] dX8_seekCell_166 rfl (Nat.le_of_ble_eq_true rfl) rfl ?_
                  refine g_aload_n 169 X 1 dX8_seekCell_168 rfl rfl rfl ?_
                  refine g_getr 172 X 40 rfl flX8_65 rfl dX8_seekCell_169 rfl ?_
                  refine g_iload 174 X 7 dX8_seekCell_172 rfl rfl ?_
                  refine g_iload 176 X 0 dX8_seekCell_174 rfl rfl ?_
                  refine g_aload_n 177 X 1 dX8_seekCell_176 rfl rfl rfl ?_
                  refine g_iload 179 X 8 dX8_seekCell_177 rfl rfl ?_
                  refine g_iload_n 180 X 2 dX8_seekCell_179 rfl rfl rfl ?_
                  refine g_cSi1 183 X (tX8_only _ _ (D + 3) _ _) mfX8_only msX8_only lkX8_204 (Nat.le_of_ble_eq_true rfl) dX8_seekCell_180 rfl (fun r48 S49 => ?_)
                  refine g_ior 184 X dX8_seekCell_183 rfl ?_
                  refine g_cVi1 187 X (tX8_upsInTrial _ _ (D) _ _) mfX8_upsInTrial miX8_upsInTrial lkX8_423 rfl rfl rfl (Nat.le_of_ble_eq_true rfl) dX8_seekCell_184 rfl (fun r50 S51 => ?_)
                  refine g_iadd 188 X dX8_seekCell_187 rfl ?_
                  refine g_cVv2 191 X (tX4_offer _ _ (D + 3) _ _ _) mfX4_offer miX4_offer lkX8_278 rfl rfl rfl (Nat.le_of_ble_eq_true rfl) dX8_seekCell_188 rfl (fun r52 S53 => ?_)
                  exact g_sub [1, 2, 3, 4, 5, 6, 7] rfl (J25 t40 _)
                · refine g_icmp_ne 163 159 X dX8_seekCell_156 (by decide) rfl (fun _ => ?_) (fun _ => ?_)
                  · refine g_iload 165 X 5 dX8_seekCell_163 rfl rfl ?_
                    exact g_sub [1, 2, 3, 4, 5, 0, 6, 7] rfl (J47 r7 _)
                  · refine g_iconst 160 X dX8_seekCell_159 rfl ci_0 ?_
                    refine g_goto 165 X dX8_seekCell_160 (by decide) ?_
                    exact g_sub [1, 2, 3, 4, 5, 0, 6, 7] rfl (J47 (0 : Int32) _)
              · refine g_if_eq 125 117 X dX8_seekCell_114 (by decide) rfl (fun _ => ?_) (fun _ => ?_)
                · refine g_iload 127 X 6 dX8_seekCell_125 rfl rfl ?_
                  exact g_sub [1, 2, 3, 4, 5, 7, 8] rfl (J42 a11.1 _)
                · refine g_iload 119 X 7 dX8_seekCell_117 rfl rfl ?_
                  refine g_bipush 121 X dX8_seekCell_119 rfl cb_6 ?_
                  refine g_idiv 122 X dX8_seekCell_121 rfl (by decide) ?_
                  refine g_goto 127 X dX8_seekCell_122 (by decide) ?_
                  exact g_sub [1, 2, 3, 4, 5, 7, 8] rfl (J42 (a11.2 / (6 : Int32)) _)
            · refine g_goto 191 X dX8_seekCell_109 (by decide) ?_
              exact g_sub [1, 2, 3, 4, 5, 6, 7] rfl (J25 a11.1 _)
      · refine g_if_ne 91 87 X dX8_seekCell_84 (by decide) rfl (fun _ => ?_) (fun _ => ?_)
        · refine g_iconst 92 X dX8_seekCell_91 rfl ci_0 ?_
          exact g_sub [1, 2, 3, 4, 5, 6, 7, 0] rfl (J22 (0 : Int32) _)
        · refine g_iconst 88 X dX8_seekCell_87 rfl ci_1 ?_
          refine g_goto 92 X dX8_seekCell_88 (by decide) ?_
          exact g_sub [1, 2, 3, 4, 5, 6, 7, 0] rfl (J22 (1 : Int32) _)
def fX8_place (x1 : Int32) (x2 : Int32) (S : Sg) : Option (Int32 × Sg) :=
  bd (fX8_bringUpToDate S) (fun r1 S2 => bd (fX8_isStroke x1 S2) (fun r3 S4 => (if r3 = 0 then some ((-2 : Int32), S4) else bd (fX8_isEither x2 S4) (fun r5 S6 => (if r5 = 0 then some ((-2 : Int32), S6) else bd (fX8_seekCell x1 S6) (fun r7 S8 => bd (fX4_tell x2 S8) (fun r9 S10 => some (r9, S10))))))))
set_option maxHeartbeats 4000000 in
set_option maxRecDepth 100000 in
theorem tX8_place (G : Gd) (l : Launch) (D : Nat) (x1 : Int32) (x2 : Int32) (S : Sg) : Ct LC G l rI yX8_place cX8_place 3 (some .int) (D + 5) [.ref (G.2.1 0), .int x1, .int x2] S (fX8_place x1 x2 S) := by
  refine Ct.of (by decide) (Nat.le_of_ble_eq_true rfl) (fun Z hZ X => ?_)
  subst hZ
  show Go LC G Z 3 rI 0 [(0, .ref (G.2.1 0)), (1, .int x1), (2, .int x2)] [] S (fX8_place x1 x2 S) kz
  unfold fX8_place
  refine g_aload_n 1 X 0 dX8_place_0 rfl rfl rfl ?_
  refine g_cVv0 4 X (tX8_bringUpToDate _ _ (D)  _) mfX8_bringUpToDate miX8_bringUpToDate lkX8_124 rfl rfl rfl (Nat.le_of_ble_eq_true rfl) dX8_place_1 rfl (fun r1 S2 => ?_)
  refine g_aload_n 5 X 0 dX8_place_4 rfl rfl rfl ?_
  refine g_iload_n 6 X 1 dX8_place_5 rfl rfl rfl ?_
  refine g_cVi1 9 X (tX8_isStroke _ _ (D + 4) _ _) mfX8_isStroke miX8_isStroke lkX8_127 rfl rfl rfl (Nat.le_of_ble_eq_true rfl) dX8_place_6 rfl (fun r3 S4 => ?_)
  refine g_if_eq 19 12 X dX8_place_9 (by decide) rfl (fun _ => ?_) (fun _ => ?_)
  · refine g_bipush 21 X dX8_place_19 rfl cb_m2 ?_
    exact g_iret X dX8_place_21 rfl
  · refine g_iload_n 13 X 2 dX8_place_12 rfl rfl rfl ?_
    refine g_cSi1 16 X (tX8_isEither _ _ (D + 4) _ _) mfX8_isEither msX8_isEither lkX8_158 (Nat.le_of_ble_eq_true rfl) dX8_place_13 rfl (fun r5 S6 => ?_)
    refine g_if_ne 22 19 X dX8_place_16 (by decide) rfl (fun _ => ?_) (fun _ => ?_)
    · refine g_aload_n 23 X 0 dX8_place_22 rfl rfl rfl ?_
      refine g_iload_n 24 X 1 dX8_place_23 rfl rfl rfl ?_
      refine g_cVv1 27 X (tX8_seekCell _ _ (D) _ _) mfX8_seekCell miX8_seekCell lkX8_233 rfl rfl rfl (Nat.le_of_ble_eq_true rfl) dX8_place_24 rfl (fun r7 S8 => ?_)
      refine g_aload_n 28 X 0 dX8_place_27 rfl rfl rfl ?_
      refine g_getr 31 X 40 rfl flX8_65 rfl dX8_place_28 rfl ?_
      refine g_iload_n 32 X 2 dX8_place_31 rfl rfl rfl ?_
      refine g_cVi1 35 X (tX4_tell _ _ (D + 4) _ _) mfX4_tell miX4_tell lkX8_230 rfl rfl rfl (Nat.le_of_ble_eq_true rfl) dX8_place_32 rfl (fun r9 S10 => ?_)
      exact g_iret X dX8_place_35 rfl
    · refine g_bipush 21 X dX8_place_19 rfl cb_m2 ?_
      exact g_iret X dX8_place_21 rfl
def bX8_seekDryDay_24 (rec : Int32 → Sg → Option ((Int32) × Sg)) (a3 : Int32) (S4 : Sg) : Option ((Int32) × Sg) :=
  (if (20 : Int32) ≤ a3 then some (a3, S4) else gd (ix a3 20) (bd (fX3_follow 33 12 6 ((sI S4 6 (Int32.toNatClampNeg a3) (0 : Int32)).1 0 15) (sI S4 6 (Int32.toNatClampNeg a3) (0 : Int32))) (fun r5 S6 => bd (fX3_total 33 S6) (fun r7 S8 => bd (fX4_offer a3 r7 S8) (fun r9 S10 => gd (ix a3 20) (gd (ix a3 20) (rec (a3 + (1 : Int32)) (sI S10 6 (Int32.toNatClampNeg a3) (S10.1 5 (Int32.toNatClampNeg a3))))))))))
def fX8_seekDryDay  (S : Sg) : Option (Unit × Sg) :=
  gd (cpok (0 : Int32) (0 : Int32) (20 : Int32) 20 20) (bd (fX4_begin (sC S 6 (va_cpy (S.1 5) (S.1 6) (Int32.toNatClampNeg (0 : Int32)) (Int32.toNatClampNeg (0 : Int32)) (Int32.toNatClampNeg (20 : Int32))))) (fun r1 S2 => bd (lp (bX8_seekDryDay_24) fl (0 : Int32) S2) (fun (a14 : Int32) S15 => some ((), S15))))
set_option maxHeartbeats 4000000 in
set_option maxRecDepth 100000 in
theorem tX8_seekDryDay (G : Gd) (l : Launch) (D : Nat)  (S : Sg) : Ct LC G l rV yX8_seekDryDay cX8_seekDryDay 2 none (D + 3) [.ref (G.2.1 0)] S (fX8_seekDryDay  S) := by
  refine Ct.of (by decide) (Nat.le_of_ble_eq_true rfl) (fun Z hZ X => ?_)
  subst hZ
  show Go LC G Z 2 rV 0 [(0, .ref (G.2.1 0))] [] S (fX8_seekDryDay  S) kz
  unfold fX8_seekDryDay
  refine g_aload_n 1 X 0 dX8_seekDryDay_0 rfl rfl rfl ?_
  refine g_getr 4 X 5 rfl flX8_21 rfl dX8_seekDryDay_1 rfl ?_
  refine g_iconst 5 X dX8_seekDryDay_4 rfl ci_0 ?_
  refine g_aload_n 6 X 0 dX8_seekDryDay_5 rfl rfl rfl ?_
  refine g_getr 9 X 6 rfl flX8_25 rfl dX8_seekDryDay_6 rfl ?_
  refine g_iconst 10 X dX8_seekDryDay_9 rfl ci_0 ?_
  refine g_bipush 12 X dX8_seekDryDay_10 rfl cb_20 ?_
  refine g_copy 15 X rfl rfl lkX8_325 ac_nat ac_stat ac_ini (Nat.le_of_ble_eq_true rfl) dX8_seekDryDay_12 rfl ?_
  refine g_aload_n 16 X 0 dX8_seekDryDay_15 rfl rfl rfl ?_
  refine g_getr 19 X 40 rfl flX8_65 rfl dX8_seekDryDay_16 rfl ?_
  refine g_cVv0 22 X (tX4_begin _ _ (D + 2)  _) mfX4_begin miX4_begin lkX8_272 rfl rfl rfl (Nat.le_of_ble_eq_true rfl) dX8_seekDryDay_19 rfl (fun r1 S2 => ?_)
  refine g_iconst 23 X dX8_seekDryDay_22 rfl ci_0 ?_
  refine g_istore_n 24 X [(1, _), (0, _)] dX8_seekDryDay_23 rfl rfl (Nat.le_of_ble_eq_true rfl) rfl ?_
  refine g_joinK 89 (fun (a14 : Int32) => []) (fun (a14 : Int32) => []) (fun a14 S15 => ?_) (fun J5 => ?_)
  · exact g_vret X dX8_seekDryDay_89 rfl
  · refine g_sub [1, 0] rfl (g_lp (fun (a3 : Int32) => [(0, .ref (G.2.1 0)), (1, .int a3)]) (fun rec7 ih6 a3 S4 => ?_) fl (0 : Int32) _)
    unfold bX8_seekDryDay_24
    refine g_iload_n 25 X 1 dX8_seekDryDay_24 rfl rfl rfl ?_
    refine g_bipush 27 X dX8_seekDryDay_25 rfl cb_20 ?_
    refine g_icmp_ge 89 30 X dX8_seekDryDay_27 (by decide) rfl (fun _ => ?_) (fun _ => ?_)
    · exact g_sub [] rfl (J5 a3 _)
    · refine g_aload_n 31 X 0 dX8_seekDryDay_30 rfl rfl rfl ?_
      refine g_getr 34 X 6 rfl flX8_25 rfl dX8_seekDryDay_31 rfl ?_
      refine g_iload_n 35 X 1 dX8_seekDryDay_34 rfl rfl rfl ?_
      refine g_iconst 36 X dX8_seekDryDay_35 rfl ci_0 ?_
      refine g_iast 37 X rfl dX8_seekDryDay_36 rfl ?_
      refine g_aload_n 38 X 0 dX8_seekDryDay_37 rfl rfl rfl ?_
      refine g_getr 41 X 33 rfl flX8_52 rfl dX8_seekDryDay_38 rfl ?_
      refine g_aload_n 42 X 0 dX8_seekDryDay_41 rfl rfl rfl ?_
      refine g_getr 45 X 12 rfl flX8_38 rfl dX8_seekDryDay_42 rfl ?_
      refine g_aload_n 46 X 0 dX8_seekDryDay_45 rfl rfl rfl ?_
      refine g_getr 49 X 6 rfl flX8_25 rfl dX8_seekDryDay_46 rfl ?_
      refine g_aload_n 50 X 0 dX8_seekDryDay_49 rfl rfl rfl ?_
      refine g_geti 53 X rfl flX8_89 rfl dX8_seekDryDay_50 rfl ?_
      refine g_cVv3 56 X (tX3_follow _ _ (D) _ (Or.inr rfl) _ (Or.inl rfl) _ (Or.inr rfl) _ _) mfX3_follow miX3_follow lkX8_261 rfl rfl rfl (Nat.le_of_ble_eq_true rfl) dX8_seekDryDay_53 rfl (fun r8 S9 => ?_)
      refine g_aload_n 57 X 0 dX8_seekDryDay_56 rfl rfl rfl ?_
      refine g_getr 60 X 40 rfl flX8_65 rfl dX8_seekDryDay_57 rfl ?_
      refine g_iload_n 61 X 1 dX8_seekDryDay_60 rfl rfl rfl ?_
      refine g_aload_n 62 X 0 dX8_seekDryDay_61 rfl rfl rfl ?_
      refine g_getr 65 X 33 rfl flX8_52 rfl dX8_seekDryDay_62 rfl ?_
      refine g_cVi0 68 X (tX3_total _ _ (D) _ (Or.inr rfl) _) mfX3_total miX3_total lkX8_300 rfl rfl rfl (Nat.le_of_ble_eq_true rfl) dX8_seekDryDay_65 rfl (fun r10 S11 => ?_)
      refine g_cVv2 71 X (tX4_offer _ _ (D + 2) _ _ _) mfX4_offer miX4_offer lkX8_278 rfl rfl rfl (Nat.le_of_ble_eq_true rfl) dX8_seekDryDay_68 rfl (fun r12 S13 => ?_)
      refine g_aload_n 72 X 0 dX8_seekDryDay_71 rfl rfl rfl ?_
      refine g_getr 75 X 6 rfl flX8_25 rfl dX8_seekDryDay_72 rfl ?_
      refine g_iload_n 76 X 1 dX8_seekDryDay_75 rfl rfl rfl ?_
      refine g_aload_n 77 X 0 dX8_seekDryDay_76 rfl rfl rfl ?_
      refine g_getr 80 X 5 rfl flX8_21 rfl dX8_seekDryDay_77 rfl ?_
      refine g_iload_n 81 X 1 dX8_seekDryDay_80 rfl rfl rfl ?_
      refine g_iald 82 X rfl dX8_seekDryDay_81 rfl ?_
      refine g_iast 83 X rfl dX8_seekDryDay_82 rfl ?_
      refine g_iinc 86 X 1 [(1, _), (0, _)] dX8_seekDryDay_83 rfl rfl (ii_1 _) (Nat.le_of_ble_eq_true rfl) rfl ?_
      refine g_goto 24 X dX8_seekDryDay_86 (by decide) ?_
      exact g_sub [1, 0] rfl (ih6 (a3 + (1 : Int32)) _)
def fX8_dry (x1 : Int32) (S : Sg) : Option (Int32 × Sg) :=
  bd (fX8_isEither x1 S) (fun r1 S2 => (if r1 = 0 then some ((-2 : Int32), S2) else bd (fX8_bringUpToDate S2) (fun r3 S4 => bd (fX8_seekDryDay S4) (fun r5 S6 => bd (fX4_tell x1 S6) (fun r7 S8 => some (r7, S8))))))
set_option maxHeartbeats 4000000 in
set_option maxRecDepth 100000 in
theorem tX8_dry (G : Gd) (l : Launch) (D : Nat) (x1 : Int32) (S : Sg) : Ct LC G l rI yX8_dry cX8_dry 2 (some .int) (D + 5) [.ref (G.2.1 0), .int x1] S (fX8_dry x1 S) := by
  refine Ct.of (by decide) (Nat.le_of_ble_eq_true rfl) (fun Z hZ X => ?_)
  subst hZ
  show Go LC G Z 2 rI 0 [(0, .ref (G.2.1 0)), (1, .int x1)] [] S (fX8_dry x1 S) kz
  unfold fX8_dry
  refine g_iload_n 1 X 1 dX8_dry_0 rfl rfl rfl ?_
  refine g_cSi1 4 X (tX8_isEither _ _ (D + 4) _ _) mfX8_isEither msX8_isEither lkX8_158 (Nat.le_of_ble_eq_true rfl) dX8_dry_1 rfl (fun r1 S2 => ?_)
  refine g_if_ne 10 7 X dX8_dry_4 (by decide) rfl (fun _ => ?_) (fun _ => ?_)
  · refine g_aload_n 11 X 0 dX8_dry_10 rfl rfl rfl ?_
    refine g_cVv0 14 X (tX8_bringUpToDate _ _ (D)  _) mfX8_bringUpToDate miX8_bringUpToDate lkX8_124 rfl rfl rfl (Nat.le_of_ble_eq_true rfl) dX8_dry_11 rfl (fun r3 S4 => ?_)
    refine g_aload_n 15 X 0 dX8_dry_14 rfl rfl rfl ?_
    refine g_cVv0 18 X (tX8_seekDryDay _ _ (D + 1)  _) mfX8_seekDryDay miX8_seekDryDay lkX8_236 rfl rfl rfl (Nat.le_of_ble_eq_true rfl) dX8_dry_15 rfl (fun r5 S6 => ?_)
    refine g_aload_n 19 X 0 dX8_dry_18 rfl rfl rfl ?_
    refine g_getr 22 X 40 rfl flX8_65 rfl dX8_dry_19 rfl ?_
    refine g_iload_n 23 X 1 dX8_dry_22 rfl rfl rfl ?_
    refine g_cVi1 26 X (tX4_tell _ _ (D + 4) _ _) mfX4_tell miX4_tell lkX8_230 rfl rfl rfl (Nat.le_of_ble_eq_true rfl) dX8_dry_23 rfl (fun r7 S8 => ?_)
    exact g_iret X dX8_dry_26 rfl
  · refine g_bipush 9 X dX8_dry_7 rfl cb_m2 ?_
    exact g_iret X dX8_dry_9 rfl
def fX8_seen (x1 : Int32) (x2 : Int32) (x3 : Int32) (S : Sg) : Option (Int32 × Sg) :=
  bd (fX8_isDay x1 S) (fun r1 S2 => (if r1 = 0 then some ((-2 : Int32), S2) else bd (fX8_isCell x2 S2) (fun r3 S4 => (if r3 = 0 then some ((-2 : Int32), S4) else (if x3 < 0 then some ((-2 : Int32), S4) else (if x3 ≤ (6 : Int32) then bd (fX6_add x1 x2 x3 S4) (fun r5 S6 => (if r5 = 0 then some ((-4 : Int32), S6) else some ((S6.1 36 3), S6))) else some ((-2 : Int32), S4)))))))
set_option maxHeartbeats 4000000 in
set_option maxRecDepth 100000 in
theorem tX8_seen (G : Gd) (l : Launch) (D : Nat) (x1 : Int32) (x2 : Int32) (x3 : Int32) (S : Sg) : Ct LC G l rI yX8_seen cX8_seen 4 (some .int) (D + 1) [.ref (G.2.1 0), .int x1, .int x2, .int x3] S (fX8_seen x1 x2 x3 S) := by
  refine Ct.of (by decide) (Nat.le_of_ble_eq_true rfl) (fun Z hZ X => ?_)
  subst hZ
  show Go LC G Z 4 rI 0 [(0, .ref (G.2.1 0)), (1, .int x1), (2, .int x2), (3, .int x3)] [] S (fX8_seen x1 x2 x3 S) kz
  unfold fX8_seen
  refine g_iload_n 1 X 1 dX8_seen_0 rfl rfl rfl ?_
  refine g_cSi1 4 X (tX8_isDay _ _ (D) _ _) mfX8_isDay msX8_isDay lkX8_121 (Nat.le_of_ble_eq_true rfl) dX8_seen_1 rfl (fun r1 S2 => ?_)
  refine g_if_eq 24 7 X dX8_seen_4 (by decide) rfl (fun _ => ?_) (fun _ => ?_)
  · refine g_bipush 26 X dX8_seen_24 rfl cb_m2 ?_
    exact g_iret X dX8_seen_26 rfl
  · refine g_iload_n 8 X 2 dX8_seen_7 rfl rfl rfl ?_
    refine g_cSi1 11 X (tX8_isCell _ _ (D) _ _) mfX8_isCell msX8_isCell lkX8_179 (Nat.le_of_ble_eq_true rfl) dX8_seen_8 rfl (fun r3 S4 => ?_)
    refine g_if_eq 24 14 X dX8_seen_11 (by decide) rfl (fun _ => ?_) (fun _ => ?_)
    · refine g_bipush 26 X dX8_seen_24 rfl cb_m2 ?_
      exact g_iret X dX8_seen_26 rfl
    · refine g_iload_n 15 X 3 dX8_seen_14 rfl rfl rfl ?_
      refine g_if_lt 24 18 X dX8_seen_15 (by decide) rfl (fun _ => ?_) (fun _ => ?_)
      · refine g_bipush 26 X dX8_seen_24 rfl cb_m2 ?_
        exact g_iret X dX8_seen_26 rfl
      · refine g_iload_n 19 X 3 dX8_seen_18 rfl rfl rfl ?_
        refine g_bipush 21 X dX8_seen_19 rfl cb_6 ?_
        refine g_icmp_le 27 24 X dX8_seen_21 (by decide) rfl (fun _ => ?_) (fun _ => ?_)
        · refine g_aload_n 28 X 0 dX8_seen_27 rfl rfl rfl ?_
          refine g_getr 31 X 36 rfl flX8_58 rfl dX8_seen_28 rfl ?_
          refine g_iload_n 32 X 1 dX8_seen_31 rfl rfl rfl ?_
          refine g_iload_n 33 X 2 dX8_seen_32 rfl rfl rfl ?_
          refine g_iload_n 34 X 3 dX8_seen_33 rfl rfl rfl ?_
          refine g_cVi3 37 X (tX6_add _ _ (D) _ _ _ _) mfX6_add miX6_add lkX8_239 rfl rfl rfl (Nat.le_of_ble_eq_true rfl) dX8_seen_34 rfl (fun r5 S6 => ?_)
          refine g_if_eq 50 40 X dX8_seen_37 (by decide) rfl (fun _ => ?_) (fun _ => ?_)
          · refine g_bipush 52 X dX8_seen_50 rfl cb_m4 ?_
            exact g_iret X dX8_seen_52 rfl
          · refine g_aload_n 41 X 0 dX8_seen_40 rfl rfl rfl ?_
            refine g_getr 44 X 36 rfl flX8_58 rfl dX8_seen_41 rfl ?_
            refine g_geti 47 X rfl flX8_242 rfl dX8_seen_44 rfl ?_
            refine g_goto 52 X dX8_seen_47 (by decide) ?_
            exact g_iret X dX8_seen_52 rfl
        · refine g_bipush 26 X dX8_seen_24 rfl cb_m2 ?_
          exact g_iret X dX8_seen_26 rfl
def fX8_forget  (S : Sg) : Option (Int32 × Sg) :=
  some ((S.1 36 3), (sI S 36 3 (0 : Int32)))
set_option maxHeartbeats 4000000 in
set_option maxRecDepth 100000 in
theorem tX8_forget (G : Gd) (l : Launch) (D : Nat)  (S : Sg) : Ct LC G l rI yX8_forget cX8_forget 2 (some .int) (D + 0) [.ref (G.2.1 0)] S (fX8_forget  S) := by
  refine Ct.of (by decide) (Nat.le_of_ble_eq_true rfl) (fun Z hZ X => ?_)
  subst hZ
  show Go LC G Z 2 rI 0 [(0, .ref (G.2.1 0))] [] S (fX8_forget  S) kz
  unfold fX8_forget
  refine g_aload_n 1 X 0 dX8_forget_0 rfl rfl rfl ?_
  refine g_getr 4 X 36 rfl flX8_58 rfl dX8_forget_1 rfl ?_
  refine g_geti 7 X rfl flX8_242 rfl dX8_forget_4 rfl ?_
  refine g_istore_n 8 X [(1, _), (0, _)] dX8_forget_7 rfl rfl (Nat.le_of_ble_eq_true rfl) rfl ?_
  refine g_aload_n 9 X 1 dX8_forget_8 rfl rfl rfl ?_
  refine g_getr 12 X 36 rfl flX8_58 rfl dX8_forget_9 rfl ?_
  refine g_iconst 13 X dX8_forget_12 rfl ci_0 ?_
  refine g_puti 16 X rfl flX8_242 fp_6_3 rfl dX8_forget_13 rfl ?_
  refine g_iload_n 17 X 0 dX8_forget_16 rfl rfl rfl ?_
  exact g_iret X dX8_forget_17 rfl
def fX8_tryWithout (x1 : Int32) (S : Sg) : Option (Unit × Sg) :=
  bd (fX0_takeStrokes 24 12 S) (fun r1 S2 => gd (ix x1 8) (bd (fX0_onCell 12 (S2.1 14 (Int32.toNatClampNeg x1)) S2) (fun r3 S4 => bd (fX8_only x1 S4) (fun r5 S6 => bd (fX0_settle 24 (r3 &&& (r5 ^^^ (-1 : Int32))) S6) (fun r7 S8 => bd (fX3_follow 33 24 5 (S8.1 0 15) S8) (fun r9 S10 => some ((), S10)))))))
set_option maxHeartbeats 4000000 in
set_option maxRecDepth 100000 in
theorem tX8_tryWithout (G : Gd) (l : Launch) (D : Nat) (x1 : Int32) (S : Sg) : Ct LC G l rV yX8_tryWithout cX8_tryWithout 2 none (D + 3) [.ref (G.2.1 0), .int x1] S (fX8_tryWithout x1 S) := by
  refine Ct.of (by decide) (Nat.le_of_ble_eq_true rfl) (fun Z hZ X => ?_)
  subst hZ
  show Go LC G Z 2 rV 0 [(0, .ref (G.2.1 0)), (1, .int x1)] [] S (fX8_tryWithout x1 S) kz
  unfold fX8_tryWithout
  refine g_aload_n 1 X 0 dX8_tryWithout_0 rfl rfl rfl ?_
  refine g_getr 4 X 24 rfl flX8_49 rfl dX8_tryWithout_1 rfl ?_
  refine g_aload_n 5 X 0 dX8_tryWithout_4 rfl rfl rfl ?_
  refine g_getr 8 X 12 rfl flX8_38 rfl dX8_tryWithout_5 rfl ?_
  refine g_cVv1 11 X (tX0_takeStrokes _ _ (D + 1) _ (Or.inr rfl) _ (Or.inl rfl) _) mfX0_takeStrokes miX0_takeStrokes lkX8_250 rfl rfl rfl (Nat.le_of_ble_eq_true rfl) dX8_tryWithout_8 rfl (fun r1 S2 => ?_)
  refine g_aload_n 12 X 0 dX8_tryWithout_11 rfl rfl rfl ?_
  refine g_getr 15 X 24 rfl flX8_49 rfl dX8_tryWithout_12 rfl ?_
  refine g_aload_n 16 X 0 dX8_tryWithout_15 rfl rfl rfl ?_
  refine g_getr 19 X 12 rfl flX8_38 rfl dX8_tryWithout_16 rfl ?_
  refine g_aload_n 20 X 0 dX8_tryWithout_19 rfl rfl rfl ?_
  refine g_getr 23 X 12 rfl flX8_38 rfl dX8_tryWithout_20 rfl ?_
  refine g_getr 26 X 14 rfl flX8_133 rfl dX8_tryWithout_23 rfl ?_
  refine g_iload_n 27 X 1 dX8_tryWithout_26 rfl rfl rfl ?_
  refine g_iald 28 X rfl dX8_tryWithout_27 rfl ?_
  refine g_cVi1 31 X (tX0_onCell _ _ (D + 1) _ (Or.inl rfl) _ _) mfX0_onCell miX0_onCell lkX8_254 rfl rfl rfl (Nat.le_of_ble_eq_true rfl) dX8_tryWithout_28 rfl (fun r3 S4 => ?_)
  refine g_iload_n 32 X 1 dX8_tryWithout_31 rfl rfl rfl ?_
  refine g_cSi1 35 X (tX8_only _ _ (D + 2) _ _) mfX8_only msX8_only lkX8_204 (Nat.le_of_ble_eq_true rfl) dX8_tryWithout_32 rfl (fun r5 S6 => ?_)
  refine g_iconst 36 X dX8_tryWithout_35 rfl ci_m1 ?_
  refine g_ixor 37 X dX8_tryWithout_36 rfl ?_
  refine g_iand 38 X dX8_tryWithout_37 rfl ?_
  refine g_aload_n 39 X 0 dX8_tryWithout_38 rfl rfl rfl ?_
  refine g_getr 42 X 7 rfl flX8_31 rfl dX8_tryWithout_39 rfl ?_
  refine g_cVv2 45 X (tX0_settle _ _ (D) _ (Or.inr rfl) _ _) mfX0_settle miX0_settle lkX8_257 rfl rfl rfl (Nat.le_of_ble_eq_true rfl) dX8_tryWithout_42 rfl (fun r7 S8 => ?_)
  refine g_aload_n 46 X 0 dX8_tryWithout_45 rfl rfl rfl ?_
  refine g_getr 49 X 33 rfl flX8_52 rfl dX8_tryWithout_46 rfl ?_
  refine g_aload_n 50 X 0 dX8_tryWithout_49 rfl rfl rfl ?_
  refine g_getr 53 X 24 rfl flX8_49 rfl dX8_tryWithout_50 rfl ?_
  refine g_aload_n 54 X 0 dX8_tryWithout_53 rfl rfl rfl ?_
  refine g_getr 57 X 5 rfl flX8_21 rfl dX8_tryWithout_54 rfl ?_
  refine g_aload_n 58 X 0 dX8_tryWithout_57 rfl rfl rfl ?_
  refine g_geti 61 X rfl flX8_89 rfl dX8_tryWithout_58 rfl ?_
  refine g_cVv3 64 X (tX3_follow _ _ (D) _ (Or.inr rfl) _ (Or.inr rfl) _ (Or.inl rfl) _ _) mfX3_follow miX3_follow lkX8_261 rfl rfl rfl (Nat.le_of_ble_eq_true rfl) dX8_tryWithout_61 rfl (fun r9 S10 => ?_)
  exact g_vret X dX8_tryWithout_64 rfl
def bX8_agrees_3 (c1 : Nat) (c2 : Nat) (c3 : Int32) (rec : Int32 → Sg → Option (((Int32) ⊕ Int32) × Sg)) (a1 : Int32) (S2 : Sg) : Option (((Int32) ⊕ Int32) × Sg) :=
  (if (S2.1 36 3) ≤ a1 then some (.inl a1, S2) else gd (ix a1 8) (gd (ix a1 8) (bd ((if (S2.1 38 (Int32.toNatClampNeg a1)) = c3 then gd (ix (S2.1 37 (Int32.toNatClampNeg a1)) 20) (bd (fX0_signRisen c1 (S2.1 38 (Int32.toNatClampNeg a1)) (S2.1 (c2 + 1) (Int32.toNatClampNeg (S2.1 37 (Int32.toNatClampNeg a1)))) S2) (fun r8 S9 => some (r8, S9))) else gd (ix (S2.1 37 (Int32.toNatClampNeg a1)) 20) (bd (fX0_signRisen 12 (S2.1 38 (Int32.toNatClampNeg a1)) (S2.1 22 (Int32.toNatClampNeg (S2.1 37 (Int32.toNatClampNeg a1)))) S2) (fun r6 S7 => some (r6, S7))))) (fun (t3 : Int32) S4 => gd (ix a1 8) ((if t3 = (S4.1 39 (Int32.toNatClampNeg a1)) then rec (a1 + (1 : Int32)) S4 else some (.inr (0 : Int32), S4)))))))
def fX8_agrees (t1 : Nat) (t2 : Nat) (x3 : Int32) (S : Sg) : Option (Int32 × Sg) :=
  bd (lp (bX8_agrees_3 t1 t2 x3) fl (0 : Int32) S) (se (fun (a13 : Int32) S14 => some ((1 : Int32), S14)) (fun (v : Int32) S14 => some (v, S14)))
set_option maxHeartbeats 4000000 in
set_option maxRecDepth 100000 in
theorem tX8_agrees (G : Gd) (l : Launch) (D : Nat) (t1 : Nat) (ht1 : isBoard t1) (t2 : Nat) (ht2 : isCourse t2) (x3 : Int32) (S : Sg) : Ct LC G l rI yX8_agrees cX8_agrees 8 (some .boolean) (D + 2) [.ref (G.2.1 0), .ref (G.2.1 t1), .ref (G.2.1 t2), .int x3] S (fX8_agrees t1 t2 x3 S) := by
  refine Ct.of (by decide) (Nat.le_of_ble_eq_true rfl) (fun Z hZ X => ?_)
  subst hZ
  show Go LC G Z 8 rI 0 [(0, .ref (G.2.1 0)), (1, .ref (G.2.1 t1)), (2, .ref (G.2.1 t2)), (3, .int x3)] [] S (fX8_agrees t1 t2 x3 S) kz
  unfold fX8_agrees
  refine g_iconst 1 X dX8_agrees_0 rfl ci_0 ?_
  refine g_istore 3 X [(4, _), (0, _), (1, _), (2, _), (3, _)] dX8_agrees_1 rfl (Nat.le_of_ble_eq_true rfl) rfl ?_
  refine g_joinR 105 (fun (a13 : Int32) => []) (fun (a13 : Int32) => []) (fun a13 S14 => ?_) (fun J3 => ?_)
  · refine g_iconst 106 X dX8_agrees_105 rfl ci_1 ?_
    exact g_zret X dX8_agrees_106 rfl rfl
  · refine g_sub [1, 2, 3, 4, 0] rfl (g_lp (fun (a1 : Int32) => [(0, .ref (G.2.1 0)), (1, .ref (G.2.1 t1)), (2, .ref (G.2.1 t2)), (3, .int x3), (4, .int a1)]) (fun rec5 ih4 a1 S2 => ?_) fl (0 : Int32) _)
    unfold bX8_agrees_3
    refine g_iload 5 X 4 dX8_agrees_3 rfl rfl ?_
    refine g_aload_n 6 X 0 dX8_agrees_5 rfl rfl rfl ?_
    refine g_getr 9 X 36 rfl flX8_58 rfl dX8_agrees_6 rfl ?_
    refine g_geti 12 X rfl flX8_242 rfl dX8_agrees_9 rfl ?_
    refine g_icmp_ge 105 15 X dX8_agrees_12 (by decide) rfl (fun _ => ?_) (fun _ => ?_)
    · exact g_sub [] rfl (J3 a1 _)
    · refine g_aload_n 16 X 0 dX8_agrees_15 rfl rfl rfl ?_
      refine g_getr 19 X 36 rfl flX8_58 rfl dX8_agrees_16 rfl ?_
      refine g_getr 22 X 37 rfl flX8_426 rfl dX8_agrees_19 rfl ?_
      refine g_iload 24 X 4 dX8_agrees_22 rfl rfl ?_
      refine g_iald 25 X rfl dX8_agrees_24 rfl ?_
      refine g_istore 27 X [(5, _), (0, _), (1, _), (2, _), (3, _), (4, _)] dX8_agrees_25 rfl (Nat.le_of_ble_eq_true rfl) rfl ?_
      refine g_aload_n 28 X 1 dX8_agrees_27 rfl rfl rfl ?_
      refine g_getr 31 X 36 rfl flX8_58 rfl dX8_agrees_28 rfl ?_
      refine g_getr 34 X 38 rfl flX8_427 rfl dX8_agrees_31 rfl ?_
      refine g_iload 36 X 5 dX8_agrees_34 rfl rfl ?_
      refine g_iald 37 X rfl dX8_agrees_36 rfl ?_
      refine g_istore 39 X [(6, _), (5, _), (0, _), (1, _), (2, _), (3, _), (4, _)] dX8_agrees_37 rfl (Nat.le_of_ble_eq_true rfl) rfl ?_
      refine g_iload 41 X 0 dX8_agrees_39 rfl rfl ?_
      refine g_iload_n 42 X 5 dX8_agrees_41 rfl rfl rfl ?_
      refine g_joinK 80 (fun (t6 : Int32) => [(0, .ref (G.2.1 0)), (1, .ref (G.2.1 t1)), (2, .ref (G.2.1 t2)), (3, .int x3), (4, .int a1)]) (fun (t6 : Int32) => [.int t6]) (fun t6 S7 => ?_) (fun J8 => ?_)
      · refine g_istore 82 X [(7, _), (0, _), (1, _), (2, _), (3, _), (4, _)] dX8_agrees_80 rfl (Nat.le_of_ble_eq_true rfl) rfl ?_
        refine g_iload 84 X 0 dX8_agrees_82 rfl rfl ?_
        refine g_aload_n 85 X 1 dX8_agrees_84 rfl rfl rfl ?_
        refine g_getr 88 X 36 rfl flX8_58 rfl dX8_agrees_85 rfl ?_
        refine g_getr 91 X 39 rfl flX8_431 rfl dX8_agrees_88 rfl ?_
        refine g_iload 93 X 5 dX8_agrees_91 rfl rfl ?_
        refine g_iald 94 X rfl dX8_agrees_93 rfl ?_
        refine g_icmp_eq 99 97 X dX8_agrees_94 (by decide) rfl (fun _ => ?_) (fun _ => ?_)
        · refine g_iinc 102 X 5 [(4, _), (7, _), (0, _), (1, _), (2, _), (3, _)] dX8_agrees_99 rfl rfl (ii_1 _) (Nat.le_of_ble_eq_true rfl) rfl ?_
          refine g_goto 3 X dX8_agrees_102 (by decide) ?_
          exact g_sub [2, 3, 4, 5, 0] rfl (ih4 (a1 + (1 : Int32)) _)
        · refine g_iconst 98 X dX8_agrees_97 rfl ci_0 ?_
          exact g_zret X dX8_agrees_98 rfl rfl
      · refine g_icmp_ne 61 45 X dX8_agrees_42 (by decide) rfl (fun _ => ?_) (fun _ => ?_)
        · refine g_aload_n 62 X 2 dX8_agrees_61 rfl rfl rfl ?_
          refine g_getr 65 X 12 rfl flX8_38 rfl dX8_agrees_62 rfl ?_
          refine g_iload 67 X 0 dX8_agrees_65 rfl rfl ?_
          refine g_aload_n 68 X 2 dX8_agrees_67 rfl rfl rfl ?_
          refine g_getr 71 X 21 rfl flX8_45 rfl dX8_agrees_68 rfl ?_
          refine g_getr 74 X 22 rfl flX8_182 rfl dX8_agrees_71 rfl ?_
          refine g_iload 76 X 1 dX8_agrees_74 rfl rfl ?_
          refine g_iald 77 X rfl dX8_agrees_76 rfl ?_
          refine g_cVi2 80 X (tX0_signRisen _ _ (D) _ (Or.inl rfl) _ _ _) mfX0_signRisen miX0_signRisen lkX8_428 rfl rfl rfl (Nat.le_of_ble_eq_true rfl) dX8_agrees_77 rfl (fun r9 S10 => ?_)
          exact g_sub [2, 3, 4, 5, 6] rfl (J8 r9 _)
        · refine g_aload_n 46 X 3 dX8_agrees_45 rfl rfl rfl ?_
          refine g_iload 48 X 0 dX8_agrees_46 rfl rfl ?_
          refine g_aload_n 49 X 4 dX8_agrees_48 rfl rfl rfl ?_
          refine g_getr 52 X (t2 + 1) (sCourse ht2) flX8_182 rfl dX8_agrees_49 rfl ?_
          refine g_iload 54 X 1 dX8_agrees_52 rfl rfl ?_
          refine g_iald 55 X (sC20 ht2 1 ⟨by decide, by decide⟩) dX8_agrees_54 rfl ?_
          refine g_cVi2 58 X (tX0_signRisen _ _ (D) _ ht1 _ _ _) mfX0_signRisen miX0_signRisen lkX8_428 (sBoard ht1) rfl rfl (Nat.le_of_ble_eq_true rfl) dX8_agrees_55 rfl (fun r11 S12 => ?_)
          refine g_goto 80 X dX8_agrees_58 (by decide) ?_
          exact g_sub [2, 3, 4, 5, 6] rfl (J8 r11 _)
def bX8_never_8 (rec : (Int32 × Int32) → Sg → Option ((Int32 × Int32) × Sg)) (a3 : Int32 × Int32) (S4 : Sg) : Option ((Int32 × Int32) × Sg) :=
  (if (S4.1 12 0) ≤ a3.2 then some ((a3.1, a3.2), S4) else bd (fX8_tryWithout a3.2 S4) (fun r5 S6 => gd (ix a3.2 8) (bd (fX8_agrees 24 33 (S6.1 14 (Int32.toNatClampNeg a3.2)) S6) (fun r7 S8 => bd ((if r7 = 0 then some (a3.1, S8) else some ((a3.1 ||| ((1 : Int32) <<< (a3.2 &&& 31))), S8))) (fun (t9 : Int32) S10 => rec (t9, (a3.2 + (1 : Int32))) S10)))))
def fX8_never  (S : Sg) : Option (Int32 × Sg) :=
  bd (fX8_bringUpToDate S) (fun r1 S2 => bd (lp (bX8_never_8) fl ((0 : Int32), (0 : Int32)) S2) (fun (a15 : Int32 × Int32) S16 => some (a15.1, S16)))
set_option maxHeartbeats 4000000 in
set_option maxRecDepth 100000 in
theorem tX8_never (G : Gd) (l : Launch) (D : Nat)  (S : Sg) : Ct LC G l rI yX8_never cX8_never 3 (some .int) (D + 5) [.ref (G.2.1 0)] S (fX8_never  S) := by
  refine Ct.of (by decide) (Nat.le_of_ble_eq_true rfl) (fun Z hZ X => ?_)
  subst hZ
  show Go LC G Z 3 rI 0 [(0, .ref (G.2.1 0))] [] S (fX8_never  S) kz
  unfold fX8_never
  refine g_aload_n 1 X 0 dX8_never_0 rfl rfl rfl ?_
  refine g_cVv0 4 X (tX8_bringUpToDate _ _ (D)  _) mfX8_bringUpToDate miX8_bringUpToDate lkX8_124 rfl rfl rfl (Nat.le_of_ble_eq_true rfl) dX8_never_1 rfl (fun r1 S2 => ?_)
  refine g_iconst 5 X dX8_never_4 rfl ci_0 ?_
  refine g_istore_n 6 X [(1, _), (0, _)] dX8_never_5 rfl rfl (Nat.le_of_ble_eq_true rfl) rfl ?_
  refine g_iconst 7 X dX8_never_6 rfl ci_0 ?_
  refine g_istore_n 8 X [(2, _), (1, _), (0, _)] dX8_never_7 rfl rfl (Nat.le_of_ble_eq_true rfl) rfl ?_
  refine g_joinK 60 (fun (a15 : Int32 × Int32) => [(1, .int a15.1)]) (fun (a15 : Int32 × Int32) => []) (fun a15 S16 => ?_) (fun J5 => ?_)
  · refine g_iload_n 61 X 0 dX8_never_60 rfl rfl rfl ?_
    exact g_iret X dX8_never_61 rfl
  · refine g_sub [2, 1, 0] rfl (g_lp (fun (a3 : Int32 × Int32) => [(0, .ref (G.2.1 0)), (1, .int a3.1), (2, .int a3.2)]) (fun rec7 ih6 a3 S4 => ?_) fl ((0 : Int32), (0 : Int32)) _)
    unfold bX8_never_8
    refine g_iload_n 9 X 2 dX8_never_8 rfl rfl rfl ?_
    refine g_aload_n 10 X 0 dX8_never_9 rfl rfl rfl ?_
    refine g_getr 13 X 12 rfl flX8_38 rfl dX8_never_10 rfl ?_
    refine g_geti 16 X rfl flX8_221 rfl dX8_never_13 rfl ?_
    refine g_icmp_ge 60 19 X dX8_never_16 (by decide) rfl (fun _ => ?_) (fun _ => ?_)
    · exact g_sub [1] rfl (J5 (a3.1, a3.2) _)
    · refine g_aload_n 20 X 0 dX8_never_19 rfl rfl rfl ?_
      refine g_iload_n 21 X 2 dX8_never_20 rfl rfl rfl ?_
      refine g_cVv1 24 X (tX8_tryWithout _ _ (D + 1) _ _) mfX8_tryWithout miX8_tryWithout lkX8_243 rfl rfl rfl (Nat.le_of_ble_eq_true rfl) dX8_never_21 rfl (fun r8 S9 => ?_)
      refine g_aload_n 25 X 0 dX8_never_24 rfl rfl rfl ?_
      refine g_aload_n 26 X 0 dX8_never_25 rfl rfl rfl ?_
      refine g_getr 29 X 24 rfl flX8_49 rfl dX8_never_26 rfl ?_
      refine g_aload_n 30 X 0 dX8_never_29 rfl rfl rfl ?_
      refine g_getr 33 X 33 rfl flX8_52 rfl dX8_never_30 rfl ?_
      refine g_aload_n 34 X 0 dX8_never_33 rfl rfl rfl ?_
      refine g_getr 37 X 12 rfl flX8_38 rfl dX8_never_34 rfl ?_
      refine g_getr 40 X 14 rfl flX8_133 rfl dX8_never_37 rfl ?_
      refine g_iload_n 41 X 2 dX8_never_40 rfl rfl rfl ?_
      refine g_iald 42 X rfl dX8_never_41 rfl ?_
      refine g_cVi3 45 X (tX8_agrees _ _ (D + 2) _ (Or.inr rfl) _ (Or.inr rfl) _ _) mfX8_agrees miX8_agrees lkX8_246 rfl rfl rfl (Nat.le_of_ble_eq_true rfl) dX8_never_42 rfl (fun r10 S11 => ?_)
      refine g_joinK 54 (fun (t12 : Int32) => [(0, .ref (G.2.1 0)), (1, .int t12), (2, .int a3.2)]) (fun (t12 : Int32) => []) (fun t12 S13 => ?_) (fun J14 => ?_)
      · refine g_iinc 57 X 2 [(2, _), (0, _), (1, _)] dX8_never_54 rfl rfl (ii_1 _) (Nat.le_of_ble_eq_true rfl) rfl ?_
        refine g_goto 8 X dX8_never_57 (by decide) ?_
        exact g_sub [1, 2, 0] rfl (ih6 (t12, (a3.2 + (1 : Int32))) _)
      · refine g_if_eq 54 48 X dX8_never_45 (by decide) rfl (fun _ => ?_) (fun _ => ?_)
        · exact g_sub [0, 1, 2] rfl (J14 a3.1 _)
        · refine g_iload_n 49 X 1 dX8_never_48 rfl rfl rfl ?_
          refine g_iconst 50 X dX8_never_49 rfl ci_1 ?_
          refine g_iload_n 51 X 2 dX8_never_50 rfl rfl rfl ?_
          refine g_ishl 52 X dX8_never_51 rfl ?_
          refine g_ior 53 X dX8_never_52 rfl ?_
          refine g_istore_n 54 X [(1, _), (0, _), (2, _)] dX8_never_53 rfl rfl (Nat.le_of_ble_eq_true rfl) rfl ?_
          exact g_sub [1, 0, 2] rfl (J14 (a3.1 ||| ((1 : Int32) <<< (a3.2 &&& 31))) _)
def bX8_sign_30 (c1 : Int32) (rec : (Int32 × Int32) → Sg → Option ((Int32 × Int32) × Sg)) (a7 : Int32 × Int32) (S8 : Sg) : Option ((Int32 × Int32) × Sg) :=
  (if (6 : Int32) ≤ a7.2 then some ((a7.1, a7.2), S8) else gd (ix c1 8) (gd (ix c1 8) (bd (fX8_agrees 24 21 ((sI S8 27 (Int32.toNatClampNeg c1) a7.2).1 14 (Int32.toNatClampNeg c1)) (sI S8 27 (Int32.toNatClampNeg c1) a7.2)) (fun r9 S10 => bd ((if r9 = 0 then some (a7.1, S10) else some ((a7.1 ||| ((1 : Int32) <<< (a7.2 &&& 31))), S10))) (fun (t11 : Int32) S12 => rec (t11, (a7.2 + (1 : Int32))) S12)))))
def fX8_sign (x1 : Int32) (S : Sg) : Option (Int32 × Sg) :=
  bd (fX8_bringUpToDate S) (fun r1 S2 => bd (fX8_isStroke x1 S2) (fun r3 S4 => (if r3 = 0 then some ((-2 : Int32), S4) else bd (fX0_takeStrokes 24 12 S4) (fun r5 S6 => bd (lp (bX8_sign_30 x1) fl ((0 : Int32), (0 : Int32)) S6) (fun (a17 : Int32 × Int32) S18 => some (a17.1, S18))))))
set_option maxHeartbeats 4000000 in
set_option maxRecDepth 100000 in
theorem tX8_sign (G : Gd) (l : Launch) (D : Nat) (x1 : Int32) (S : Sg) : Ct LC G l rI yX8_sign cX8_sign 4 (some .int) (D + 5) [.ref (G.2.1 0), .int x1] S (fX8_sign x1 S) := by
  refine Ct.of (by decide) (Nat.le_of_ble_eq_true rfl) (fun Z hZ X => ?_)
  subst hZ
  show Go LC G Z 4 rI 0 [(0, .ref (G.2.1 0)), (1, .int x1)] [] S (fX8_sign x1 S) kz
  unfold fX8_sign
  refine g_aload_n 1 X 0 dX8_sign_0 rfl rfl rfl ?_
  refine g_cVv0 4 X (tX8_bringUpToDate _ _ (D)  _) mfX8_bringUpToDate miX8_bringUpToDate lkX8_124 rfl rfl rfl (Nat.le_of_ble_eq_true rfl) dX8_sign_1 rfl (fun r1 S2 => ?_)
  refine g_aload_n 5 X 0 dX8_sign_4 rfl rfl rfl ?_
  refine g_iload_n 6 X 1 dX8_sign_5 rfl rfl rfl ?_
  refine g_cVi1 9 X (tX8_isStroke _ _ (D + 4) _ _) mfX8_isStroke miX8_isStroke lkX8_127 rfl rfl rfl (Nat.le_of_ble_eq_true rfl) dX8_sign_6 rfl (fun r3 S4 => ?_)
  refine g_if_ne 15 12 X dX8_sign_9 (by decide) rfl (fun _ => ?_) (fun _ => ?_)
  · refine g_aload_n 16 X 0 dX8_sign_15 rfl rfl rfl ?_
    refine g_getr 19 X 24 rfl flX8_49 rfl dX8_sign_16 rfl ?_
    refine g_aload_n 20 X 0 dX8_sign_19 rfl rfl rfl ?_
    refine g_getr 23 X 12 rfl flX8_38 rfl dX8_sign_20 rfl ?_
    refine g_cVv1 26 X (tX0_takeStrokes _ _ (D + 3) _ (Or.inr rfl) _ (Or.inl rfl) _) mfX0_takeStrokes miX0_takeStrokes lkX8_250 rfl rfl rfl (Nat.le_of_ble_eq_true rfl) dX8_sign_23 rfl (fun r5 S6 => ?_)
    refine g_iconst 27 X dX8_sign_26 rfl ci_0 ?_
    refine g_istore_n 28 X [(2, _), (0, _), (1, _)] dX8_sign_27 rfl rfl (Nat.le_of_ble_eq_true rfl) rfl ?_
    refine g_iconst 29 X dX8_sign_28 rfl ci_0 ?_
    refine g_istore_n 30 X [(3, _), (2, _), (0, _), (1, _)] dX8_sign_29 rfl rfl (Nat.le_of_ble_eq_true rfl) rfl ?_
    refine g_joinK 82 (fun (a17 : Int32 × Int32) => [(2, .int a17.1)]) (fun (a17 : Int32 × Int32) => []) (fun a17 S18 => ?_) (fun J9 => ?_)
    · refine g_iload_n 83 X 0 dX8_sign_82 rfl rfl rfl ?_
      exact g_iret X dX8_sign_83 rfl
    · refine g_sub [2, 3, 1, 0] rfl (g_lp (fun (a7 : Int32 × Int32) => [(0, .ref (G.2.1 0)), (1, .int x1), (2, .int a7.1), (3, .int a7.2)]) (fun rec11 ih10 a7 S8 => ?_) fl ((0 : Int32), (0 : Int32)) _)
      unfold bX8_sign_30
      refine g_iload_n 31 X 3 dX8_sign_30 rfl rfl rfl ?_
      refine g_bipush 33 X dX8_sign_31 rfl cb_6 ?_
      refine g_icmp_ge 82 36 X dX8_sign_33 (by decide) rfl (fun _ => ?_) (fun _ => ?_)
      · exact g_sub [2] rfl (J9 (a7.1, a7.2) _)
      · refine g_aload_n 37 X 0 dX8_sign_36 rfl rfl rfl ?_
        refine g_getr 40 X 24 rfl flX8_49 rfl dX8_sign_37 rfl ?_
        refine g_getr 43 X 27 rfl flX8_136 rfl dX8_sign_40 rfl ?_
        refine g_iload_n 44 X 1 dX8_sign_43 rfl rfl rfl ?_
        refine g_iload_n 45 X 3 dX8_sign_44 rfl rfl rfl ?_
        refine g_iast 46 X rfl dX8_sign_45 rfl ?_
        refine g_aload_n 47 X 0 dX8_sign_46 rfl rfl rfl ?_
        refine g_aload_n 48 X 0 dX8_sign_47 rfl rfl rfl ?_
        refine g_getr 51 X 24 rfl flX8_49 rfl dX8_sign_48 rfl ?_
        refine g_aload_n 52 X 0 dX8_sign_51 rfl rfl rfl ?_
        refine g_getr 55 X 21 rfl flX8_45 rfl dX8_sign_52 rfl ?_
        refine g_aload_n 56 X 0 dX8_sign_55 rfl rfl rfl ?_
        refine g_getr 59 X 12 rfl flX8_38 rfl dX8_sign_56 rfl ?_
        refine g_getr 62 X 14 rfl flX8_133 rfl dX8_sign_59 rfl ?_
        refine g_iload_n 63 X 1 dX8_sign_62 rfl rfl rfl ?_
        refine g_iald 64 X rfl dX8_sign_63 rfl ?_
        refine g_cVi3 67 X (tX8_agrees _ _ (D + 2) _ (Or.inr rfl) _ (Or.inl rfl) _ _) mfX8_agrees miX8_agrees lkX8_246 rfl rfl rfl (Nat.le_of_ble_eq_true rfl) dX8_sign_64 rfl (fun r12 S13 => ?_)
        refine g_joinK 76 (fun (t14 : Int32) => [(0, .ref (G.2.1 0)), (1, .int x1), (2, .int t14), (3, .int a7.2)]) (fun (t14 : Int32) => []) (fun t14 S15 => ?_) (fun J16 => ?_)
        · refine g_iinc 79 X 3 [(3, _), (0, _), (1, _), (2, _)] dX8_sign_76 rfl rfl (ii_1 _) (Nat.le_of_ble_eq_true rfl) rfl ?_
          refine g_goto 30 X dX8_sign_79 (by decide) ?_
          exact g_sub [1, 2, 3, 0] rfl (ih10 (t14, (a7.2 + (1 : Int32))) _)
        · refine g_if_eq 76 70 X dX8_sign_67 (by decide) rfl (fun _ => ?_) (fun _ => ?_)
          · exact g_sub [0, 1, 2, 3] rfl (J16 a7.1 _)
          · refine g_iload_n 71 X 2 dX8_sign_70 rfl rfl rfl ?_
            refine g_iconst 72 X dX8_sign_71 rfl ci_1 ?_
            refine g_iload_n 73 X 3 dX8_sign_72 rfl rfl rfl ?_
            refine g_ishl 74 X dX8_sign_73 rfl ?_
            refine g_ior 75 X dX8_sign_74 rfl ?_
            refine g_istore_n 76 X [(2, _), (0, _), (1, _), (3, _)] dX8_sign_75 rfl rfl (Nat.le_of_ble_eq_true rfl) rfl ?_
            exact g_sub [1, 2, 0, 3] rfl (J16 (a7.1 ||| ((1 : Int32) <<< (a7.2 &&& 31))) _)
  · refine g_bipush 14 X dX8_sign_12 rfl cb_m2 ?_
    exact g_iret X dX8_sign_14 rfl
def bX8_chalk_60 (c1 : Int32) (c2 : Int32) (rec : (Int32 × Int32) → Sg → Option ((Int32 × Int32) × Sg)) (a11 : Int32 × Int32) (S12 : Sg) : Option ((Int32 × Int32) × Sg) :=
  (if (9 : Int32) < a11.2 then some ((a11.1, a11.2), S12) else gd (ix c1 8) (bd (fX3_follow 33 24 5 ((sI S12 28 (Int32.toNatClampNeg c1) a11.2).1 0 15) (sI S12 28 (Int32.toNatClampNeg c1) a11.2)) (fun r13 S14 => bd (fX8_agrees 24 33 c2 S14) (fun r15 S16 => bd ((if r15 = 0 then some (a11.1, S16) else some ((a11.1 ||| ((1 : Int32) <<< (a11.2 &&& 31))), S16))) (fun (t17 : Int32) S18 => rec (t17, (a11.2 + (1 : Int32))) S18)))))
def fX8_chalk (x1 : Int32) (S : Sg) : Option (Int32 × Sg) :=
  bd (fX8_bringUpToDate S) (fun r1 S2 => bd (fX8_isStroke x1 S2) (fun r3 S4 => (if r3 = 0 then some ((-2 : Int32), S4) else gd (ix x1 8) (bd (fX0_takeStrokes 24 12 S4) (fun r5 S6 => bd (fX0_onCell 24 (S4.1 14 (Int32.toNatClampNeg x1)) S6) (fun r7 S8 => bd (fX0_settle 24 r7 S8) (fun r9 S10 => bd (lp (bX8_chalk_60 x1 (S4.1 14 (Int32.toNatClampNeg x1))) fl ((0 : Int32), (1 : Int32)) S10) (fun (a23 : Int32 × Int32) S24 => some (a23.1, S24)))))))))
set_option maxHeartbeats 4000000 in
set_option maxRecDepth 100000 in
theorem tX8_chalk (G : Gd) (l : Launch) (D : Nat) (x1 : Int32) (S : Sg) : Ct LC G l rI yX8_chalk cX8_chalk 5 (some .int) (D + 5) [.ref (G.2.1 0), .int x1] S (fX8_chalk x1 S) := by
  refine Ct.of (by decide) (Nat.le_of_ble_eq_true rfl) (fun Z hZ X => ?_)
  subst hZ
  show Go LC G Z 5 rI 0 [(0, .ref (G.2.1 0)), (1, .int x1)] [] S (fX8_chalk x1 S) kz
  unfold fX8_chalk
  refine g_aload_n 1 X 0 dX8_chalk_0 rfl rfl rfl ?_
  refine g_cVv0 4 X (tX8_bringUpToDate _ _ (D)  _) mfX8_bringUpToDate miX8_bringUpToDate lkX8_124 rfl rfl rfl (Nat.le_of_ble_eq_true rfl) dX8_chalk_1 rfl (fun r1 S2 => ?_)
  refine g_aload_n 5 X 0 dX8_chalk_4 rfl rfl rfl ?_
  refine g_iload_n 6 X 1 dX8_chalk_5 rfl rfl rfl ?_
  refine g_cVi1 9 X (tX8_isStroke _ _ (D + 4) _ _) mfX8_isStroke miX8_isStroke lkX8_127 rfl rfl rfl (Nat.le_of_ble_eq_true rfl) dX8_chalk_6 rfl (fun r3 S4 => ?_)
  refine g_if_ne 15 12 X dX8_chalk_9 (by decide) rfl (fun _ => ?_) (fun _ => ?_)
  · refine g_aload_n 16 X 0 dX8_chalk_15 rfl rfl rfl ?_
    refine g_getr 19 X 12 rfl flX8_38 rfl dX8_chalk_16 rfl ?_
    refine g_getr 22 X 14 rfl flX8_133 rfl dX8_chalk_19 rfl ?_
    refine g_iload_n 23 X 1 dX8_chalk_22 rfl rfl rfl ?_
    refine g_iald 24 X rfl dX8_chalk_23 rfl ?_
    refine g_istore_n 25 X [(2, _), (0, _), (1, _)] dX8_chalk_24 rfl rfl (Nat.le_of_ble_eq_true rfl) rfl ?_
    refine g_aload_n 26 X 1 dX8_chalk_25 rfl rfl rfl ?_
    refine g_getr 29 X 24 rfl flX8_49 rfl dX8_chalk_26 rfl ?_
    refine g_aload_n 30 X 1 dX8_chalk_29 rfl rfl rfl ?_
    refine g_getr 33 X 12 rfl flX8_38 rfl dX8_chalk_30 rfl ?_
    refine g_cVv1 36 X (tX0_takeStrokes _ _ (D + 3) _ (Or.inr rfl) _ (Or.inl rfl) _) mfX0_takeStrokes miX0_takeStrokes lkX8_250 rfl rfl rfl (Nat.le_of_ble_eq_true rfl) dX8_chalk_33 rfl (fun r5 S6 => ?_)
    refine g_aload_n 37 X 1 dX8_chalk_36 rfl rfl rfl ?_
    refine g_getr 40 X 24 rfl flX8_49 rfl dX8_chalk_37 rfl ?_
    refine g_aload_n 41 X 1 dX8_chalk_40 rfl rfl rfl ?_
    refine g_getr 44 X 24 rfl flX8_49 rfl dX8_chalk_41 rfl ?_
    refine g_iload_n 45 X 0 dX8_chalk_44 rfl rfl rfl ?_
    refine g_cVi1 48 X (tX0_onCell _ _ (D + 3) _ (Or.inr rfl) _ _) mfX0_onCell miX0_onCell lkX8_254 rfl rfl rfl (Nat.le_of_ble_eq_true rfl) dX8_chalk_45 rfl (fun r7 S8 => ?_)
    refine g_aload_n 49 X 1 dX8_chalk_48 rfl rfl rfl ?_
    refine g_getr 52 X 7 rfl flX8_31 rfl dX8_chalk_49 rfl ?_
    refine g_cVv2 55 X (tX0_settle _ _ (D + 2) _ (Or.inr rfl) _ _) mfX0_settle miX0_settle lkX8_257 rfl rfl rfl (Nat.le_of_ble_eq_true rfl) dX8_chalk_52 rfl (fun r9 S10 => ?_)
    refine g_iconst 56 X dX8_chalk_55 rfl ci_0 ?_
    refine g_istore_n 57 X [(3, _), (2, _), (0, _), (1, _)] dX8_chalk_56 rfl rfl (Nat.le_of_ble_eq_true rfl) rfl ?_
    refine g_iconst 58 X dX8_chalk_57 rfl ci_1 ?_
    refine g_istore 60 X [(4, _), (3, _), (2, _), (0, _), (1, _)] dX8_chalk_58 rfl (Nat.le_of_ble_eq_true rfl) rfl ?_
    refine g_joinK 126 (fun (a23 : Int32 × Int32) => [(3, .int a23.1)]) (fun (a23 : Int32 × Int32) => []) (fun a23 S24 => ?_) (fun J13 => ?_)
    · refine g_iload_n 127 X 0 dX8_chalk_126 rfl rfl rfl ?_
      exact g_iret X dX8_chalk_127 rfl
    · refine g_sub [3, 4, 2, 1, 0] rfl (g_lp (fun (a11 : Int32 × Int32) => [(0, .ref (G.2.1 0)), (1, .int x1), (2, .int (S4.1 14 (Int32.toNatClampNeg x1))), (3, .int a11.1), (4, .int a11.2)]) (fun rec15 ih14 a11 S12 => ?_) fl ((0 : Int32), (1 : Int32)) _)
      unfold bX8_chalk_60
      refine g_iload 62 X 4 dX8_chalk_60 rfl rfl ?_
      refine g_bipush 64 X dX8_chalk_62 rfl cb_9 ?_
      refine g_icmp_gt 126 67 X dX8_chalk_64 (by decide) rfl (fun _ => ?_) (fun _ => ?_)
      · exact g_sub [3] rfl (J13 (a11.1, a11.2) _)
      · refine g_aload_n 68 X 0 dX8_chalk_67 rfl rfl rfl ?_
        refine g_getr 71 X 24 rfl flX8_49 rfl dX8_chalk_68 rfl ?_
        refine g_getr 74 X 28 rfl flX8_139 rfl dX8_chalk_71 rfl ?_
        refine g_iload_n 75 X 1 dX8_chalk_74 rfl rfl rfl ?_
        refine g_iload 77 X 4 dX8_chalk_75 rfl rfl ?_
        refine g_iast 78 X rfl dX8_chalk_77 rfl ?_
        refine g_aload_n 79 X 0 dX8_chalk_78 rfl rfl rfl ?_
        refine g_getr 82 X 33 rfl flX8_52 rfl dX8_chalk_79 rfl ?_
        refine g_aload_n 83 X 0 dX8_chalk_82 rfl rfl rfl ?_
        refine g_getr 86 X 24 rfl flX8_49 rfl dX8_chalk_83 rfl ?_
        refine g_aload_n 87 X 0 dX8_chalk_86 rfl rfl rfl ?_
        refine g_getr 90 X 5 rfl flX8_21 rfl dX8_chalk_87 rfl ?_
        refine g_aload_n 91 X 0 dX8_chalk_90 rfl rfl rfl ?_
        refine g_geti 94 X rfl flX8_89 rfl dX8_chalk_91 rfl ?_
        refine g_cVv3 97 X (tX3_follow _ _ (D + 2) _ (Or.inr rfl) _ (Or.inr rfl) _ (Or.inl rfl) _ _) mfX3_follow miX3_follow lkX8_261 rfl rfl rfl (Nat.le_of_ble_eq_true rfl) dX8_chalk_94 rfl (fun r16 S17 => ?_)
        refine g_aload_n 98 X 0 dX8_chalk_97 rfl rfl rfl ?_
        refine g_aload_n 99 X 0 dX8_chalk_98 rfl rfl rfl ?_
        refine g_getr 102 X 24 rfl flX8_49 rfl dX8_chalk_99 rfl ?_
        refine g_aload_n 103 X 0 dX8_chalk_102 rfl rfl rfl ?_
        refine g_getr 106 X 33 rfl flX8_52 rfl dX8_chalk_103 rfl ?_
        refine g_iload_n 107 X 2 dX8_chalk_106 rfl rfl rfl ?_
        refine g_cVi3 110 X (tX8_agrees _ _ (D + 2) _ (Or.inr rfl) _ (Or.inr rfl) _ _) mfX8_agrees miX8_agrees lkX8_246 rfl rfl rfl (Nat.le_of_ble_eq_true rfl) dX8_chalk_107 rfl (fun r18 S19 => ?_)
        refine g_joinK 120 (fun (t20 : Int32) => [(0, .ref (G.2.1 0)), (1, .int x1), (2, .int (S4.1 14 (Int32.toNatClampNeg x1))), (3, .int t20), (4, .int a11.2)]) (fun (t20 : Int32) => []) (fun t20 S21 => ?_) (fun J22 => ?_)
        · refine g_iinc 123 X 4 [(4, _), (0, _), (1, _), (2, _), (3, _)] dX8_chalk_120 rfl rfl (ii_1 _) (Nat.le_of_ble_eq_true rfl) rfl ?_
          refine g_goto 60 X dX8_chalk_123 (by decide) ?_
          exact g_sub [1, 2, 3, 4, 0] rfl (ih14 (t20, (a11.2 + (1 : Int32))) _)
        · refine g_if_eq 120 113 X dX8_chalk_110 (by decide) rfl (fun _ => ?_) (fun _ => ?_)
          · exact g_sub [0, 1, 2, 3, 4] rfl (J22 a11.1 _)
          · refine g_iload_n 114 X 3 dX8_chalk_113 rfl rfl rfl ?_
            refine g_iconst 115 X dX8_chalk_114 rfl ci_1 ?_
            refine g_iload 117 X 4 dX8_chalk_115 rfl rfl ?_
            refine g_ishl 118 X dX8_chalk_117 rfl ?_
            refine g_ior 119 X dX8_chalk_118 rfl ?_
            refine g_istore_n 120 X [(3, _), (0, _), (1, _), (2, _), (4, _)] dX8_chalk_119 rfl rfl (Nat.le_of_ble_eq_true rfl) rfl ?_
            exact g_sub [1, 2, 3, 0, 4] rfl (J22 (a11.1 ||| ((1 : Int32) <<< (a11.2 &&& 31))) _)
  · refine g_bipush 14 X dX8_chalk_12 rfl cb_m2 ?_
    exact g_iret X dX8_chalk_14 rfl
def bX8_viewWithoutEach_57 (c2 : Int32) (c3 : Int32) (c4 : Int32) (rec : Int32 → Sg → Option ((Int32) × Sg)) (a16 : Int32) (S17 : Sg) : Option ((Int32) × Sg) :=
  (if (20 : Int32) ≤ a16 then some (a16, S17) else bd ((if c4 = 0 then gd (ix a16 20) (bd (fX0_shownOn 12 a16 c2 (S17.1 22 (Int32.toNatClampNeg a16)) S17) (fun r21 S22 => some (r21, S22))) else gd (ix a16 20) (bd (fX0_shownOn 24 a16 c2 (S17.1 34 (Int32.toNatClampNeg a16)) S17) (fun r23 S24 => some (r23, S24))))) (fun (t18 : Int32) S19 => gd (ix ((c3 * (20 : Int32)) + a16) 160) (rec (a16 + (1 : Int32)) (sI S19 43 (Int32.toNatClampNeg ((c3 * (20 : Int32)) + a16)) t18))))
def bX8_viewWithoutEach_2 (c1 : Int32) (c2 : Int32) (rec : Int32 → Sg → Option ((Int32) × Sg)) (a1 : Int32) (S2 : Sg) : Option ((Int32) × Sg) :=
  (if (S2.1 12 0) ≤ a1 then some (a1, S2) else bd (fX8_hasBit c1 a1 S2) (fun r3 S4 => bd ((if r3 = 0 then some ((), S4) else gd (ix a1 8) (bd ((if (S4.1 14 (Int32.toNatClampNeg a1)) = c2 then some ((1 : Int32), S4) else some ((0 : Int32), S4))) (fun (t8 : Int32) S9 => bd ((if t8 = 0 then some ((), S9) else bd (fX8_tryWithout a1 S9) (fun r14 S15 => some ((), S15)))) (fun (t11 : Unit) S12 => bd (lp (bX8_viewWithoutEach_57 c2 a1 t8) fl (0 : Int32) S12) (fun (a28 : Int32) S29 => some ((), S29))))))) (fun (t5 : Unit) S6 => rec (a1 + (1 : Int32)) S6)))
def fX8_viewWithoutEach (x1 : Int32) (x2 : Int32) (S : Sg) : Option (Unit × Sg) :=
  bd (lp (bX8_viewWithoutEach_2 x1 x2) fl (0 : Int32) S) (fun (a33 : Int32) S34 => some ((), S34))
set_option maxHeartbeats 4000000 in
set_option maxRecDepth 100000 in
theorem tX8_viewWithoutEach (G : Gd) (l : Launch) (D : Nat) (x1 : Int32) (x2 : Int32) (S : Sg) : Ct LC G l rV yX8_viewWithoutEach cX8_viewWithoutEach 6 none (D + 4) [.ref (G.2.1 0), .int x1, .int x2] S (fX8_viewWithoutEach x1 x2 S) := by
  refine Ct.of (by decide) (Nat.le_of_ble_eq_true rfl) (fun Z hZ X => ?_)
  subst hZ
  show Go LC G Z 6 rV 0 [(0, .ref (G.2.1 0)), (1, .int x1), (2, .int x2)] [] S (fX8_viewWithoutEach x1 x2 S) kz
  unfold fX8_viewWithoutEach
  refine g_iconst 1 X dX8_viewWithoutEach_0 rfl ci_0 ?_
  refine g_istore_n 2 X [(3, _), (0, _), (1, _), (2, _)] dX8_viewWithoutEach_1 rfl rfl (Nat.le_of_ble_eq_true rfl) rfl ?_
  refine g_joinK 136 (fun (a33 : Int32) => []) (fun (a33 : Int32) => []) (fun a33 S34 => ?_) (fun J3 => ?_)
  · exact g_vret X dX8_viewWithoutEach_136 rfl
  · refine g_sub [1, 2, 3, 0] rfl (g_lp (fun (a1 : Int32) => [(0, .ref (G.2.1 0)), (1, .int x1), (2, .int x2), (3, .int a1)]) (fun rec5 ih4 a1 S2 => ?_) fl (0 : Int32) _)
    unfold bX8_viewWithoutEach_2
    refine g_iload_n 3 X 3 dX8_viewWithoutEach_2 rfl rfl rfl ?_
    refine g_aload_n 4 X 0 dX8_viewWithoutEach_3 rfl rfl rfl ?_
    refine g_getr 7 X 12 rfl flX8_38 rfl dX8_viewWithoutEach_4 rfl ?_
    refine g_geti 10 X rfl flX8_221 rfl dX8_viewWithoutEach_7 rfl ?_
    refine g_icmp_ge 136 13 X dX8_viewWithoutEach_10 (by decide) rfl (fun _ => ?_) (fun _ => ?_)
    · exact g_sub [] rfl (J3 a1 _)
    · refine g_iload_n 14 X 1 dX8_viewWithoutEach_13 rfl rfl rfl ?_
      refine g_iload_n 15 X 3 dX8_viewWithoutEach_14 rfl rfl rfl ?_
      refine g_cSi2 18 X (tX8_hasBit _ _ (D + 3) _ _ _) mfX8_hasBit msX8_hasBit lkX8_402 (Nat.le_of_ble_eq_true rfl) dX8_viewWithoutEach_15 rfl (fun r6 S7 => ?_)
      refine g_joinK 130 (fun (t8 : Unit) => [(0, .ref (G.2.1 0)), (1, .int x1), (2, .int x2), (3, .int a1)]) (fun (t8 : Unit) => []) (fun t8 S9 => ?_) (fun J10 => ?_)
      · refine g_iinc 133 X 3 [(3, _), (0, _), (1, _), (2, _)] dX8_viewWithoutEach_130 rfl rfl (ii_1 _) (Nat.le_of_ble_eq_true rfl) rfl ?_
        refine g_goto 2 X dX8_viewWithoutEach_133 (by decide) ?_
        exact g_sub [1, 2, 3, 0] rfl (ih4 (a1 + (1 : Int32)) _)
      · refine g_if_ne 24 21 X dX8_viewWithoutEach_18 (by decide) rfl (fun _ => ?_) (fun _ => ?_)
        · refine g_aload_n 25 X 0 dX8_viewWithoutEach_24 rfl rfl rfl ?_
          refine g_getr 28 X 12 rfl flX8_38 rfl dX8_viewWithoutEach_25 rfl ?_
          refine g_getr 31 X 14 rfl flX8_133 rfl dX8_viewWithoutEach_28 rfl ?_
          refine g_iload_n 32 X 3 dX8_viewWithoutEach_31 rfl rfl rfl ?_
          refine g_iald 33 X rfl dX8_viewWithoutEach_32 rfl ?_
          refine g_iload_n 34 X 2 dX8_viewWithoutEach_33 rfl rfl rfl ?_
          refine g_joinK 42 (fun (t11 : Int32) => [(0, .ref (G.2.1 0)), (1, .int x1), (2, .int x2), (3, .int a1)]) (fun (t11 : Int32) => [.int t11]) (fun t11 S12 => ?_) (fun J13 => ?_)
          · refine g_istore 44 X [(4, _), (0, _), (1, _), (2, _), (3, _)] dX8_viewWithoutEach_42 rfl (Nat.le_of_ble_eq_true rfl) rfl ?_
            refine g_iload 46 X 0 dX8_viewWithoutEach_44 rfl rfl ?_
            refine g_joinK 54 (fun (t14 : Unit) => [(0, .ref (G.2.1 0)), (1, .int x1), (2, .int x2), (3, .int a1), (4, .int t11)]) (fun (t14 : Unit) => []) (fun t14 S15 => ?_) (fun J16 => ?_)
            · refine g_iconst 55 X dX8_viewWithoutEach_54 rfl ci_0 ?_
              refine g_istore 57 X [(5, _), (0, _), (1, _), (2, _), (3, _), (4, _)] dX8_viewWithoutEach_55 rfl (Nat.le_of_ble_eq_true rfl) rfl ?_
              refine g_joinK 130 (fun (a31 : Int32) => [(0, .ref (G.2.1 0)), (1, .int x1), (2, .int x2), (3, .int a1)]) (fun (a31 : Int32) => []) (fun a31 S32 => ?_) (fun J21 => ?_)
              · exact g_sub [0, 1, 2, 3] rfl (J10 () _)
              · refine g_sub [1, 2, 3, 4, 5, 0] rfl (g_lp (fun (a19 : Int32) => [(0, .ref (G.2.1 0)), (1, .int x1), (2, .int x2), (3, .int a1), (4, .int t11), (5, .int a19)]) (fun rec23 ih22 a19 S20 => ?_) fl (0 : Int32) _)
                unfold bX8_viewWithoutEach_57
                refine g_iload 59 X 5 dX8_viewWithoutEach_57 rfl rfl ?_
                refine g_bipush 61 X dX8_viewWithoutEach_59 rfl cb_20 ?_
                refine g_icmp_ge 130 64 X dX8_viewWithoutEach_61 (by decide) rfl (fun _ => ?_) (fun _ => ?_)
                · exact g_sub [0, 1, 2, 3] rfl (J21 a19 _)
                · refine g_aload_n 65 X 0 dX8_viewWithoutEach_64 rfl rfl rfl ?_
                  refine g_getr 68 X 43 rfl flX8_82 rfl dX8_viewWithoutEach_65 rfl ?_
                  refine g_iload_n 69 X 3 dX8_viewWithoutEach_68 rfl rfl rfl ?_
                  refine g_bipush 71 X dX8_viewWithoutEach_69 rfl cb_20 ?_
                  refine g_imul 72 X dX8_viewWithoutEach_71 rfl ?_
                  refine g_iload 74 X 5 dX8_viewWithoutEach_72 rfl rfl ?_
                  refine g_iadd 75 X dX8_viewWithoutEach_74 rfl ?_
                  refine g_iload 77 X 4 dX8_viewWithoutEach_75 rfl rfl ?_
                  refine g_joinK 123 (fun (t24 : Int32) => [(0, .ref (G.2.1 0)), (1, .int x1), (2, .int x2), (3, .int a1), (4, .int t11), (5, .int a19)]) (fun (t24 : Int32) => [.int t24, .int ((a1 * (20 : Int32)) + a19), .ref (G.2.1 43)]) (fun t24 S25 => ?_) (fun J26 => ?_)
                  · refine g_iast 124 X rfl dX8_viewWithoutEach_123 rfl ?_
                    refine g_iinc 127 X 5 [(5, _), (0, _), (1, _), (2, _), (3, _), (4, _)] dX8_viewWithoutEach_124 rfl rfl (ii_1 _) (Nat.le_of_ble_eq_true rfl) rfl ?_
                    refine g_goto 57 X dX8_viewWithoutEach_127 (by decide) ?_
                    exact g_sub [1, 2, 3, 4, 5, 0] rfl (ih22 (a19 + (1 : Int32)) _)
                  · refine g_if_eq 103 80 X dX8_viewWithoutEach_77 (by decide) rfl (fun _ => ?_) (fun _ => ?_)
                    · refine g_aload_n 104 X 0 dX8_viewWithoutEach_103 rfl rfl rfl ?_
                      refine g_getr 107 X 12 rfl flX8_38 rfl dX8_viewWithoutEach_104 rfl ?_
                      refine g_iload 109 X 5 dX8_viewWithoutEach_107 rfl rfl ?_
                      refine g_iload_n 110 X 2 dX8_viewWithoutEach_109 rfl rfl rfl ?_
                      refine g_aload_n 111 X 0 dX8_viewWithoutEach_110 rfl rfl rfl ?_
                      refine g_getr 114 X 21 rfl flX8_45 rfl dX8_viewWithoutEach_111 rfl ?_
                      refine g_getr 117 X 22 rfl flX8_182 rfl dX8_viewWithoutEach_114 rfl ?_
                      refine g_iload 119 X 5 dX8_viewWithoutEach_117 rfl rfl ?_
                      refine g_iald 120 X rfl dX8_viewWithoutEach_119 rfl ?_
                      refine g_cVi3 123 X (tX0_shownOn _ _ (D + 2) _ (Or.inl rfl) _ _ _ _) mfX0_shownOn miX0_shownOn lkX8_185 rfl rfl rfl (Nat.le_of_ble_eq_true rfl) dX8_viewWithoutEach_120 rfl (fun r27 S28 => ?_)
                      exact g_sub [0, 1, 2, 3, 4, 5] rfl (J26 r27 _)
                    · refine g_aload_n 81 X 0 dX8_viewWithoutEach_80 rfl rfl rfl ?_
                      refine g_getr 84 X 24 rfl flX8_49 rfl dX8_viewWithoutEach_81 rfl ?_
                      refine g_iload 86 X 5 dX8_viewWithoutEach_84 rfl rfl ?_
                      refine g_iload_n 87 X 2 dX8_viewWithoutEach_86 rfl rfl rfl ?_
                      refine g_aload_n 88 X 0 dX8_viewWithoutEach_87 rfl rfl rfl ?_
                      refine g_getr 91 X 33 rfl flX8_52 rfl dX8_viewWithoutEach_88 rfl ?_
                      refine g_getr 94 X 34 rfl flX8_182 rfl dX8_viewWithoutEach_91 rfl ?_
                      refine g_iload 96 X 5 dX8_viewWithoutEach_94 rfl rfl ?_
                      refine g_iald 97 X rfl dX8_viewWithoutEach_96 rfl ?_
                      refine g_cVi3 100 X (tX0_shownOn _ _ (D + 2) _ (Or.inr rfl) _ _ _ _) mfX0_shownOn miX0_shownOn lkX8_185 rfl rfl rfl (Nat.le_of_ble_eq_true rfl) dX8_viewWithoutEach_97 rfl (fun r29 S30 => ?_)
                      refine g_goto 123 X dX8_viewWithoutEach_100 (by decide) ?_
                      exact g_sub [0, 1, 2, 3, 4, 5] rfl (J26 r29 _)
            · refine g_if_eq 54 49 X dX8_viewWithoutEach_46 (by decide) rfl (fun _ => ?_) (fun _ => ?_)
              · exact g_sub [1, 2, 3, 4, 0] rfl (J16 () _)
              · refine g_aload_n 50 X 1 dX8_viewWithoutEach_49 rfl rfl rfl ?_
                refine g_iload_n 51 X 4 dX8_viewWithoutEach_50 rfl rfl rfl ?_
                refine g_cVv1 54 X (tX8_tryWithout _ _ (D) _ _) mfX8_tryWithout miX8_tryWithout lkX8_243 rfl rfl rfl (Nat.le_of_ble_eq_true rfl) dX8_viewWithoutEach_51 rfl (fun r17 S18 => ?_)
                exact g_sub [1, 2, 3, 4, 0] rfl (J16 () _)
          · refine g_icmp_ne 41 37 X dX8_viewWithoutEach_34 (by decide) rfl (fun _ => ?_) (fun _ => ?_)
            · refine g_iconst 42 X dX8_viewWithoutEach_41 rfl ci_0 ?_
              exact g_sub [0, 1, 2, 3] rfl (J13 (0 : Int32) _)
            · refine g_iconst 38 X dX8_viewWithoutEach_37 rfl ci_1 ?_
              refine g_goto 42 X dX8_viewWithoutEach_38 (by decide) ?_
              exact g_sub [0, 1, 2, 3] rfl (J13 (1 : Int32) _)
        · refine g_goto 130 X dX8_viewWithoutEach_21 (by decide) ?_
          exact g_sub [0, 1, 2, 3] rfl (J10 () _)
def bX8_mostAlike_23 (c1 : Int32) (c2 : Int32) (c4 : Int32) (rec : (Int32 × Int32) → Sg → Option ((Int32 × Int32) × Sg)) (a3 : Int32 × Int32) (S4 : Sg) : Option ((Int32 × Int32) × Sg) :=
  (if (S4.1 12 0) ≤ a3.2 then some ((a3.1, a3.2), S4) else bd (fX8_hasBit c1 c4 S4) (fun r5 S6 => (if r5 = 0 then some ((a3.1, a3.2), S6) else bd (fX8_hasBit c1 a3.2 S6) (fun r7 S8 => bd ((if r7 = 0 then some (a3.1, S8) else gd (ix ((a3.2 * (20 : Int32)) + c2) 160) (gd (ix ((c4 * (20 : Int32)) + c2) 160) ((if (S8.1 43 (Int32.toNatClampNeg ((a3.2 * (20 : Int32)) + c2))) = (S8.1 43 (Int32.toNatClampNeg ((c4 * (20 : Int32)) + c2))) then some ((a3.1 + (1 : Int32)), S8) else some (a3.1, S8)))))) (fun (t9 : Int32) S10 => rec (t9, (a3.2 + (1 : Int32))) S10)))))
def bX8_mostAlike_5 (c1 : Int32) (c2 : Int32) (rec : (Int32 × Int32) → Sg → Option ((Int32 × Int32) × Sg)) (a1 : Int32 × Int32) (S2 : Sg) : Option ((Int32 × Int32) × Sg) :=
  (if (S2.1 12 0) ≤ a1.2 then some ((a1.1, a1.2), S2) else bd (lp (bX8_mostAlike_23 c1 c2 a1.2) fl ((0 : Int32), (0 : Int32)) S2) (fun (a15 : Int32 × Int32) S16 => rec ((if a1.1 < a15.1 then a15.1 else a1.1), (a1.2 + (1 : Int32))) S16))
def fX8_mostAlike (x1 : Int32) (x2 : Int32) (S : Sg) : Option (Int32 × Sg) :=
  bd (lp (bX8_mostAlike_5 x1 x2) fl ((0 : Int32), (0 : Int32)) S) (fun (a20 : Int32 × Int32) S21 => some (a20.1, S21))
set_option maxHeartbeats 4000000 in
set_option maxRecDepth 100000 in
theorem tX8_mostAlike (G : Gd) (l : Launch) (D : Nat) (x1 : Int32) (x2 : Int32) (S : Sg) : Ct LC G l rI yX8_mostAlike cX8_mostAlike 7 (some .int) (D + 1) [.ref (G.2.1 0), .int x1, .int x2] S (fX8_mostAlike x1 x2 S) := by
  refine Ct.of (by decide) (Nat.le_of_ble_eq_true rfl) (fun Z hZ X => ?_)
  subst hZ
  show Go LC G Z 7 rI 0 [(0, .ref (G.2.1 0)), (1, .int x1), (2, .int x2)] [] S (fX8_mostAlike x1 x2 S) kz
  unfold fX8_mostAlike
  refine g_iconst 1 X dX8_mostAlike_0 rfl ci_0 ?_
  refine g_istore_n 2 X [(3, _), (0, _), (1, _), (2, _)] dX8_mostAlike_1 rfl rfl (Nat.le_of_ble_eq_true rfl) rfl ?_
  refine g_iconst 3 X dX8_mostAlike_2 rfl ci_0 ?_
  refine g_istore 5 X [(4, _), (3, _), (0, _), (1, _), (2, _)] dX8_mostAlike_3 rfl (Nat.le_of_ble_eq_true rfl) rfl ?_
  refine g_joinK 102 (fun (a20 : Int32 × Int32) => [(3, .int a20.1)]) (fun (a20 : Int32 × Int32) => []) (fun a20 S21 => ?_) (fun J3 => ?_)
  · refine g_iload_n 103 X 0 dX8_mostAlike_102 rfl rfl rfl ?_
    exact g_iret X dX8_mostAlike_103 rfl
  · refine g_sub [2, 3, 4, 1, 0] rfl (g_lp (fun (a1 : Int32 × Int32) => [(0, .ref (G.2.1 0)), (1, .int x1), (2, .int x2), (3, .int a1.1), (4, .int a1.2)]) (fun rec5 ih4 a1 S2 => ?_) fl ((0 : Int32), (0 : Int32)) _)
    unfold bX8_mostAlike_5
    refine g_iload 7 X 4 dX8_mostAlike_5 rfl rfl ?_
    refine g_aload_n 8 X 0 dX8_mostAlike_7 rfl rfl rfl ?_
    refine g_getr 11 X 12 rfl flX8_38 rfl dX8_mostAlike_8 rfl ?_
    refine g_geti 14 X rfl flX8_221 rfl dX8_mostAlike_11 rfl ?_
    refine g_icmp_ge 102 17 X dX8_mostAlike_14 (by decide) rfl (fun _ => ?_) (fun _ => ?_)
    · exact g_sub [3] rfl (J3 (a1.1, a1.2) _)
    · refine g_iconst 18 X dX8_mostAlike_17 rfl ci_0 ?_
      refine g_istore 20 X [(5, _), (0, _), (1, _), (2, _), (3, _), (4, _)] dX8_mostAlike_18 rfl (Nat.le_of_ble_eq_true rfl) rfl ?_
      refine g_iconst 21 X dX8_mostAlike_20 rfl ci_0 ?_
      refine g_istore 23 X [(6, _), (5, _), (0, _), (1, _), (2, _), (3, _), (4, _)] dX8_mostAlike_21 rfl (Nat.le_of_ble_eq_true rfl) rfl ?_
      refine g_joinK 89 (fun (a18 : Int32 × Int32) => [(0, .ref (G.2.1 0)), (1, .int x1), (2, .int x2), (3, .int a1.1), (4, .int a1.2), (5, .int a18.1)]) (fun (a18 : Int32 × Int32) => []) (fun a18 S19 => ?_) (fun J8 => ?_)
      · refine g_iload_n 90 X 3 dX8_mostAlike_89 rfl rfl rfl ?_
        refine g_iload 92 X 5 dX8_mostAlike_90 rfl rfl ?_
        refine g_mmax 95 X lkX8_432 mm_max.1 mm_max.2.1 mm_max.2.2 (Nat.le_of_ble_eq_true rfl) dX8_mostAlike_92 rfl ?_
        refine g_istore_n 96 X [(3, _), (0, _), (1, _), (2, _), (4, _), (5, _)] dX8_mostAlike_95 rfl rfl (Nat.le_of_ble_eq_true rfl) rfl ?_
        refine g_iinc 99 X 4 [(4, _), (3, _), (0, _), (1, _), (2, _), (5, _)] dX8_mostAlike_96 rfl rfl (ii_1 _) (Nat.le_of_ble_eq_true rfl) rfl ?_
        refine g_goto 5 X dX8_mostAlike_99 (by decide) ?_
        exact g_sub [2, 3, 4, 1, 0] rfl (ih4 ((if a1.1 < a18.1 then a18.1 else a1.1), (a1.2 + (1 : Int32))) _)
      · refine g_sub [2, 3, 4, 5, 6, 1, 0] rfl (g_lp (fun (a6 : Int32 × Int32) => [(0, .ref (G.2.1 0)), (1, .int x1), (2, .int x2), (3, .int a1.1), (4, .int a1.2), (5, .int a6.1), (6, .int a6.2)]) (fun rec10 ih9 a6 S7 => ?_) fl ((0 : Int32), (0 : Int32)) _)
        unfold bX8_mostAlike_23
        refine g_iload 25 X 6 dX8_mostAlike_23 rfl rfl ?_
        refine g_aload_n 26 X 0 dX8_mostAlike_25 rfl rfl rfl ?_
        refine g_getr 29 X 12 rfl flX8_38 rfl dX8_mostAlike_26 rfl ?_
        refine g_geti 32 X rfl flX8_221 rfl dX8_mostAlike_29 rfl ?_
        refine g_icmp_ge 89 35 X dX8_mostAlike_32 (by decide) rfl (fun _ => ?_) (fun _ => ?_)
        · exact g_sub [0, 1, 2, 3, 4, 5] rfl (J8 (a6.1, a6.2) _)
        · refine g_iload_n 36 X 1 dX8_mostAlike_35 rfl rfl rfl ?_
          refine g_iload 38 X 4 dX8_mostAlike_36 rfl rfl ?_
          refine g_cSi2 41 X (tX8_hasBit _ _ (D) _ _ _) mfX8_hasBit msX8_hasBit lkX8_402 (Nat.le_of_ble_eq_true rfl) dX8_mostAlike_38 rfl (fun r11 S12 => ?_)
          refine g_if_eq 89 44 X dX8_mostAlike_41 (by decide) rfl (fun _ => ?_) (fun _ => ?_)
          · exact g_sub [0, 1, 2, 3, 4, 5] rfl (J8 (a6.1, a6.2) _)
          · refine g_iload_n 45 X 1 dX8_mostAlike_44 rfl rfl rfl ?_
            refine g_iload 47 X 6 dX8_mostAlike_45 rfl rfl ?_
            refine g_cSi2 50 X (tX8_hasBit _ _ (D) _ _ _) mfX8_hasBit msX8_hasBit lkX8_402 (Nat.le_of_ble_eq_true rfl) dX8_mostAlike_47 rfl (fun r13 S14 => ?_)
            refine g_joinK 83 (fun (t15 : Int32) => [(0, .ref (G.2.1 0)), (1, .int x1), (2, .int x2), (3, .int a1.1), (4, .int a1.2), (5, .int t15), (6, .int a6.2)]) (fun (t15 : Int32) => []) (fun t15 S16 => ?_) (fun J17 => ?_)
            · refine g_iinc 86 X 6 [(6, _), (0, _), (1, _), (2, _), (3, _), (4, _), (5, _)] dX8_mostAlike_83 rfl rfl (ii_1 _) (Nat.le_of_ble_eq_true rfl) rfl ?_
              refine g_goto 23 X dX8_mostAlike_86 (by decide) ?_
              exact g_sub [1, 2, 3, 4, 5, 6, 0] rfl (ih9 (t15, (a6.2 + (1 : Int32))) _)
            · refine g_if_eq 83 53 X dX8_mostAlike_50 (by decide) rfl (fun _ => ?_) (fun _ => ?_)
              · exact g_sub [0, 1, 2, 3, 4, 5, 6] rfl (J17 a6.1 _)
              · refine g_aload_n 54 X 0 dX8_mostAlike_53 rfl rfl rfl ?_
                refine g_getr 57 X 43 rfl flX8_82 rfl dX8_mostAlike_54 rfl ?_
                refine g_iload 59 X 6 dX8_mostAlike_57 rfl rfl ?_
                refine g_bipush 61 X dX8_mostAlike_59 rfl cb_20 ?_
                refine g_imul 62 X dX8_mostAlike_61 rfl ?_
                refine g_iload_n 63 X 2 dX8_mostAlike_62 rfl rfl rfl ?_
                refine g_iadd 64 X dX8_mostAlike_63 rfl ?_
                refine g_iald 65 X rfl dX8_mostAlike_64 rfl ?_
                refine g_aload_n 66 X 0 dX8_mostAlike_65 rfl rfl rfl ?_
                refine g_getr 69 X 43 rfl flX8_82 rfl dX8_mostAlike_66 rfl ?_
                refine g_iload 71 X 4 dX8_mostAlike_69 rfl rfl ?_
                refine g_bipush 73 X dX8_mostAlike_71 rfl cb_20 ?_
                refine g_imul 74 X dX8_mostAlike_73 rfl ?_
                refine g_iload_n 75 X 2 dX8_mostAlike_74 rfl rfl rfl ?_
                refine g_iadd 76 X dX8_mostAlike_75 rfl ?_
                refine g_iald 77 X rfl dX8_mostAlike_76 rfl ?_
                refine g_icmp_ne 83 80 X dX8_mostAlike_77 (by decide) rfl (fun _ => ?_) (fun _ => ?_)
                · exact g_sub [0, 1, 2, 3, 4, 5, 6] rfl (J17 a6.1 _)
                · refine g_iinc 83 X 5 [(5, _), (0, _), (1, _), (2, _), (3, _), (4, _), (6, _)] dX8_mostAlike_80 rfl rfl (ii_1 _) (Nat.le_of_ble_eq_true rfl) rfl ?_
                  exact g_sub [1, 2, 3, 4, 5, 0, 6] rfl (J17 (a6.1 + (1 : Int32)) _)
def bX8_ask_30 (c2 : Int32) (rec : Int32 → Sg → Option ((Int32) × Sg)) (a9 : Int32) (S10 : Sg) : Option ((Int32) × Sg) :=
  (if (20 : Int32) ≤ a9 then some (a9, S10) else bd (fX8_mostAlike c2 a9 S10) (fun r11 S12 => bd (fX4_offer a9 r11 S12) (fun r13 S14 => rec (a9 + (1 : Int32)) S14)))
def fX8_ask (x1 : Int32) (S : Sg) : Option (Int32 × Sg) :=
  bd (fX8_isCell x1 S) (fun r1 S2 => (if r1 = 0 then some ((-2 : Int32), S2) else bd (fX8_never S2) (fun r3 S4 => bd (fX8_viewWithoutEach r3 x1 S4) (fun r5 S6 => bd (fX4_begin S6) (fun r7 S8 => bd (lp (bX8_ask_30 r3) fl (0 : Int32) S8) (fun (a18 : Int32) S19 => some ((S19.1 40 0), S19)))))))
set_option maxHeartbeats 4000000 in
set_option maxRecDepth 100000 in
theorem tX8_ask (G : Gd) (l : Launch) (D : Nat) (x1 : Int32) (S : Sg) : Ct LC G l rI yX8_ask cX8_ask 4 (some .int) (D + 6) [.ref (G.2.1 0), .int x1] S (fX8_ask x1 S) := by
  refine Ct.of (by decide) (Nat.le_of_ble_eq_true rfl) (fun Z hZ X => ?_)
  subst hZ
  show Go LC G Z 4 rI 0 [(0, .ref (G.2.1 0)), (1, .int x1)] [] S (fX8_ask x1 S) kz
  unfold fX8_ask
  refine g_iload_n 1 X 1 dX8_ask_0 rfl rfl rfl ?_
  refine g_cSi1 4 X (tX8_isCell _ _ (D + 5) _ _) mfX8_isCell msX8_isCell lkX8_179 (Nat.le_of_ble_eq_true rfl) dX8_ask_1 rfl (fun r1 S2 => ?_)
  refine g_if_ne 10 7 X dX8_ask_4 (by decide) rfl (fun _ => ?_) (fun _ => ?_)
  · refine g_aload_n 11 X 0 dX8_ask_10 rfl rfl rfl ?_
    refine g_cVi0 14 X (tX8_never _ _ (D)  _) mfX8_never miX8_never lkX8_265 rfl rfl rfl (Nat.le_of_ble_eq_true rfl) dX8_ask_11 rfl (fun r3 S4 => ?_)
    refine g_istore_n 15 X [(2, _), (0, _), (1, _)] dX8_ask_14 rfl rfl (Nat.le_of_ble_eq_true rfl) rfl ?_
    refine g_aload_n 16 X 1 dX8_ask_15 rfl rfl rfl ?_
    refine g_iload_n 17 X 0 dX8_ask_16 rfl rfl rfl ?_
    refine g_iload_n 18 X 2 dX8_ask_17 rfl rfl rfl ?_
    refine g_cVv2 21 X (tX8_viewWithoutEach _ _ (D + 1) _ _ _) mfX8_viewWithoutEach miX8_viewWithoutEach lkX8_268 rfl rfl rfl (Nat.le_of_ble_eq_true rfl) dX8_ask_18 rfl (fun r5 S6 => ?_)
    refine g_aload_n 22 X 1 dX8_ask_21 rfl rfl rfl ?_
    refine g_getr 25 X 40 rfl flX8_65 rfl dX8_ask_22 rfl ?_
    refine g_cVv0 28 X (tX4_begin _ _ (D + 5)  _) mfX4_begin miX4_begin lkX8_272 rfl rfl rfl (Nat.le_of_ble_eq_true rfl) dX8_ask_25 rfl (fun r7 S8 => ?_)
    refine g_iconst 29 X dX8_ask_28 rfl ci_0 ?_
    refine g_istore_n 30 X [(3, _), (2, _), (0, _), (1, _)] dX8_ask_29 rfl rfl (Nat.le_of_ble_eq_true rfl) rfl ?_
    refine g_joinK 56 (fun (a18 : Int32) => [(0, .ref (G.2.1 0))]) (fun (a18 : Int32) => []) (fun a18 S19 => ?_) (fun J11 => ?_)
    · refine g_aload_n 57 X 0 dX8_ask_56 rfl rfl rfl ?_
      refine g_getr 60 X 40 rfl flX8_65 rfl dX8_ask_57 rfl ?_
      refine g_geti 63 X rfl flX8_281 rfl dX8_ask_60 rfl ?_
      exact g_iret X dX8_ask_63 rfl
    · refine g_sub [2, 1, 0] rfl (g_lp (fun (a9 : Int32) => [(0, .ref (G.2.1 0)), (2, .int r3), (3, .int a9)]) (fun rec13 ih12 a9 S10 => ?_) fl (0 : Int32) _)
      unfold bX8_ask_30
      refine g_iload_n 31 X 2 dX8_ask_30 rfl rfl rfl ?_
      refine g_bipush 33 X dX8_ask_31 rfl cb_20 ?_
      refine g_icmp_ge 56 36 X dX8_ask_33 (by decide) rfl (fun _ => ?_) (fun _ => ?_)
      · exact g_sub [0] rfl (J11 a9 _)
      · refine g_aload_n 37 X 0 dX8_ask_36 rfl rfl rfl ?_
        refine g_getr 40 X 40 rfl flX8_65 rfl dX8_ask_37 rfl ?_
        refine g_iload_n 41 X 2 dX8_ask_40 rfl rfl rfl ?_
        refine g_aload_n 42 X 0 dX8_ask_41 rfl rfl rfl ?_
        refine g_iload_n 43 X 1 dX8_ask_42 rfl rfl rfl ?_
        refine g_iload_n 44 X 2 dX8_ask_43 rfl rfl rfl ?_
        refine g_cVi2 47 X (tX8_mostAlike _ _ (D + 4) _ _ _) mfX8_mostAlike miX8_mostAlike lkX8_275 rfl rfl rfl (Nat.le_of_ble_eq_true rfl) dX8_ask_44 rfl (fun r14 S15 => ?_)
        refine g_cVv2 50 X (tX4_offer _ _ (D + 5) _ _ _) mfX4_offer miX4_offer lkX8_278 rfl rfl rfl (Nat.le_of_ble_eq_true rfl) dX8_ask_47 rfl (fun r16 S17 => ?_)
        refine g_iinc 53 X 2 [(3, _), (0, _), (2, _)] dX8_ask_50 rfl rfl (ii_1 _) (Nat.le_of_ble_eq_true rfl) rfl ?_
        refine g_goto 30 X dX8_ask_53 (by decide) ?_
        exact g_sub [1, 2, 0] rfl (ih12 (a9 + (1 : Int32)) _)
  · refine g_bipush 9 X dX8_ask_7 rfl cb_m2 ?_
    exact g_iret X dX8_ask_9 rfl
def fX8_stillFromB (rec : Nat → Nat → Int32 → Int32 → Sg → Option (Int64 × Sg)) (t1 : Nat) (t2 : Nat) (x3 : Int32) (x4 : Int32) (S : Sg) : Option (Int64 × Sg) :=
  gd (ix x3 20) (bd (fX0_risenOn t1 x3 (S.1 t2 (Int32.toNatClampNeg x3)) x4 S) (fun r1 S2 => (if x3 < (S2.1 41 2) then gd (ix x3 20) (bd ((if (S2.1 41 3) ≤ (S2.1 t2 (Int32.toNatClampNeg x3)) then some ((0 : Int32), S2) else some ((1 : Int32), S2))) (fun (t3 : Int32) S4 => bd (fX0_weathered t1 x3 r1 x4 t3 S4) (fun r6 S7 => (if x3 ≤ (S7.1 41 1) then bd ((if (S7.1 41 3) ≤ (0 : Int32) then some ((0 : Int32), S7) else some ((1 : Int32), S7))) (fun (t8 : Int32) S9 => bd (fX0_weathered t1 x3 (0 : Int32) x4 t8 S9) (fun r11 S12 => (if r11 = r6 then bd (rec t1 t2 (x3 + (1 : Int32)) r6 S12) (fun r23 S24 => some (((16 : Int64) * r23), S24)) else bd ((if (S.1 41 0) = 0 then some ((0 : Int64), S12) else bd (rec t1 t2 (x3 + (1 : Int32)) r11 S12) (fun r16 S17 => some (((Int32.toInt64 (S.1 41 0)) * r16), S17)))) (fun (t13 : Int64) S14 => bd ((if (S.1 41 0) = (16 : Int32) then some ((0 : Int64), S14) else bd (rec t1 t2 (x3 + (1 : Int32)) r6 S14) (fun r21 S22 => some (((Int32.toInt64 ((16 : Int32) - (S.1 41 0))) * r21), S22)))) (fun (t18 : Int64) S19 => some ((t13 + t18), S19)))))) else bd (rec t1 t2 (x3 + (1 : Int32)) r6 S7) (fun r25 S26 => some (r25, S26)))))) else bd ((if r1 = 0 then some ((1 : Int64), S2) else some ((0 : Int64), S2))) (fun (t27 : Int64) S28 => (if (S28.1 41 1) < x3 then some (t27, S28) else some (((Int32.toInt64 (S.1 41 0)) + ((Int32.toInt64 ((16 : Int32) - (S.1 41 0))) * t27)), S28))))))
def fX8_stillFrom : Nat → Nat → Nat → Int32 → Int32 → Sg → Option (Int64 × Sg)
  | 0, _, _, _, _, _ => none
  | n + 1, t1, t2, x3, x4, S => fX8_stillFromB (fX8_stillFrom n) t1 t2 x3 x4 S
set_option maxHeartbeats 4000000 in
set_option maxRecDepth 100000 in
theorem tX8_stillFrom (G : Gd) (l : Launch) (D : Nat) (n : Nat) : ∀ (t1 : Nat) (ht1 : isBoard t1) (t2 : Nat) (ht2 : isDamps t2) (x3 : Int32) (x4 : Int32) (S : Sg), Ct LC G l rL yX8_stillFrom cX8_stillFrom 13 (some .long) (D + n + 2) [.ref (G.2.1 41), .ref (G.2.1 t1), .ref (G.2.1 t2), .int x3, .int x4] S (fX8_stillFrom n t1 t2 x3 x4 S) := by
  induction n with
  | zero => exact fun t1 ht1 t2 ht2 x3 x4 S r S' ho => by cases ho
  | succ n ihr0 =>
    intro t1 ht1 t2 ht2 x3 x4 S
    refine Ct.of (by decide) (Nat.le_of_ble_eq_true rfl) (fun Z hZ X => ?_)
    subst hZ
    show Go LC G Z 13 rL 0 [(0, .ref (G.2.1 41)), (1, .ref (G.2.1 t1)), (2, .ref (G.2.1 t2)), (3, .int x3), (4, .int x4)] [] S (fX8_stillFromB (fX8_stillFrom n) t1 t2 x3 x4 S) kz
    unfold fX8_stillFromB
    refine g_aload_n 1 X 0 dX8_stillFrom_0 rfl rfl rfl ?_
    refine g_geti 4 X rfl flX8_441 rfl dX8_stillFrom_1 rfl ?_
    refine g_istore 6 X [(5, _), (0, _), (1, _), (2, _), (3, _), (4, _)] dX8_stillFrom_4 rfl (Nat.le_of_ble_eq_true rfl) rfl ?_
    refine g_aload_n 7 X 2 dX8_stillFrom_6 rfl rfl rfl ?_
    refine g_iload_n 8 X 4 dX8_stillFrom_7 rfl rfl rfl ?_
    refine g_aload_n 9 X 3 dX8_stillFrom_8 rfl rfl rfl ?_
    refine g_iload_n 10 X 4 dX8_stillFrom_9 rfl rfl rfl ?_
    refine g_iald 11 X (sDamps ht2) dX8_stillFrom_10 rfl ?_
    refine g_iload 13 X 5 dX8_stillFrom_11 rfl rfl ?_
    refine g_cVi3 16 X (tX0_risenOn _ _ (D + (n + 1)) _ ht1 _ _ _ _) mfX0_risenOn miX0_risenOn lkX8_462 (sBoard ht1) rfl rfl (Nat.le_of_ble_eq_true rfl) dX8_stillFrom_13 rfl (fun r1 S2 => ?_)
    refine g_istore 18 X [(6, _), (5, _), (0, _), (1, _), (2, _), (3, _), (4, _)] dX8_stillFrom_16 rfl (Nat.le_of_ble_eq_true rfl) rfl ?_
    refine g_iload_n 19 X 5 dX8_stillFrom_18 rfl rfl rfl ?_
    refine g_aload_n 20 X 2 dX8_stillFrom_19 rfl rfl rfl ?_
    refine g_geti 23 X rfl flX8_447 rfl dX8_stillFrom_20 rfl ?_
    refine g_icmp_lt 65 26 X dX8_stillFrom_23 (by decide) rfl (fun _ => ?_) (fun _ => ?_)
    · refine g_aload_n 66 X 3 dX8_stillFrom_65 rfl rfl rfl ?_
      refine g_iload_n 67 X 5 dX8_stillFrom_66 rfl rfl rfl ?_
      refine g_iload 69 X 0 dX8_stillFrom_67 rfl rfl ?_
      refine g_iload 71 X 6 dX8_stillFrom_69 rfl rfl ?_
      refine g_aload_n 72 X 4 dX8_stillFrom_71 rfl rfl rfl ?_
      refine g_iload_n 73 X 5 dX8_stillFrom_72 rfl rfl rfl ?_
      refine g_iald 74 X (sDamps ht2) dX8_stillFrom_73 rfl ?_
      refine g_aload_n 75 X 2 dX8_stillFrom_74 rfl rfl rfl ?_
      refine g_geti 78 X rfl flX8_450 rfl dX8_stillFrom_75 rfl ?_
      refine g_joinK 86 (fun (t3 : Int32) => [(0, .ref (G.2.1 41)), (1, .ref (G.2.1 t1)), (2, .ref (G.2.1 t2)), (3, .int x3), (4, .int x4), (5, .int (S.1 41 0))]) (fun (t3 : Int32) => [.int t3, .int x4, .int r1, .int x3, .ref (G.2.1 t1)]) (fun t3 S4 => ?_) (fun J5 => ?_)
      · refine g_cVi4 89 X (tX0_weathered _ _ (D + (n + 1) + 1) _ ht1 _ _ _ _ _) mfX0_weathered miX0_weathered lkX8_465 (sBoard ht1) rfl rfl (Nat.le_of_ble_eq_true rfl) dX8_stillFrom_86 rfl (fun r6 S7 => ?_)
        refine g_istore 91 X [(7, _), (0, _), (1, _), (2, _), (3, _), (4, _), (5, _)] dX8_stillFrom_89 rfl (Nat.le_of_ble_eq_true rfl) rfl ?_
        refine g_iload_n 92 X 4 dX8_stillFrom_91 rfl rfl rfl ?_
        refine g_aload_n 93 X 1 dX8_stillFrom_92 rfl rfl rfl ?_
        refine g_geti 96 X rfl flX8_444 rfl dX8_stillFrom_93 rfl ?_
        refine g_icmp_le 111 99 X dX8_stillFrom_96 (by decide) rfl (fun _ => ?_) (fun _ => ?_)
        · refine g_aload_n 112 X 2 dX8_stillFrom_111 rfl rfl rfl ?_
          refine g_iload_n 113 X 4 dX8_stillFrom_112 rfl rfl rfl ?_
          refine g_iconst 114 X dX8_stillFrom_113 rfl ci_0 ?_
          refine g_iload 116 X 5 dX8_stillFrom_114 rfl rfl ?_
          refine g_iconst 117 X dX8_stillFrom_116 rfl ci_0 ?_
          refine g_aload_n 118 X 1 dX8_stillFrom_117 rfl rfl rfl ?_
          refine g_geti 121 X rfl flX8_450 rfl dX8_stillFrom_118 rfl ?_
          refine g_joinK 129 (fun (t8 : Int32) => [(0, .ref (G.2.1 41)), (1, .ref (G.2.1 t1)), (2, .ref (G.2.1 t2)), (3, .int x3), (5, .int (S.1 41 0)), (7, .int r6)]) (fun (t8 : Int32) => [.int t8, .int x4, .int (0 : Int32), .int x3, .ref (G.2.1 t1)]) (fun t8 S9 => ?_) (fun J10 => ?_)
          · refine g_cVi4 132 X (tX0_weathered _ _ (D + (n + 1) + 1) _ ht1 _ _ _ _ _) mfX0_weathered miX0_weathered lkX8_465 (sBoard ht1) rfl rfl (Nat.le_of_ble_eq_true rfl) dX8_stillFrom_129 rfl (fun r11 S12 => ?_)
            refine g_istore 134 X [(8, _), (0, _), (1, _), (2, _), (3, _), (5, _), (7, _)] dX8_stillFrom_132 rfl (Nat.le_of_ble_eq_true rfl) rfl ?_
            refine g_iload 136 X 0 dX8_stillFrom_134 rfl rfl ?_
            refine g_iload 138 X 6 dX8_stillFrom_136 rfl rfl ?_
            refine g_icmp_ne 157 141 X dX8_stillFrom_138 (by decide) rfl (fun _ => ?_) (fun _ => ?_)
            · refine g_iload 159 X 5 dX8_stillFrom_157 rfl rfl ?_
              refine g_joinK 181 (fun (t13 : Int64) => [(0, .ref (G.2.1 41)), (1, .ref (G.2.1 t1)), (2, .ref (G.2.1 t2)), (3, .int x3), (5, .int (S.1 41 0)), (7, .int r6)]) (fun (t13 : Int64) => [.long t13]) (fun t13 S14 => ?_) (fun J15 => ?_)
              · refine g_lstore 183 X [(9, _), (0, _), (1, _), (2, _), (3, _), (5, _), (7, _)] dX8_stillFrom_181 rfl (Nat.le_of_ble_eq_true rfl) rfl ?_
                refine g_iload 185 X 5 dX8_stillFrom_183 rfl rfl ?_
                refine g_bipush 187 X dX8_stillFrom_185 rfl cb_16 ?_
                refine g_joinK 212 (fun (t18 : Int64) => [(9, .long t13)]) (fun (t18 : Int64) => [.long t18]) (fun t18 S19 => ?_) (fun J20 => ?_)
                · refine g_lstore 214 X [(11, _), (9, _)] dX8_stillFrom_212 rfl (Nat.le_of_ble_eq_true rfl) rfl ?_
                  refine g_lload 216 X 1 dX8_stillFrom_214 rfl rfl ?_
                  refine g_lload 218 X 0 dX8_stillFrom_216 rfl rfl ?_
                  refine g_ladd 219 X dX8_stillFrom_218 rfl ?_
                  exact g_lret X dX8_stillFrom_219 rfl
                · refine g_icmp_ne 194 190 X dX8_stillFrom_187 (by decide) rfl (fun _ => ?_) (fun _ => ?_)
                  · refine g_bipush 196 X dX8_stillFrom_194 rfl cb_16 ?_
                    refine g_iload 198 X 5 dX8_stillFrom_196 rfl rfl ?_
                    refine g_isub 199 X dX8_stillFrom_198 rfl ?_
                    refine g_i2l 200 X dX8_stillFrom_199 rfl ?_
                    refine g_aload_n 201 X 1 dX8_stillFrom_200 rfl rfl rfl ?_
                    refine g_aload_n 202 X 2 dX8_stillFrom_201 rfl rfl rfl ?_
                    refine g_aload_n 203 X 3 dX8_stillFrom_202 rfl rfl rfl ?_
                    refine g_iload_n 204 X 4 dX8_stillFrom_203 rfl rfl rfl ?_
                    refine g_iconst 205 X dX8_stillFrom_204 rfl ci_1 ?_
                    refine g_iadd 206 X dX8_stillFrom_205 rfl ?_
                    refine g_iload 208 X 6 dX8_stillFrom_206 rfl rfl ?_
                    refine g_cSl5 211 X (ihr0 _ ht1 _ ht2 _ _ _) mfX8_stillFrom msX8_stillFrom lkX8_454 (Nat.le_of_ble_eq_true rfl) dX8_stillFrom_208 rfl (fun r21 S22 => ?_)
                    refine g_lmul 212 X dX8_stillFrom_211 rfl ?_
                    exact g_sub [0] rfl (J20 ((Int32.toInt64 ((16 : Int32) - (S.1 41 0))) * r21) _)
                  · refine g_lconst (v := (0 : Int64)) 191 X dX8_stillFrom_190 rfl (by decide) ?_
                    refine g_goto 212 X dX8_stillFrom_191 (by decide) ?_
                    exact g_sub [0] rfl (J20 (0 : Int64) _)
              · refine g_if_ne 166 162 X dX8_stillFrom_159 (by decide) rfl (fun _ => ?_) (fun _ => ?_)
                · refine g_iload 168 X 5 dX8_stillFrom_166 rfl rfl ?_
                  refine g_i2l 169 X dX8_stillFrom_168 rfl ?_
                  refine g_aload_n 170 X 1 dX8_stillFrom_169 rfl rfl rfl ?_
                  refine g_aload_n 171 X 2 dX8_stillFrom_170 rfl rfl rfl ?_
                  refine g_aload_n 172 X 3 dX8_stillFrom_171 rfl rfl rfl ?_
                  refine g_iload_n 173 X 4 dX8_stillFrom_172 rfl rfl rfl ?_
                  refine g_iconst 174 X dX8_stillFrom_173 rfl ci_1 ?_
                  refine g_iadd 175 X dX8_stillFrom_174 rfl ?_
                  refine g_iload 177 X 0 dX8_stillFrom_175 rfl rfl ?_
                  refine g_cSl5 180 X (ihr0 _ ht1 _ ht2 _ _ _) mfX8_stillFrom msX8_stillFrom lkX8_454 (Nat.le_of_ble_eq_true rfl) dX8_stillFrom_177 rfl (fun r16 S17 => ?_)
                  refine g_lmul 181 X dX8_stillFrom_180 rfl ?_
                  exact g_sub [1, 2, 3, 4, 5, 6] rfl (J15 ((Int32.toInt64 (S.1 41 0)) * r16) _)
                · refine g_lconst (v := (0 : Int64)) 163 X dX8_stillFrom_162 rfl (by decide) ?_
                  refine g_goto 181 X dX8_stillFrom_163 (by decide) ?_
                  exact g_sub [1, 2, 3, 4, 5, 6] rfl (J15 (0 : Int64) _)
            · refine g_ldc2 144 X dX8_stillFrom_141 rfl conX8_469 ?_
              refine g_aload_n 145 X 1 dX8_stillFrom_144 rfl rfl rfl ?_
              refine g_aload_n 146 X 2 dX8_stillFrom_145 rfl rfl rfl ?_
              refine g_aload_n 147 X 3 dX8_stillFrom_146 rfl rfl rfl ?_
              refine g_iload_n 148 X 4 dX8_stillFrom_147 rfl rfl rfl ?_
              refine g_iconst 149 X dX8_stillFrom_148 rfl ci_1 ?_
              refine g_iadd 150 X dX8_stillFrom_149 rfl ?_
              refine g_iload 152 X 6 dX8_stillFrom_150 rfl rfl ?_
              refine g_cSl5 155 X (ihr0 _ ht1 _ ht2 _ _ _) mfX8_stillFrom msX8_stillFrom lkX8_454 (Nat.le_of_ble_eq_true rfl) dX8_stillFrom_152 rfl (fun r23 S24 => ?_)
              refine g_lmul 156 X dX8_stillFrom_155 rfl ?_
              exact g_lret X dX8_stillFrom_156 rfl
          · refine g_icmp_ge 128 124 X dX8_stillFrom_121 (by decide) rfl (fun _ => ?_) (fun _ => ?_)
            · refine g_iconst 129 X dX8_stillFrom_128 rfl ci_0 ?_
              exact g_sub [1, 2, 3, 4, 6, 0] rfl (J10 (0 : Int32) _)
            · refine g_iconst 125 X dX8_stillFrom_124 rfl ci_1 ?_
              refine g_goto 129 X dX8_stillFrom_125 (by decide) ?_
              exact g_sub [1, 2, 3, 4, 6, 0] rfl (J10 (1 : Int32) _)
        · refine g_aload_n 100 X 1 dX8_stillFrom_99 rfl rfl rfl ?_
          refine g_aload_n 101 X 2 dX8_stillFrom_100 rfl rfl rfl ?_
          refine g_aload_n 102 X 3 dX8_stillFrom_101 rfl rfl rfl ?_
          refine g_iload_n 103 X 4 dX8_stillFrom_102 rfl rfl rfl ?_
          refine g_iconst 104 X dX8_stillFrom_103 rfl ci_1 ?_
          refine g_iadd 105 X dX8_stillFrom_104 rfl ?_
          refine g_iload 107 X 0 dX8_stillFrom_105 rfl rfl ?_
          refine g_cSl5 110 X (ihr0 _ ht1 _ ht2 _ _ _) mfX8_stillFrom msX8_stillFrom lkX8_454 (Nat.le_of_ble_eq_true rfl) dX8_stillFrom_107 rfl (fun r25 S26 => ?_)
          exact g_lret X dX8_stillFrom_110 rfl
      · refine g_icmp_ge 85 81 X dX8_stillFrom_78 (by decide) rfl (fun _ => ?_) (fun _ => ?_)
        · refine g_iconst 86 X dX8_stillFrom_85 rfl ci_0 ?_
          exact g_sub [2, 3, 4, 5, 6, 1] rfl (J5 (0 : Int32) _)
        · refine g_iconst 82 X dX8_stillFrom_81 rfl ci_1 ?_
          refine g_goto 86 X dX8_stillFrom_82 (by decide) ?_
          exact g_sub [2, 3, 4, 5, 6, 1] rfl (J5 (1 : Int32) _)
    · refine g_iload 28 X 0 dX8_stillFrom_26 rfl rfl ?_
      refine g_joinK 36 (fun (t27 : Int64) => [(0, .ref (G.2.1 41)), (3, .int x3), (5, .int (S.1 41 0))]) (fun (t27 : Int64) => [.long t27]) (fun t27 S28 => ?_) (fun J29 => ?_)
      · refine g_lstore 38 X [(7, _), (0, _), (3, _), (5, _)] dX8_stillFrom_36 rfl (Nat.le_of_ble_eq_true rfl) rfl ?_
        refine g_iload_n 39 X 2 dX8_stillFrom_38 rfl rfl rfl ?_
        refine g_aload_n 40 X 1 dX8_stillFrom_39 rfl rfl rfl ?_
        refine g_geti 43 X rfl flX8_444 rfl dX8_stillFrom_40 rfl ?_
        refine g_icmp_gt 62 46 X dX8_stillFrom_43 (by decide) rfl (fun _ => ?_) (fun _ => ?_)
        · refine g_lload 64 X 0 dX8_stillFrom_62 rfl rfl ?_
          exact g_lret X dX8_stillFrom_64 rfl
        · refine g_iload 48 X 3 dX8_stillFrom_46 rfl rfl ?_
          refine g_i2l 49 X dX8_stillFrom_48 rfl ?_
          refine g_bipush 51 X dX8_stillFrom_49 rfl cb_16 ?_
          refine g_iload 53 X 3 dX8_stillFrom_51 rfl rfl ?_
          refine g_isub 54 X dX8_stillFrom_53 rfl ?_
          refine g_i2l 55 X dX8_stillFrom_54 rfl ?_
          refine g_lload 57 X 0 dX8_stillFrom_55 rfl rfl ?_
          refine g_lmul 58 X dX8_stillFrom_57 rfl ?_
          refine g_ladd 59 X dX8_stillFrom_58 rfl ?_
          refine g_goto 64 X dX8_stillFrom_59 (by decide) ?_
          exact g_lret X dX8_stillFrom_64 rfl
      · refine g_if_ne 35 31 X dX8_stillFrom_28 (by decide) rfl (fun _ => ?_) (fun _ => ?_)
        · refine g_lconst (v := (0 : Int64)) 36 X dX8_stillFrom_35 rfl (by decide) ?_
          exact g_sub [2, 5, 1] rfl (J29 (0 : Int64) _)
        · refine g_lconst (v := (1 : Int64)) 32 X dX8_stillFrom_31 rfl (by decide) ?_
          refine g_goto 36 X dX8_stillFrom_32 (by decide) ?_
          exact g_sub [2, 5, 1] rfl (J29 (1 : Int64) _)
def fX8_reckonChance (x1 : Int32) (x2 : Int32) (x3 : Int32) (S : Sg) : Option (Unit × Sg) :=
  gd (ix x3 20) (bd ((if (S.1 5 (Int32.toNatClampNeg x3)) = 0 then some ((0 : Int32), S) else gd (ix x3 20) (bd (fX0_withMates 12 (S.1 20 (Int32.toNatClampNeg x3)) S) (fun r4 S5 => some (r4, S5))))) (fun (t1 : Int32) S2 => bd (fX0_takeStrokes 24 12 S2) (fun r6 S7 => bd (fX0_settle 24 t1 S7) (fun r8 S9 => bd (fX0_freshStrengths 24 (sI (sI (sI (sI S9 41 0 x1) 41 1 (if x3 < x2 then x3 else x2)) 41 2 x3) 41 3 ((sI (sI (sI S9 41 0 x1) 41 1 (if x3 < x2 then x3 else x2)) 41 2 x3).1 0 15))) (fun r10 S11 => bd (fX8_stillFrom 24 24 5 (0 : Int32) r10 S11) (fun r12 S13 => bd (fX2_reduce r12 ((4 : Int32) * ((S13.1 41 1) + (1 : Int32))) S13) (fun r14 S15 => some ((), S15))))))))
set_option maxHeartbeats 4000000 in
set_option maxRecDepth 100000 in
theorem tX8_reckonChance (G : Gd) (l : Launch) (D : Nat) (x1 : Int32) (x2 : Int32) (x3 : Int32) (S : Sg) : Ct LC G l rV yX8_reckonChance cX8_reckonChance 7 none (D + 27) [.ref (G.2.1 0), .int x1, .int x2, .int x3] S (fX8_reckonChance x1 x2 x3 S) := by
  refine Ct.of (by decide) (Nat.le_of_ble_eq_true rfl) (fun Z hZ X => ?_)
  subst hZ
  show Go LC G Z 7 rV 0 [(0, .ref (G.2.1 0)), (1, .int x1), (2, .int x2), (3, .int x3)] [] S (fX8_reckonChance x1 x2 x3 S) kz
  unfold fX8_reckonChance
  refine g_aload_n 1 X 0 dX8_reckonChance_0 rfl rfl rfl ?_
  refine g_getr 4 X 5 rfl flX8_21 rfl dX8_reckonChance_1 rfl ?_
  refine g_iload_n 5 X 3 dX8_reckonChance_4 rfl rfl rfl ?_
  refine g_iald 6 X rfl dX8_reckonChance_5 rfl ?_
  refine g_joinK 29 (fun (t1 : Int32) => [(0, .ref (G.2.1 0)), (1, .int x1), (2, .int x2), (3, .int x3)]) (fun (t1 : Int32) => [.int t1]) (fun t1 S2 => ?_) (fun J3 => ?_)
  · refine g_istore 31 X [(4, _), (0, _), (1, _), (2, _), (3, _)] dX8_reckonChance_29 rfl (Nat.le_of_ble_eq_true rfl) rfl ?_
    refine g_aload_n 32 X 1 dX8_reckonChance_31 rfl rfl rfl ?_
    refine g_getr 35 X 24 rfl flX8_49 rfl dX8_reckonChance_32 rfl ?_
    refine g_aload_n 36 X 1 dX8_reckonChance_35 rfl rfl rfl ?_
    refine g_getr 39 X 12 rfl flX8_38 rfl dX8_reckonChance_36 rfl ?_
    refine g_cVv1 42 X (tX0_takeStrokes _ _ (D + 25) _ (Or.inr rfl) _ (Or.inl rfl) _) mfX0_takeStrokes miX0_takeStrokes lkX8_250 rfl rfl rfl (Nat.le_of_ble_eq_true rfl) dX8_reckonChance_39 rfl (fun r6 S7 => ?_)
    refine g_aload_n 43 X 1 dX8_reckonChance_42 rfl rfl rfl ?_
    refine g_getr 46 X 24 rfl flX8_49 rfl dX8_reckonChance_43 rfl ?_
    refine g_iload 48 X 0 dX8_reckonChance_46 rfl rfl ?_
    refine g_aload_n 49 X 1 dX8_reckonChance_48 rfl rfl rfl ?_
    refine g_getr 52 X 7 rfl flX8_31 rfl dX8_reckonChance_49 rfl ?_
    refine g_cVv2 55 X (tX0_settle _ _ (D + 24) _ (Or.inr rfl) _ _) mfX0_settle miX0_settle lkX8_257 rfl rfl rfl (Nat.le_of_ble_eq_true rfl) dX8_reckonChance_52 rfl (fun r8 S9 => ?_)
    refine g_aload_n 56 X 1 dX8_reckonChance_55 rfl rfl rfl ?_
    refine g_getr 59 X 41 rfl flX8_72 rfl dX8_reckonChance_56 rfl ?_
    refine g_iload_n 60 X 2 dX8_reckonChance_59 rfl rfl rfl ?_
    refine g_puti 63 X rfl flX8_441 fp_2_0 rfl dX8_reckonChance_60 rfl ?_
    refine g_aload_n 64 X 1 dX8_reckonChance_63 rfl rfl rfl ?_
    refine g_getr 67 X 41 rfl flX8_72 rfl dX8_reckonChance_64 rfl ?_
    refine g_iload_n 68 X 3 dX8_reckonChance_67 rfl rfl rfl ?_
    refine g_iload_n 69 X 4 dX8_reckonChance_68 rfl rfl rfl ?_
    refine g_mmin 72 X lkX8_331 mm_min.1 mm_min.2.1 mm_min.2.2 (Nat.le_of_ble_eq_true rfl) dX8_reckonChance_69 rfl ?_
    refine g_puti 75 X rfl flX8_444 fp_2_1 rfl dX8_reckonChance_72 rfl ?_
    refine g_aload_n 76 X 1 dX8_reckonChance_75 rfl rfl rfl ?_
    refine g_getr 79 X 41 rfl flX8_72 rfl dX8_reckonChance_76 rfl ?_
    refine g_iload_n 80 X 4 dX8_reckonChance_79 rfl rfl rfl ?_
    refine g_puti 83 X rfl flX8_447 fp_2_2 rfl dX8_reckonChance_80 rfl ?_
    refine g_aload_n 84 X 1 dX8_reckonChance_83 rfl rfl rfl ?_
    refine g_getr 87 X 41 rfl flX8_72 rfl dX8_reckonChance_84 rfl ?_
    refine g_aload_n 88 X 1 dX8_reckonChance_87 rfl rfl rfl ?_
    refine g_geti 91 X rfl flX8_89 rfl dX8_reckonChance_88 rfl ?_
    refine g_puti 94 X rfl flX8_450 fp_2_3 rfl dX8_reckonChance_91 rfl ?_
    refine g_aload_n 95 X 1 dX8_reckonChance_94 rfl rfl rfl ?_
    refine g_getr 98 X 41 rfl flX8_72 rfl dX8_reckonChance_95 rfl ?_
    refine g_aload_n 99 X 1 dX8_reckonChance_98 rfl rfl rfl ?_
    refine g_getr 102 X 24 rfl flX8_49 rfl dX8_reckonChance_99 rfl ?_
    refine g_aload_n 103 X 1 dX8_reckonChance_102 rfl rfl rfl ?_
    refine g_getr 106 X 5 rfl flX8_21 rfl dX8_reckonChance_103 rfl ?_
    refine g_iconst 107 X dX8_reckonChance_106 rfl ci_0 ?_
    refine g_aload_n 108 X 1 dX8_reckonChance_107 rfl rfl rfl ?_
    refine g_getr 111 X 24 rfl flX8_49 rfl dX8_reckonChance_108 rfl ?_
    refine g_cVi0 114 X (tX0_freshStrengths _ _ (D + 26) _ (Or.inr rfl) _) mfX0_freshStrengths miX0_freshStrengths lkX8_451 rfl rfl rfl (Nat.le_of_ble_eq_true rfl) dX8_reckonChance_111 rfl (fun r10 S11 => ?_)
    refine g_cSl5 117 X (tX8_stillFrom _ _ (D) 24 _ (Or.inr rfl) _ (Or.inl rfl) _ _ _) mfX8_stillFrom msX8_stillFrom lkX8_454 (Nat.le_of_ble_eq_true rfl) dX8_reckonChance_114 rfl (fun r12 S13 => ?_)
    refine g_lstore 119 X [(5, _), (4, _), (0, _), (1, _), (2, _), (3, _)] dX8_reckonChance_117 rfl (Nat.le_of_ble_eq_true rfl) rfl ?_
    refine g_aload_n 120 X 2 dX8_reckonChance_119 rfl rfl rfl ?_
    refine g_getr 123 X 41 rfl flX8_72 rfl dX8_reckonChance_120 rfl ?_
    refine g_lload 125 X 0 dX8_reckonChance_123 rfl rfl ?_
    refine g_iconst 126 X dX8_reckonChance_125 rfl ci_4 ?_
    refine g_aload_n 127 X 2 dX8_reckonChance_126 rfl rfl rfl ?_
    refine g_getr 130 X 41 rfl flX8_72 rfl dX8_reckonChance_127 rfl ?_
    refine g_geti 133 X rfl flX8_444 rfl dX8_reckonChance_130 rfl ?_
    refine g_iconst 134 X dX8_reckonChance_133 rfl ci_1 ?_
    refine g_iadd 135 X dX8_reckonChance_134 rfl ?_
    refine g_imul 136 X dX8_reckonChance_135 rfl ?_
    refine g_cVv2 139 X (tX2_reduce _ _ (D + 26) _ _ _) mfX2_reduce miX2_reduce lkX8_458 rfl rfl rfl (Nat.le_of_ble_eq_true rfl) dX8_reckonChance_136 rfl (fun r14 S15 => ?_)
    exact g_vret X dX8_reckonChance_139 rfl
  · refine g_if_ne 13 9 X dX8_reckonChance_6 (by decide) rfl (fun _ => ?_) (fun _ => ?_)
    · refine g_aload_n 14 X 0 dX8_reckonChance_13 rfl rfl rfl ?_
      refine g_getr 17 X 12 rfl flX8_38 rfl dX8_reckonChance_14 rfl ?_
      refine g_aload_n 18 X 0 dX8_reckonChance_17 rfl rfl rfl ?_
      refine g_getr 21 X 12 rfl flX8_38 rfl dX8_reckonChance_18 rfl ?_
      refine g_getr 24 X 20 rfl flX8_435 rfl dX8_reckonChance_21 rfl ?_
      refine g_iload_n 25 X 3 dX8_reckonChance_24 rfl rfl rfl ?_
      refine g_iald 26 X rfl dX8_reckonChance_25 rfl ?_
      refine g_cVi1 29 X (tX0_withMates _ _ (D + 25) _ (Or.inl rfl) _ _) mfX0_withMates miX0_withMates lkX8_438 rfl rfl rfl (Nat.le_of_ble_eq_true rfl) dX8_reckonChance_26 rfl (fun r4 S5 => ?_)
      exact g_sub [0, 1, 2, 3] rfl (J3 r4 _)
    · refine g_iconst 10 X dX8_reckonChance_9 rfl ci_0 ?_
      refine g_goto 29 X dX8_reckonChance_10 (by decide) ?_
      exact g_sub [0, 1, 2, 3] rfl (J3 (0 : Int32) _)
def fX8_dryness (x1 : Int32) (x2 : Int32) (x3 : Int32) (x4 : Int32) (S : Sg) : Option (Int64 × Sg) :=
  (if x1 < 0 then some ((-9223372036854775806 : Int64), S) else (if (16 : Int32) < x1 then some ((-9223372036854775806 : Int64), S) else (if x2 < 0 then some ((-9223372036854775806 : Int64), S) else (if (9 : Int32) < x2 then some ((-9223372036854775806 : Int64), S) else bd (fX8_isDay x3 S) (fun r1 S2 => (if r1 = 0 then some ((-9223372036854775806 : Int64), S2) else bd (fX8_isEither x4 S2) (fun r3 S4 => (if r3 = 0 then some ((-9223372036854775806 : Int64), S4) else bd (fX8_bringUpToDate S4) (fun r5 S6 => bd (fX8_reckonChance x1 x2 x3 S6) (fun r7 S8 => (if x4 = 0 then some ((S8.2 41 4), S8) else some ((S8.2 41 5), S8))))))))))))
set_option maxHeartbeats 4000000 in
set_option maxRecDepth 100000 in
theorem tX8_dryness (G : Gd) (l : Launch) (D : Nat) (x1 : Int32) (x2 : Int32) (x3 : Int32) (x4 : Int32) (S : Sg) : Ct LC G l rL yX8_dryness cX8_dryness 5 (some .long) (D + 28) [.ref (G.2.1 0), .int x1, .int x2, .int x3, .int x4] S (fX8_dryness x1 x2 x3 x4 S) := by
  refine Ct.of (by decide) (Nat.le_of_ble_eq_true rfl) (fun Z hZ X => ?_)
  subst hZ
  show Go LC G Z 5 rL 0 [(0, .ref (G.2.1 0)), (1, .int x1), (2, .int x2), (3, .int x3), (4, .int x4)] [] S (fX8_dryness x1 x2 x3 x4 S) kz
  unfold fX8_dryness
  refine g_iload_n 1 X 1 dX8_dryness_0 rfl rfl rfl ?_
  refine g_if_lt 35 4 X dX8_dryness_1 (by decide) rfl (fun _ => ?_) (fun _ => ?_)
  · refine g_ldc2 38 X dX8_dryness_35 rfl conX8_286 ?_
    exact g_lret X dX8_dryness_38 rfl
  · refine g_iload_n 5 X 1 dX8_dryness_4 rfl rfl rfl ?_
    refine g_bipush 7 X dX8_dryness_5 rfl cb_16 ?_
    refine g_icmp_gt 35 10 X dX8_dryness_7 (by decide) rfl (fun _ => ?_) (fun _ => ?_)
    · refine g_ldc2 38 X dX8_dryness_35 rfl conX8_286 ?_
      exact g_lret X dX8_dryness_38 rfl
    · refine g_iload_n 11 X 2 dX8_dryness_10 rfl rfl rfl ?_
      refine g_if_lt 35 14 X dX8_dryness_11 (by decide) rfl (fun _ => ?_) (fun _ => ?_)
      · refine g_ldc2 38 X dX8_dryness_35 rfl conX8_286 ?_
        exact g_lret X dX8_dryness_38 rfl
      · refine g_iload_n 15 X 2 dX8_dryness_14 rfl rfl rfl ?_
        refine g_bipush 17 X dX8_dryness_15 rfl cb_9 ?_
        refine g_icmp_gt 35 20 X dX8_dryness_17 (by decide) rfl (fun _ => ?_) (fun _ => ?_)
        · refine g_ldc2 38 X dX8_dryness_35 rfl conX8_286 ?_
          exact g_lret X dX8_dryness_38 rfl
        · refine g_iload_n 21 X 3 dX8_dryness_20 rfl rfl rfl ?_
          refine g_cSi1 24 X (tX8_isDay _ _ (D + 27) _ _) mfX8_isDay msX8_isDay lkX8_121 (Nat.le_of_ble_eq_true rfl) dX8_dryness_21 rfl (fun r1 S2 => ?_)
          refine g_if_eq 35 27 X dX8_dryness_24 (by decide) rfl (fun _ => ?_) (fun _ => ?_)
          · refine g_ldc2 38 X dX8_dryness_35 rfl conX8_286 ?_
            exact g_lret X dX8_dryness_38 rfl
          · refine g_iload 29 X 4 dX8_dryness_27 rfl rfl ?_
            refine g_cSi1 32 X (tX8_isEither _ _ (D + 27) _ _) mfX8_isEither msX8_isEither lkX8_158 (Nat.le_of_ble_eq_true rfl) dX8_dryness_29 rfl (fun r3 S4 => ?_)
            refine g_if_ne 39 35 X dX8_dryness_32 (by decide) rfl (fun _ => ?_) (fun _ => ?_)
            · refine g_aload_n 40 X 0 dX8_dryness_39 rfl rfl rfl ?_
              refine g_cVv0 43 X (tX8_bringUpToDate _ _ (D + 23)  _) mfX8_bringUpToDate miX8_bringUpToDate lkX8_124 rfl rfl rfl (Nat.le_of_ble_eq_true rfl) dX8_dryness_40 rfl (fun r5 S6 => ?_)
              refine g_aload_n 44 X 0 dX8_dryness_43 rfl rfl rfl ?_
              refine g_iload_n 45 X 1 dX8_dryness_44 rfl rfl rfl ?_
              refine g_iload_n 46 X 2 dX8_dryness_45 rfl rfl rfl ?_
              refine g_iload_n 47 X 3 dX8_dryness_46 rfl rfl rfl ?_
              refine g_cVv3 50 X (tX8_reckonChance _ _ (D) _ _ _ _) mfX8_reckonChance miX8_reckonChance lkX8_288 rfl rfl rfl (Nat.le_of_ble_eq_true rfl) dX8_dryness_47 rfl (fun r7 S8 => ?_)
              refine g_iload 52 X 4 dX8_dryness_50 rfl rfl ?_
              refine g_if_ne 65 55 X dX8_dryness_52 (by decide) rfl (fun _ => ?_) (fun _ => ?_)
              · refine g_aload_n 66 X 0 dX8_dryness_65 rfl rfl rfl ?_
                refine g_getr 69 X 41 rfl flX8_72 rfl dX8_dryness_66 rfl ?_
                refine g_getl 72 X rfl flX8_296 rfl dX8_dryness_69 rfl ?_
                exact g_lret X dX8_dryness_72 rfl
              · refine g_aload_n 56 X 0 dX8_dryness_55 rfl rfl rfl ?_
                refine g_getr 59 X 41 rfl flX8_72 rfl dX8_dryness_56 rfl ?_
                refine g_getl 62 X rfl flX8_292 rfl dX8_dryness_59 rfl ?_
                refine g_goto 72 X dX8_dryness_62 (by decide) ?_
                exact g_lret X dX8_dryness_72 rfl
            · refine g_ldc2 38 X dX8_dryness_35 rfl conX8_286 ?_
              exact g_lret X dX8_dryness_38 rfl
def bX8_weather_31 (c2 : Int32) (rec : (Int32 × Int32) → Sg → Option ((Int32 × Int32) × Sg)) (a5 : Int32 × Int32) (S6 : Sg) : Option ((Int32 × Int32) × Sg) :=
  (if (20 : Int32) ≤ a5.2 then some ((a5.1, a5.2), S6) else bd ((if c2 ≤ a5.2 then some ((0 : Int32), S6) else some (((ush (((1103515245 : Int32) * a5.1) + (12345 : Int32)) (16 : Int32)) - (ush (((1103515245 : Int32) * a5.1) + (12345 : Int32)) (16 : Int32)) / (10 : Int32) * (10 : Int32)), S6))) (fun (t7 : Int32) S8 => gd (ix a5.2 20) (rec ((((1103515245 : Int32) * a5.1) + (12345 : Int32)), (a5.2 + (1 : Int32))) (sI S8 6 (Int32.toNatClampNeg a5.2) t7))))
def fX8_weather (x1 : Int32) (x2 : Int32) (x3 : Int32) (S : Sg) : Option (Int32 × Sg) :=
  (if x2 < (1 : Int32) then some ((-2 : Int32), S) else (if (20 : Int32) < x2 then some ((-2 : Int32), S) else bd (fX8_isEither x3 S) (fun r1 S2 => (if r1 = 0 then some ((-2 : Int32), S2) else bd (fX8_bringUpToDate S2) (fun r3 S4 => bd (lp (bX8_weather_31 x2) fl (x1, (0 : Int32)) S4) (fun (a13 : Int32 × Int32) S14 => bd (fX3_follow 33 12 6 (S14.1 0 15) S14) (fun r15 S16 => (if x3 = 0 then bd (fX3_total 33 S16) (fun r19 S20 => some (r19, S20)) else bd (fX3_daysWithSome 33 S16) (fun r17 S18 => some (r17, S18))))))))))
set_option maxHeartbeats 4000000 in
set_option maxRecDepth 100000 in
theorem tX8_weather (G : Gd) (l : Launch) (D : Nat) (x1 : Int32) (x2 : Int32) (x3 : Int32) (S : Sg) : Ct LC G l rI yX8_weather cX8_weather 6 (some .int) (D + 5) [.ref (G.2.1 0), .int x1, .int x2, .int x3] S (fX8_weather x1 x2 x3 S) := by
  refine Ct.of (by decide) (Nat.le_of_ble_eq_true rfl) (fun Z hZ X => ?_)
  subst hZ
  show Go LC G Z 6 rI 0 [(0, .ref (G.2.1 0)), (1, .int x1), (2, .int x2), (3, .int x3)] [] S (fX8_weather x1 x2 x3 S) kz
  unfold fX8_weather
  refine g_iload_n 1 X 2 dX8_weather_0 rfl rfl rfl ?_
  refine g_iconst 2 X dX8_weather_1 rfl ci_1 ?_
  refine g_icmp_lt 18 5 X dX8_weather_2 (by decide) rfl (fun _ => ?_) (fun _ => ?_)
  · refine g_bipush 20 X dX8_weather_18 rfl cb_m2 ?_
    exact g_iret X dX8_weather_20 rfl
  · refine g_iload_n 6 X 2 dX8_weather_5 rfl rfl rfl ?_
    refine g_bipush 8 X dX8_weather_6 rfl cb_20 ?_
    refine g_icmp_gt 18 11 X dX8_weather_8 (by decide) rfl (fun _ => ?_) (fun _ => ?_)
    · refine g_bipush 20 X dX8_weather_18 rfl cb_m2 ?_
      exact g_iret X dX8_weather_20 rfl
    · refine g_iload_n 12 X 3 dX8_weather_11 rfl rfl rfl ?_
      refine g_cSi1 15 X (tX8_isEither _ _ (D + 4) _ _) mfX8_isEither msX8_isEither lkX8_158 (Nat.le_of_ble_eq_true rfl) dX8_weather_12 rfl (fun r1 S2 => ?_)
      refine g_if_ne 21 18 X dX8_weather_15 (by decide) rfl (fun _ => ?_) (fun _ => ?_)
      · refine g_aload_n 22 X 0 dX8_weather_21 rfl rfl rfl ?_
        refine g_cVv0 25 X (tX8_bringUpToDate _ _ (D)  _) mfX8_bringUpToDate miX8_bringUpToDate lkX8_124 rfl rfl rfl (Nat.le_of_ble_eq_true rfl) dX8_weather_22 rfl (fun r3 S4 => ?_)
        refine g_iload_n 26 X 1 dX8_weather_25 rfl rfl rfl ?_
        refine g_istore 28 X [(4, _), (0, _), (1, _), (2, _), (3, _)] dX8_weather_26 rfl (Nat.le_of_ble_eq_true rfl) rfl ?_
        refine g_iconst 29 X dX8_weather_28 rfl ci_0 ?_
        refine g_istore 31 X [(5, _), (4, _), (0, _), (1, _), (2, _), (3, _)] dX8_weather_29 rfl (Nat.le_of_ble_eq_true rfl) rfl ?_
        refine g_joinK 81 (fun (a13 : Int32 × Int32) => [(0, .ref (G.2.1 0)), (3, .int x3)]) (fun (a13 : Int32 × Int32) => []) (fun a13 S14 => ?_) (fun J7 => ?_)
        · refine g_aload_n 82 X 0 dX8_weather_81 rfl rfl rfl ?_
          refine g_getr 85 X 33 rfl flX8_52 rfl dX8_weather_82 rfl ?_
          refine g_aload_n 86 X 0 dX8_weather_85 rfl rfl rfl ?_
          refine g_getr 89 X 12 rfl flX8_38 rfl dX8_weather_86 rfl ?_
          refine g_aload_n 90 X 0 dX8_weather_89 rfl rfl rfl ?_
          refine g_getr 93 X 6 rfl flX8_25 rfl dX8_weather_90 rfl ?_
          refine g_aload_n 94 X 0 dX8_weather_93 rfl rfl rfl ?_
          refine g_geti 97 X rfl flX8_89 rfl dX8_weather_94 rfl ?_
          refine g_cVv3 100 X (tX3_follow _ _ (D + 2) _ (Or.inr rfl) _ (Or.inl rfl) _ (Or.inr rfl) _ _) mfX3_follow miX3_follow lkX8_261 rfl rfl rfl (Nat.le_of_ble_eq_true rfl) dX8_weather_97 rfl (fun r15 S16 => ?_)
          refine g_iload_n 101 X 1 dX8_weather_100 rfl rfl rfl ?_
          refine g_if_ne 114 104 X dX8_weather_101 (by decide) rfl (fun _ => ?_) (fun _ => ?_)
          · refine g_aload_n 115 X 0 dX8_weather_114 rfl rfl rfl ?_
            refine g_getr 118 X 33 rfl flX8_52 rfl dX8_weather_115 rfl ?_
            refine g_cVi0 121 X (tX3_daysWithSome _ _ (D + 4) _ (Or.inr rfl) _) mfX3_daysWithSome miX3_daysWithSome lkX8_303 rfl rfl rfl (Nat.le_of_ble_eq_true rfl) dX8_weather_118 rfl (fun r17 S18 => ?_)
            exact g_iret X dX8_weather_121 rfl
          · refine g_aload_n 105 X 0 dX8_weather_104 rfl rfl rfl ?_
            refine g_getr 108 X 33 rfl flX8_52 rfl dX8_weather_105 rfl ?_
            refine g_cVi0 111 X (tX3_total _ _ (D + 2) _ (Or.inr rfl) _) mfX3_total miX3_total lkX8_300 rfl rfl rfl (Nat.le_of_ble_eq_true rfl) dX8_weather_108 rfl (fun r19 S20 => ?_)
            refine g_goto 121 X dX8_weather_111 (by decide) ?_
            exact g_iret X dX8_weather_121 rfl
        · refine g_sub [2, 4, 5, 1, 0] rfl (g_lp (fun (a5 : Int32 × Int32) => [(0, .ref (G.2.1 0)), (2, .int x2), (3, .int x3), (4, .int a5.1), (5, .int a5.2)]) (fun rec9 ih8 a5 S6 => ?_) fl (x1, (0 : Int32)) _)
          unfold bX8_weather_31
          refine g_iload 33 X 4 dX8_weather_31 rfl rfl ?_
          refine g_bipush 35 X dX8_weather_33 rfl cb_20 ?_
          refine g_icmp_ge 81 38 X dX8_weather_35 (by decide) rfl (fun _ => ?_) (fun _ => ?_)
          · exact g_sub [0, 2] rfl (J7 (a5.1, a5.2) _)
          · refine g_ldcw 41 X dX8_weather_38 rfl conX8_299 ?_
            refine g_iload 43 X 3 dX8_weather_41 rfl rfl ?_
            refine g_imul 44 X dX8_weather_43 rfl ?_
            refine g_sipush 47 X dX8_weather_44 rfl cs_12345 ?_
            refine g_iadd 48 X dX8_weather_47 rfl ?_
            refine g_istore 50 X [(4, _), (0, _), (2, _), (3, _), (5, _)] dX8_weather_48 rfl (Nat.le_of_ble_eq_true rfl) rfl ?_
            refine g_aload_n 51 X 1 dX8_weather_50 rfl rfl rfl ?_
            refine g_getr 54 X 6 rfl flX8_25 rfl dX8_weather_51 rfl ?_
            refine g_iload 56 X 4 dX8_weather_54 rfl rfl ?_
            refine g_iload 58 X 4 dX8_weather_56 rfl rfl ?_
            refine g_iload_n 59 X 2 dX8_weather_58 rfl rfl rfl ?_
            refine g_joinK 74 (fun (t10 : Int32) => [(0, .ref (G.2.1 0)), (2, .int x2), (3, .int x3), (4, .int (((1103515245 : Int32) * a5.1) + (12345 : Int32))), (5, .int a5.2)]) (fun (t10 : Int32) => [.int t10, .int a5.2, .ref (G.2.1 6)]) (fun t10 S11 => ?_) (fun J12 => ?_)
            · refine g_iast 75 X rfl dX8_weather_74 rfl ?_
              refine g_iinc 78 X 4 [(5, _), (0, _), (2, _), (3, _), (4, _)] dX8_weather_75 rfl rfl (ii_1 _) (Nat.le_of_ble_eq_true rfl) rfl ?_
              refine g_goto 31 X dX8_weather_78 (by decide) ?_
              exact g_sub [1, 2, 3, 4, 0] rfl (ih8 ((((1103515245 : Int32) * a5.1) + (12345 : Int32)), (a5.2 + (1 : Int32))) _)
            · refine g_icmp_ge 73 62 X dX8_weather_59 (by decide) rfl (fun _ => ?_) (fun _ => ?_)
              · refine g_iconst 74 X dX8_weather_73 rfl ci_0 ?_
                exact g_sub [1, 2, 3, 0, 4] rfl (J12 (0 : Int32) _)
              · refine g_iload 64 X 0 dX8_weather_62 rfl rfl ?_
                refine g_bipush 66 X dX8_weather_64 rfl cb_16 ?_
                refine g_iushr 67 X dX8_weather_66 rfl ?_
                refine g_bipush 69 X dX8_weather_67 rfl cb_10 ?_
                refine g_irem 70 X dX8_weather_69 rfl (by decide) ?_
                refine g_goto 74 X dX8_weather_70 (by decide) ?_
                exact g_sub [1, 2, 3, 0, 4] rfl (J12 ((ush (((1103515245 : Int32) * a5.1) + (12345 : Int32)) (16 : Int32)) - (ush (((1103515245 : Int32) * a5.1) + (12345 : Int32)) (16 : Int32)) / (10 : Int32) * (10 : Int32)) _)
      · refine g_bipush 20 X dX8_weather_18 rfl cb_m2 ?_
        exact g_iret X dX8_weather_20 rfl
def fX8_isForm (x0 : Int32) (S : Sg) : Option (Int32 × Sg) :=
  (if x0 < 0 then some ((0 : Int32), S) else (if (2 : Int32) < x0 then some ((0 : Int32), S) else some ((1 : Int32), S)))
set_option maxHeartbeats 4000000 in
set_option maxRecDepth 100000 in
theorem tX8_isForm (G : Gd) (l : Launch) (D : Nat) (x0 : Int32) (S : Sg) : Ct LC G l rI yX8_isForm cX8_isForm 1 (some .boolean) (D + 0) [.int x0] S (fX8_isForm x0 S) := by
  refine Ct.of (by decide) (Nat.le_of_ble_eq_true rfl) (fun Z hZ X => ?_)
  subst hZ
  show Go LC G Z 1 rI 0 [(0, .int x0)] [] S (fX8_isForm x0 S) kz
  unfold fX8_isForm
  refine g_iload_n 1 X 0 dX8_isForm_0 rfl rfl rfl ?_
  refine g_if_lt 13 4 X dX8_isForm_1 (by decide) rfl (fun _ => ?_) (fun _ => ?_)
  · refine g_iconst 14 X dX8_isForm_13 rfl ci_0 ?_
    exact g_zret X dX8_isForm_14 rfl rfl
  · refine g_iload_n 5 X 0 dX8_isForm_4 rfl rfl rfl ?_
    refine g_iconst 6 X dX8_isForm_5 rfl ci_2 ?_
    refine g_icmp_gt 13 9 X dX8_isForm_6 (by decide) rfl (fun _ => ?_) (fun _ => ?_)
    · refine g_iconst 14 X dX8_isForm_13 rfl ci_0 ?_
      exact g_zret X dX8_isForm_14 rfl rfl
    · refine g_iconst 10 X dX8_isForm_9 rfl ci_1 ?_
      refine g_goto 14 X dX8_isForm_10 (by decide) ?_
      exact g_zret X dX8_isForm_14 rfl rfl
def fX8_sheet (x1 : Int32) (x2 : Int32) (x3 : Int32) (S : Sg) : Option (Int32 × Sg) :=
  bd (fX8_isSheet x1 S) (fun r1 S2 => (if r1 = 0 then some ((-2 : Int32), S2) else bd (fX8_isForm x2 S2) (fun r3 S4 => (if r3 = 0 then some ((-2 : Int32), S4) else (if x3 ≤ (60 : Int32) then (if 0 ≤ x3 then gd (ix x1 4) (bd (fX5_renew (44 + 2 * Int32.toNatClampNeg x1) x2 x3 S4) (fun r6 S7 => some (x3, S7))) else bd (fX8_found (5 : Int32) S4) (fun r8 S9 => some (r8, S9))) else some ((-2 : Int32), S4))))))
set_option maxHeartbeats 4000000 in
set_option maxRecDepth 100000 in
theorem tX8_sheet (G : Gd) (l : Launch) (D : Nat) (x1 : Int32) (x2 : Int32) (x3 : Int32) (S : Sg) : Ct LC G l rI yX8_sheet cX8_sheet 4 (some .int) (D + 2) [.ref (G.2.1 0), .int x1, .int x2, .int x3] S (fX8_sheet x1 x2 x3 S) := by
  refine Ct.of (by decide) (Nat.le_of_ble_eq_true rfl) (fun Z hZ X => ?_)
  subst hZ
  show Go LC G Z 4 rI 0 [(0, .ref (G.2.1 0)), (1, .int x1), (2, .int x2), (3, .int x3)] [] S (fX8_sheet x1 x2 x3 S) kz
  unfold fX8_sheet
  refine g_iload_n 1 X 1 dX8_sheet_0 rfl rfl rfl ?_
  refine g_cSi1 4 X (tX8_isSheet _ _ (D + 1) _ _) mfX8_isSheet msX8_isSheet lkX8_161 (Nat.le_of_ble_eq_true rfl) dX8_sheet_1 rfl (fun r1 S2 => ?_)
  refine g_if_eq 20 7 X dX8_sheet_4 (by decide) rfl (fun _ => ?_) (fun _ => ?_)
  · refine g_bipush 22 X dX8_sheet_20 rfl cb_m2 ?_
    exact g_iret X dX8_sheet_22 rfl
  · refine g_iload_n 8 X 2 dX8_sheet_7 rfl rfl rfl ?_
    refine g_cSi1 11 X (tX8_isForm _ _ (D + 1) _ _) mfX8_isForm msX8_isForm lkX8_306 (Nat.le_of_ble_eq_true rfl) dX8_sheet_8 rfl (fun r3 S4 => ?_)
    refine g_if_eq 20 14 X dX8_sheet_11 (by decide) rfl (fun _ => ?_) (fun _ => ?_)
    · refine g_bipush 22 X dX8_sheet_20 rfl cb_m2 ?_
      exact g_iret X dX8_sheet_22 rfl
    · refine g_iload_n 15 X 3 dX8_sheet_14 rfl rfl rfl ?_
      refine g_bipush 17 X dX8_sheet_15 rfl cb_60 ?_
      refine g_icmp_le 23 20 X dX8_sheet_17 (by decide) rfl (fun _ => ?_) (fun _ => ?_)
      · refine g_iload_n 24 X 3 dX8_sheet_23 rfl rfl rfl ?_
        refine g_if_ge 33 27 X dX8_sheet_24 (by decide) rfl (fun _ => ?_) (fun _ => ?_)
        · refine g_aload_n 34 X 0 dX8_sheet_33 rfl rfl rfl ?_
          refine g_getr 37 X 42 rfl flX8_78 rfl dX8_sheet_34 rfl ?_
          refine g_iload_n 38 X 1 dX8_sheet_37 rfl rfl rfl ?_
          refine g_aald (b := 44) 39 X rfl dX8_sheet_38 rfl (fun hsh5 => ?_)
          refine g_iload_n 40 X 2 dX8_sheet_39 rfl rfl rfl ?_
          refine g_iload_n 41 X 3 dX8_sheet_40 rfl rfl rfl ?_
          refine g_cVv2 44 X (tX5_renew _ _ (D) _ (isSheet_i hsh5) _ _ _) mfX5_renew miX5_renew lkX8_309 (sSheet (isSheet_i hsh5)) rfl rfl (Nat.le_of_ble_eq_true rfl) dX8_sheet_41 rfl (fun r6 S7 => ?_)
          refine g_iload_n 45 X 3 dX8_sheet_44 rfl rfl rfl ?_
          exact g_iret X dX8_sheet_45 rfl
        · refine g_aload_n 28 X 0 dX8_sheet_27 rfl rfl rfl ?_
          refine g_iconst 29 X dX8_sheet_28 rfl ci_5 ?_
          refine g_cVi1 32 X (tX8_found _ _ (D + 1) _ _) mfX8_found miX8_found lkX8_167 rfl rfl rfl (Nat.le_of_ble_eq_true rfl) dX8_sheet_29 rfl (fun r8 S9 => ?_)
          exact g_iret X dX8_sheet_32 rfl
      · refine g_bipush 22 X dX8_sheet_20 rfl cb_m2 ?_
        exact g_iret X dX8_sheet_22 rfl
def fX8_lose (x1 : Int32) (S : Sg) : Option (Int32 × Sg) :=
  bd (fX8_isSheet x1 S) (fun r1 S2 => (if r1 = 0 then some ((-2 : Int32), S2) else gd (ix x1 4) ((if (S2.1 (44 + 2 * Int32.toNatClampNeg x1) 1) = 0 then gd (ix x1 4) (gd (ix x1 4) (some (((sI S2 (44 + 2 * Int32.toNatClampNeg x1) 1 (1 : Int32)).1 (44 + 2 * Int32.toNatClampNeg x1) 3), (sI S2 (44 + 2 * Int32.toNatClampNeg x1) 1 (1 : Int32))))) else bd (fX8_found (1 : Int32) S2) (fun r6 S7 => some (r6, S7))))))
set_option maxHeartbeats 4000000 in
set_option maxRecDepth 100000 in
theorem tX8_lose (G : Gd) (l : Launch) (D : Nat) (x1 : Int32) (S : Sg) : Ct LC G l rI yX8_lose cX8_lose 2 (some .int) (D + 1) [.ref (G.2.1 0), .int x1] S (fX8_lose x1 S) := by
  refine Ct.of (by decide) (Nat.le_of_ble_eq_true rfl) (fun Z hZ X => ?_)
  subst hZ
  show Go LC G Z 2 rI 0 [(0, .ref (G.2.1 0)), (1, .int x1)] [] S (fX8_lose x1 S) kz
  unfold fX8_lose
  refine g_iload_n 1 X 1 dX8_lose_0 rfl rfl rfl ?_
  refine g_cSi1 4 X (tX8_isSheet _ _ (D) _ _) mfX8_isSheet msX8_isSheet lkX8_161 (Nat.le_of_ble_eq_true rfl) dX8_lose_1 rfl (fun r1 S2 => ?_)
  refine g_if_ne 10 7 X dX8_lose_4 (by decide) rfl (fun _ => ?_) (fun _ => ?_)
  · refine g_aload_n 11 X 0 dX8_lose_10 rfl rfl rfl ?_
    refine g_getr 14 X 42 rfl flX8_78 rfl dX8_lose_11 rfl ?_
    refine g_iload_n 15 X 1 dX8_lose_14 rfl rfl rfl ?_
    refine g_aald (b := 44) 16 X rfl dX8_lose_15 rfl (fun hsh3 => ?_)
    refine g_geti 19 X (sSheet (isSheet_i hsh3)) flX8_164 rfl dX8_lose_16 rfl ?_
    refine g_if_eq 28 22 X dX8_lose_19 (by decide) rfl (fun _ => ?_) (fun _ => ?_)
    · refine g_aload_n 29 X 0 dX8_lose_28 rfl rfl rfl ?_
      refine g_getr 32 X 42 rfl flX8_78 rfl dX8_lose_29 rfl ?_
      refine g_iload_n 33 X 1 dX8_lose_32 rfl rfl rfl ?_
      refine g_aald (b := 44) 34 X rfl dX8_lose_33 rfl (fun hsh4 => ?_)
      refine g_iconst 35 X dX8_lose_34 rfl ci_1 ?_
      refine g_putz 38 X (sSheet (isSheet_i hsh4)) flX8_164 fp_5_1 rfl rfl dX8_lose_35 rfl ?_
      refine g_aload_n 39 X 0 dX8_lose_38 rfl rfl rfl ?_
      refine g_getr 42 X 42 rfl flX8_78 rfl dX8_lose_39 rfl ?_
      refine g_iload_n 43 X 1 dX8_lose_42 rfl rfl rfl ?_
      refine g_aald (b := 44) 44 X rfl dX8_lose_43 rfl (fun hsh5 => ?_)
      refine g_geti 47 X (sSheet (isSheet_i hsh5)) flX8_171 rfl dX8_lose_44 rfl ?_
      exact g_iret X dX8_lose_47 rfl
    · refine g_aload_n 23 X 0 dX8_lose_22 rfl rfl rfl ?_
      refine g_iconst 24 X dX8_lose_23 rfl ci_1 ?_
      refine g_cVi1 27 X (tX8_found _ _ (D) _ _) mfX8_found miX8_found lkX8_167 rfl rfl rfl (Nat.le_of_ble_eq_true rfl) dX8_lose_24 rfl (fun r6 S7 => ?_)
      exact g_iret X dX8_lose_27 rfl
  · refine g_bipush 9 X dX8_lose_7 rfl cb_m2 ?_
    exact g_iret X dX8_lose_9 rfl
def fX8_lowestBits (x0 : Int32) (x1 : Int32) (S : Sg) : Option (Int32 × Sg) :=
  (if x0 = (0 : Int32) then some ((Int8.toInt32 (Int32.toInt8 x1)), S) else (if x0 = (1 : Int32) then some ((Int16.toInt32 (Int32.toInt16 x1)), S) else some (x1, S)))
set_option maxHeartbeats 4000000 in
set_option maxRecDepth 100000 in
theorem tX8_lowestBits (G : Gd) (l : Launch) (D : Nat) (x0 : Int32) (x1 : Int32) (S : Sg) : Ct LC G l rI yX8_lowestBits cX8_lowestBits 2 (some .int) (D + 0) [.int x0, .int x1] S (fX8_lowestBits x0 x1 S) := by
  refine Ct.of (by decide) (Nat.le_of_ble_eq_true rfl) (fun Z hZ X => ?_)
  subst hZ
  show Go LC G Z 2 rI 0 [(0, .int x0), (1, .int x1)] [] S (fX8_lowestBits x0 x1 S) kz
  unfold fX8_lowestBits
  refine g_iload_n 1 X 0 dX8_lowestBits_0 rfl rfl rfl ?_
  refine g_ite (fun hc1 => ?_) (fun hc1 => ?_)
  · refine g_lks (off := 27) 28 X dX8_lowestBits_1 (by decide) (by rw [hc1] <;> rfl) (by decide) ?_
    refine g_iload_n 29 X 1 dX8_lowestBits_28 rfl rfl rfl ?_
    refine g_i2b 30 X dX8_lowestBits_29 rfl ?_
    exact g_iret X dX8_lowestBits_30 rfl
  refine g_ite (fun hc2 => ?_) (fun hc2 => ?_)
  · refine g_lks (off := 30) 31 X dX8_lowestBits_1 (by decide) (by rw [hc2] <;> rfl) (by decide) ?_
    refine g_iload_n 32 X 1 dX8_lowestBits_31 rfl rfl rfl ?_
    refine g_i2s 33 X dX8_lowestBits_32 rfl ?_
    exact g_iret X dX8_lowestBits_33 rfl
  refine g_lks (off := 33) 34 X dX8_lowestBits_1 (by decide) (by show Op.lookupswitch.offset [(0, 27), (1, 30)] 33 (Int32.toInt x0) = 33; rw [lv_osw (a := 0) hc1 (by decide), lv_osw (a := 1) hc2 (by decide)] <;> rfl) (by decide) ?_
  refine g_iload_n 35 X 1 dX8_lowestBits_34 rfl rfl rfl ?_
  exact g_iret X dX8_lowestBits_35 rfl
def fX8_put (x1 : Int32) (x2 : Int32) (x3 : Int32) (x4 : Int32) (S : Sg) : Option (Int32 × Sg) :=
  bd (fX8_isSheet x1 S) (fun r1 S2 => (if r1 = 0 then some ((-2 : Int32), S2) else bd (fX8_isForm x2 S2) (fun r3 S4 => (if r3 = 0 then some ((-2 : Int32), S4) else gd (ix x1 4) (bd (fX5_findingAt (44 + 2 * Int32.toNatClampNeg x1) x2 x3 S4) (fun r6 S7 => (if r6 = 0 then gd (ix x1 4) (bd (fX8_lowestBits x2 x4 S7) (fun r9 S10 => gd (ix x3 60) (some ((1 : Int32), (sI S10 ((44 + 2 * Int32.toNatClampNeg x1) + 1) (Int32.toNatClampNeg x3) r9))))) else bd (fX8_found r6 S7) (fun r11 S12 => some (r11, S12)))))))))
set_option maxHeartbeats 4000000 in
set_option maxRecDepth 100000 in
theorem tX8_put (G : Gd) (l : Launch) (D : Nat) (x1 : Int32) (x2 : Int32) (x3 : Int32) (x4 : Int32) (S : Sg) : Ct LC G l rI yX8_put cX8_put 6 (some .int) (D + 1) [.ref (G.2.1 0), .int x1, .int x2, .int x3, .int x4] S (fX8_put x1 x2 x3 x4 S) := by
  refine Ct.of (by decide) (Nat.le_of_ble_eq_true rfl) (fun Z hZ X => ?_)
  subst hZ
  show Go LC G Z 6 rI 0 [(0, .ref (G.2.1 0)), (1, .int x1), (2, .int x2), (3, .int x3), (4, .int x4)] [] S (fX8_put x1 x2 x3 x4 S) kz
  unfold fX8_put
  refine g_iload_n 1 X 1 dX8_put_0 rfl rfl rfl ?_
  refine g_cSi1 4 X (tX8_isSheet _ _ (D) _ _) mfX8_isSheet msX8_isSheet lkX8_161 (Nat.le_of_ble_eq_true rfl) dX8_put_1 rfl (fun r1 S2 => ?_)
  refine g_if_eq 14 7 X dX8_put_4 (by decide) rfl (fun _ => ?_) (fun _ => ?_)
  · refine g_bipush 16 X dX8_put_14 rfl cb_m2 ?_
    exact g_iret X dX8_put_16 rfl
  · refine g_iload_n 8 X 2 dX8_put_7 rfl rfl rfl ?_
    refine g_cSi1 11 X (tX8_isForm _ _ (D) _ _) mfX8_isForm msX8_isForm lkX8_306 (Nat.le_of_ble_eq_true rfl) dX8_put_8 rfl (fun r3 S4 => ?_)
    refine g_if_ne 17 14 X dX8_put_11 (by decide) rfl (fun _ => ?_) (fun _ => ?_)
    · refine g_aload_n 18 X 0 dX8_put_17 rfl rfl rfl ?_
      refine g_getr 21 X 42 rfl flX8_78 rfl dX8_put_18 rfl ?_
      refine g_iload_n 22 X 1 dX8_put_21 rfl rfl rfl ?_
      refine g_aald (b := 44) 23 X rfl dX8_put_22 rfl (fun hsh5 => ?_)
      refine g_iload_n 24 X 2 dX8_put_23 rfl rfl rfl ?_
      refine g_iload_n 25 X 3 dX8_put_24 rfl rfl rfl ?_
      refine g_cVi2 28 X (tX5_findingAt _ _ (D) _ (isSheet_i hsh5) _ _ _) mfX5_findingAt miX5_findingAt lkX8_312 (sSheet (isSheet_i hsh5)) rfl rfl (Nat.le_of_ble_eq_true rfl) dX8_put_25 rfl (fun r6 S7 => ?_)
      refine g_istore 30 X [(5, _), (0, _), (1, _), (2, _), (3, _), (4, _)] dX8_put_28 rfl (Nat.le_of_ble_eq_true rfl) rfl ?_
      refine g_iload 32 X 0 dX8_put_30 rfl rfl ?_
      refine g_if_eq 42 35 X dX8_put_32 (by decide) rfl (fun _ => ?_) (fun _ => ?_)
      · refine g_aload_n 43 X 1 dX8_put_42 rfl rfl rfl ?_
        refine g_getr 46 X 42 rfl flX8_78 rfl dX8_put_43 rfl ?_
        refine g_iload_n 47 X 2 dX8_put_46 rfl rfl rfl ?_
        refine g_aald (b := 44) 48 X rfl dX8_put_47 rfl (fun hsh8 => ?_)
        refine g_getr 51 X ((44 + 2 * Int32.toNatClampNeg x1) + 1) (sSheet (isSheet_i hsh8)) flX8_172 rfl dX8_put_48 rfl ?_
        refine g_iload_n 52 X 4 dX8_put_51 rfl rfl rfl ?_
        refine g_iload_n 53 X 3 dX8_put_52 rfl rfl rfl ?_
        refine g_iload 55 X 5 dX8_put_53 rfl rfl ?_
        refine g_cSi2 58 X (tX8_lowestBits _ _ (D) _ _ _) mfX8_lowestBits msX8_lowestBits lkX8_315 (Nat.le_of_ble_eq_true rfl) dX8_put_55 rfl (fun r9 S10 => ?_)
        refine g_iast 59 X (sSheetA (isSheet_i hsh8)) dX8_put_58 rfl ?_
        refine g_iconst 60 X dX8_put_59 rfl ci_1 ?_
        exact g_iret X dX8_put_60 rfl
      · refine g_aload_n 36 X 1 dX8_put_35 rfl rfl rfl ?_
        refine g_iload 38 X 0 dX8_put_36 rfl rfl ?_
        refine g_cVi1 41 X (tX8_found _ _ (D) _ _) mfX8_found miX8_found lkX8_167 rfl rfl rfl (Nat.le_of_ble_eq_true rfl) dX8_put_38 rfl (fun r11 S12 => ?_)
        exact g_iret X dX8_put_41 rfl
    · refine g_bipush 16 X dX8_put_14 rfl cb_m2 ?_
      exact g_iret X dX8_put_16 rfl
def fX8_get (x1 : Int32) (x2 : Int32) (x3 : Int32) (S : Sg) : Option (Int32 × Sg) :=
  bd (fX8_isSheet x1 S) (fun r1 S2 => (if r1 = 0 then some ((-2147483648 : Int32), S2) else bd (fX8_isForm x2 S2) (fun r3 S4 => (if r3 = 0 then some ((-2147483648 : Int32), S4) else gd (ix x1 4) (bd (fX5_findingAt (44 + 2 * Int32.toNatClampNeg x1) x2 x3 S4) (fun r6 S7 => (if r6 = 0 then gd (ix x1 4) (gd (ix x3 60) (some ((S7.1 ((44 + 2 * Int32.toNatClampNeg x1) + 1) (Int32.toNatClampNeg x3)), S7))) else bd (fX8_found r6 S7) (fun r9 S10 => some ((-2147483648 : Int32), S10)))))))))
set_option maxHeartbeats 4000000 in
set_option maxRecDepth 100000 in
theorem tX8_get (G : Gd) (l : Launch) (D : Nat) (x1 : Int32) (x2 : Int32) (x3 : Int32) (S : Sg) : Ct LC G l rI yX8_get cX8_get 5 (some .int) (D + 1) [.ref (G.2.1 0), .int x1, .int x2, .int x3] S (fX8_get x1 x2 x3 S) := by
  refine Ct.of (by decide) (Nat.le_of_ble_eq_true rfl) (fun Z hZ X => ?_)
  subst hZ
  show Go LC G Z 5 rI 0 [(0, .ref (G.2.1 0)), (1, .int x1), (2, .int x2), (3, .int x3)] [] S (fX8_get x1 x2 x3 S) kz
  unfold fX8_get
  refine g_iload_n 1 X 1 dX8_get_0 rfl rfl rfl ?_
  refine g_cSi1 4 X (tX8_isSheet _ _ (D) _ _) mfX8_isSheet msX8_isSheet lkX8_161 (Nat.le_of_ble_eq_true rfl) dX8_get_1 rfl (fun r1 S2 => ?_)
  refine g_if_eq 14 7 X dX8_get_4 (by decide) rfl (fun _ => ?_) (fun _ => ?_)
  · refine g_ldcw 17 X dX8_get_14 rfl conX8_318 ?_
    exact g_iret X dX8_get_17 rfl
  · refine g_iload_n 8 X 2 dX8_get_7 rfl rfl rfl ?_
    refine g_cSi1 11 X (tX8_isForm _ _ (D) _ _) mfX8_isForm msX8_isForm lkX8_306 (Nat.le_of_ble_eq_true rfl) dX8_get_8 rfl (fun r3 S4 => ?_)
    refine g_if_ne 18 14 X dX8_get_11 (by decide) rfl (fun _ => ?_) (fun _ => ?_)
    · refine g_aload_n 19 X 0 dX8_get_18 rfl rfl rfl ?_
      refine g_getr 22 X 42 rfl flX8_78 rfl dX8_get_19 rfl ?_
      refine g_iload_n 23 X 1 dX8_get_22 rfl rfl rfl ?_
      refine g_aald (b := 44) 24 X rfl dX8_get_23 rfl (fun hsh5 => ?_)
      refine g_iload_n 25 X 2 dX8_get_24 rfl rfl rfl ?_
      refine g_iload_n 26 X 3 dX8_get_25 rfl rfl rfl ?_
      refine g_cVi2 29 X (tX5_findingAt _ _ (D) _ (isSheet_i hsh5) _ _ _) mfX5_findingAt miX5_findingAt lkX8_312 (sSheet (isSheet_i hsh5)) rfl rfl (Nat.le_of_ble_eq_true rfl) dX8_get_26 rfl (fun r6 S7 => ?_)
      refine g_istore 31 X [(4, _), (0, _), (1, _), (2, _), (3, _)] dX8_get_29 rfl (Nat.le_of_ble_eq_true rfl) rfl ?_
      refine g_iload 33 X 0 dX8_get_31 rfl rfl ?_
      refine g_if_eq 47 36 X dX8_get_33 (by decide) rfl (fun _ => ?_) (fun _ => ?_)
      · refine g_aload_n 48 X 1 dX8_get_47 rfl rfl rfl ?_
        refine g_getr 51 X 42 rfl flX8_78 rfl dX8_get_48 rfl ?_
        refine g_iload_n 52 X 2 dX8_get_51 rfl rfl rfl ?_
        refine g_aald (b := 44) 53 X rfl dX8_get_52 rfl (fun hsh8 => ?_)
        refine g_getr 56 X ((44 + 2 * Int32.toNatClampNeg x1) + 1) (sSheet (isSheet_i hsh8)) flX8_172 rfl dX8_get_53 rfl ?_
        refine g_iload_n 57 X 4 dX8_get_56 rfl rfl rfl ?_
        refine g_iald 58 X (sSheetA (isSheet_i hsh8)) dX8_get_57 rfl ?_
        exact g_iret X dX8_get_58 rfl
      · refine g_aload_n 37 X 1 dX8_get_36 rfl rfl rfl ?_
        refine g_iload 39 X 0 dX8_get_37 rfl rfl ?_
        refine g_cVi1 42 X (tX8_found _ _ (D) _ _) mfX8_found miX8_found lkX8_167 rfl rfl rfl (Nat.le_of_ble_eq_true rfl) dX8_get_39 rfl (fun r9 S10 => ?_)
        refine g_pop 43 X dX8_get_42 rfl rfl ?_
        refine g_ldcw 46 X dX8_get_43 rfl conX8_318 ?_
        exact g_iret X dX8_get_46 rfl
    · refine g_ldcw 17 X dX8_get_14 rfl conX8_318 ?_
      exact g_iret X dX8_get_17 rfl
def fX8_copy (x1 : Int32) (x2 : Int32) (x3 : Int32) (x4 : Int32) (x5 : Int32) (S : Sg) : Option (Int32 × Sg) :=
  bd (fX8_isSheet x1 S) (fun r1 S2 => (if r1 = 0 then some ((-2 : Int32), S2) else bd (fX8_isSheet x3 S2) (fun r3 S4 => (if r3 = 0 then some ((-2 : Int32), S4) else gd (ix x1 4) (gd (ix x3 4) ((if (S4.1 (44 + 2 * Int32.toNatClampNeg x1) 1) = 0 then (if (S4.1 (44 + 2 * Int32.toNatClampNeg x3) 1) = 0 then (if (S4.1 (44 + 2 * Int32.toNatClampNeg x1) 2) = (S4.1 (44 + 2 * Int32.toNatClampNeg x3) 2) then bd (fX5_holds (44 + 2 * Int32.toNatClampNeg x1) x2 x5 S4) (fun r9 S10 => (if r9 = 0 then bd (fX8_found (2 : Int32) S10) (fun r11 S12 => some (r11, S12)) else bd (fX5_holds (44 + 2 * Int32.toNatClampNeg x3) x4 x5 S10) (fun r13 S14 => (if r13 = 0 then bd (fX8_found (2 : Int32) S14) (fun r15 S16 => some (r15, S16)) else gd (cpok x2 x4 x5 60 60) (some ((1 : Int32), (sC S14 ((44 + 2 * Int32.toNatClampNeg x3) + 1) (va_cpy (S14.1 ((44 + 2 * Int32.toNatClampNeg x1) + 1)) (S14.1 ((44 + 2 * Int32.toNatClampNeg x3) + 1)) (Int32.toNatClampNeg x2) (Int32.toNatClampNeg x4) (Int32.toNatClampNeg x5))))))))) else bd (fX8_found (4 : Int32) S4) (fun r17 S18 => some (r17, S18))) else bd (fX8_found (1 : Int32) S4) (fun r19 S20 => some (r19, S20))) else bd (fX8_found (1 : Int32) S4) (fun r7 S8 => some (r7, S8)))))))))
set_option maxHeartbeats 4000000 in
set_option maxRecDepth 100000 in
theorem tX8_copy (G : Gd) (l : Launch) (D : Nat) (x1 : Int32) (x2 : Int32) (x3 : Int32) (x4 : Int32) (x5 : Int32) (S : Sg) : Ct LC G l rI yX8_copy cX8_copy 8 (some .int) (D + 1) [.ref (G.2.1 0), .int x1, .int x2, .int x3, .int x4, .int x5] S (fX8_copy x1 x2 x3 x4 x5 S) := by
  refine Ct.of (by decide) (Nat.le_of_ble_eq_true rfl) (fun Z hZ X => ?_)
  subst hZ
  show Go LC G Z 8 rI 0 [(0, .ref (G.2.1 0)), (1, .int x1), (2, .int x2), (3, .int x3), (4, .int x4), (5, .int x5)] [] S (fX8_copy x1 x2 x3 x4 x5 S) kz
  unfold fX8_copy
  refine g_iload_n 1 X 1 dX8_copy_0 rfl rfl rfl ?_
  refine g_cSi1 4 X (tX8_isSheet _ _ (D) _ _) mfX8_isSheet msX8_isSheet lkX8_161 (Nat.le_of_ble_eq_true rfl) dX8_copy_1 rfl (fun r1 S2 => ?_)
  refine g_if_eq 14 7 X dX8_copy_4 (by decide) rfl (fun _ => ?_) (fun _ => ?_)
  · refine g_bipush 16 X dX8_copy_14 rfl cb_m2 ?_
    exact g_iret X dX8_copy_16 rfl
  · refine g_iload_n 8 X 3 dX8_copy_7 rfl rfl rfl ?_
    refine g_cSi1 11 X (tX8_isSheet _ _ (D) _ _) mfX8_isSheet msX8_isSheet lkX8_161 (Nat.le_of_ble_eq_true rfl) dX8_copy_8 rfl (fun r3 S4 => ?_)
    refine g_if_ne 17 14 X dX8_copy_11 (by decide) rfl (fun _ => ?_) (fun _ => ?_)
    · refine g_aload_n 18 X 0 dX8_copy_17 rfl rfl rfl ?_
      refine g_getr 21 X 42 rfl flX8_78 rfl dX8_copy_18 rfl ?_
      refine g_iload_n 22 X 1 dX8_copy_21 rfl rfl rfl ?_
      refine g_aald (b := 44) 23 X rfl dX8_copy_22 rfl (fun hsh5 => ?_)
      refine g_astore 25 X [(6, _), (0, _), (1, _), (2, _), (3, _), (4, _), (5, _)] dX8_copy_23 rfl (Nat.le_of_ble_eq_true rfl) rfl ?_
      refine g_aload_n 26 X 1 dX8_copy_25 rfl rfl rfl ?_
      refine g_getr 29 X 42 rfl flX8_78 rfl dX8_copy_26 rfl ?_
      refine g_iload_n 30 X 4 dX8_copy_29 rfl rfl rfl ?_
      refine g_aald (b := 44) 31 X rfl dX8_copy_30 rfl (fun hsh6 => ?_)
      refine g_astore 33 X [(7, _), (6, _), (0, _), (1, _), (2, _), (3, _), (4, _), (5, _)] dX8_copy_31 rfl (Nat.le_of_ble_eq_true rfl) rfl ?_
      refine g_aload 35 X 1 dX8_copy_33 rfl rfl ?_
      refine g_geti 38 X (sSheet (isSheet_i hsh5)) flX8_164 rfl dX8_copy_35 rfl ?_
      refine g_if_ne 49 41 X dX8_copy_38 (by decide) rfl (fun _ => ?_) (fun _ => ?_)
      · refine g_aload_n 50 X 2 dX8_copy_49 rfl rfl rfl ?_
        refine g_iconst 51 X dX8_copy_50 rfl ci_1 ?_
        refine g_cVi1 54 X (tX8_found _ _ (D) _ _) mfX8_found miX8_found lkX8_167 rfl rfl rfl (Nat.le_of_ble_eq_true rfl) dX8_copy_51 rfl (fun r7 S8 => ?_)
        exact g_iret X dX8_copy_54 rfl
      · refine g_aload 43 X 0 dX8_copy_41 rfl rfl ?_
        refine g_geti 46 X (sSheet (isSheet_i hsh6)) flX8_164 rfl dX8_copy_43 rfl ?_
        refine g_if_eq 55 49 X dX8_copy_46 (by decide) rfl (fun _ => ?_) (fun _ => ?_)
        · refine g_aload 57 X 1 dX8_copy_55 rfl rfl ?_
          refine g_geti 60 X (sSheet (isSheet_i hsh5)) flX8_319 rfl dX8_copy_57 rfl ?_
          refine g_aload 62 X 0 dX8_copy_60 rfl rfl ?_
          refine g_geti 65 X (sSheet (isSheet_i hsh6)) flX8_319 rfl dX8_copy_62 rfl ?_
          refine g_icmp_eq 74 68 X dX8_copy_65 (by decide) rfl (fun _ => ?_) (fun _ => ?_)
          · refine g_aload 76 X 1 dX8_copy_74 rfl rfl ?_
            refine g_iload_n 77 X 4 dX8_copy_76 rfl rfl rfl ?_
            refine g_iload 79 X 7 dX8_copy_77 rfl rfl ?_
            refine g_cVi2 82 X (tX5_holds _ _ (D) _ (isSheet_i hsh5) _ _ _) mfX5_holds miX5_holds lkX8_322 (sSheet (isSheet_i hsh5)) rfl rfl (Nat.le_of_ble_eq_true rfl) dX8_copy_79 rfl (fun r9 S10 => ?_)
            refine g_if_eq 97 85 X dX8_copy_82 (by decide) rfl (fun _ => ?_) (fun _ => ?_)
            · refine g_aload_n 98 X 2 dX8_copy_97 rfl rfl rfl ?_
              refine g_iconst 99 X dX8_copy_98 rfl ci_2 ?_
              refine g_cVi1 102 X (tX8_found _ _ (D) _ _) mfX8_found miX8_found lkX8_167 rfl rfl rfl (Nat.le_of_ble_eq_true rfl) dX8_copy_99 rfl (fun r11 S12 => ?_)
              exact g_iret X dX8_copy_102 rfl
            · refine g_aload 87 X 0 dX8_copy_85 rfl rfl ?_
              refine g_iload 89 X 6 dX8_copy_87 rfl rfl ?_
              refine g_iload 91 X 7 dX8_copy_89 rfl rfl ?_
              refine g_cVi2 94 X (tX5_holds _ _ (D) _ (isSheet_i hsh6) _ _ _) mfX5_holds miX5_holds lkX8_322 (sSheet (isSheet_i hsh6)) rfl rfl (Nat.le_of_ble_eq_true rfl) dX8_copy_91 rfl (fun r13 S14 => ?_)
              refine g_if_ne 103 97 X dX8_copy_94 (by decide) rfl (fun _ => ?_) (fun _ => ?_)
              · refine g_aload 105 X 1 dX8_copy_103 rfl rfl ?_
                refine g_getr 108 X ((44 + 2 * Int32.toNatClampNeg x1) + 1) (sSheet (isSheet_i hsh5)) flX8_172 rfl dX8_copy_105 rfl ?_
                refine g_iload_n 109 X 4 dX8_copy_108 rfl rfl rfl ?_
                refine g_aload 111 X 0 dX8_copy_109 rfl rfl ?_
                refine g_getr 114 X ((44 + 2 * Int32.toNatClampNeg x3) + 1) (sSheet (isSheet_i hsh6)) flX8_172 rfl dX8_copy_111 rfl ?_
                refine g_iload 116 X 6 dX8_copy_114 rfl rfl ?_
                refine g_iload 118 X 7 dX8_copy_116 rfl rfl ?_
                refine g_copy 121 X (sSheetA (isSheet_i hsh5)) (sSheetA (isSheet_i hsh6)) lkX8_325 ac_nat ac_stat ac_ini (Nat.le_of_ble_eq_true rfl) dX8_copy_118 rfl ?_
                refine g_iconst 122 X dX8_copy_121 rfl ci_1 ?_
                exact g_iret X dX8_copy_122 rfl
              · refine g_aload_n 98 X 2 dX8_copy_97 rfl rfl rfl ?_
                refine g_iconst 99 X dX8_copy_98 rfl ci_2 ?_
                refine g_cVi1 102 X (tX8_found _ _ (D) _ _) mfX8_found miX8_found lkX8_167 rfl rfl rfl (Nat.le_of_ble_eq_true rfl) dX8_copy_99 rfl (fun r15 S16 => ?_)
                exact g_iret X dX8_copy_102 rfl
          · refine g_aload_n 69 X 2 dX8_copy_68 rfl rfl rfl ?_
            refine g_iconst 70 X dX8_copy_69 rfl ci_4 ?_
            refine g_cVi1 73 X (tX8_found _ _ (D) _ _) mfX8_found miX8_found lkX8_167 rfl rfl rfl (Nat.le_of_ble_eq_true rfl) dX8_copy_70 rfl (fun r17 S18 => ?_)
            exact g_iret X dX8_copy_73 rfl
        · refine g_aload_n 50 X 2 dX8_copy_49 rfl rfl rfl ?_
          refine g_iconst 51 X dX8_copy_50 rfl ci_1 ?_
          refine g_cVi1 54 X (tX8_found _ _ (D) _ _) mfX8_found miX8_found lkX8_167 rfl rfl rfl (Nat.le_of_ble_eq_true rfl) dX8_copy_51 rfl (fun r19 S20 => ?_)
          exact g_iret X dX8_copy_54 rfl
    · refine g_bipush 16 X dX8_copy_14 rfl cb_m2 ?_
      exact g_iret X dX8_copy_16 rfl
def bX8_write_51 (c1 : Int32) (c3 : Nat) (c4 : Int32) (rec : Int32 → Sg → Option ((Int32) × Sg)) (a6 : Int32) (S7 : Sg) : Option ((Int32) × Sg) :=
  (if c4 ≤ a6 then some (a6, S7) else bd (fX8_stands c1 a6 S7) (fun r8 S9 => gd (ix a6 60) (rec (a6 + (1 : Int32)) (sI S9 (c3 + 1) (Int32.toNatClampNeg a6) r8))))
def fX8_write (x1 : Int32) (x2 : Int32) (S : Sg) : Option (Int32 × Sg) :=
  bd (fX8_isDay x1 S) (fun r1 S2 => (if r1 = 0 then some ((-2 : Int32), S2) else bd (fX8_isSheet x2 S2) (fun r3 S4 => (if r3 = 0 then some ((-2 : Int32), S4) else gd (ix x2 4) ((if (S4.1 (44 + 2 * Int32.toNatClampNeg x2) 1) = 0 then bd (lp (bX8_write_51 x1 (44 + 2 * Int32.toNatClampNeg x2) (if (36 : Int32) < (S4.1 (44 + 2 * Int32.toNatClampNeg x2) 3) then (36 : Int32) else (S4.1 (44 + 2 * Int32.toNatClampNeg x2) 3))) fl (0 : Int32) S4) (fun (a13 : Int32) S14 => some ((if (36 : Int32) < (S4.1 (44 + 2 * Int32.toNatClampNeg x2) 3) then (36 : Int32) else (S4.1 (44 + 2 * Int32.toNatClampNeg x2) 3)), S14)) else bd (fX8_found (1 : Int32) S4) (fun r15 S16 => some (r15, S16))))))))
set_option maxHeartbeats 4000000 in
set_option maxRecDepth 100000 in
theorem tX8_write (G : Gd) (l : Launch) (D : Nat) (x1 : Int32) (x2 : Int32) (S : Sg) : Ct LC G l rI yX8_write cX8_write 6 (some .int) (D + 6) [.ref (G.2.1 0), .int x1, .int x2] S (fX8_write x1 x2 S) := by
  refine Ct.of (by decide) (Nat.le_of_ble_eq_true rfl) (fun Z hZ X => ?_)
  subst hZ
  show Go LC G Z 6 rI 0 [(0, .ref (G.2.1 0)), (1, .int x1), (2, .int x2)] [] S (fX8_write x1 x2 S) kz
  unfold fX8_write
  refine g_iload_n 1 X 1 dX8_write_0 rfl rfl rfl ?_
  refine g_cSi1 4 X (tX8_isDay _ _ (D + 5) _ _) mfX8_isDay msX8_isDay lkX8_121 (Nat.le_of_ble_eq_true rfl) dX8_write_1 rfl (fun r1 S2 => ?_)
  refine g_if_eq 14 7 X dX8_write_4 (by decide) rfl (fun _ => ?_) (fun _ => ?_)
  · refine g_bipush 16 X dX8_write_14 rfl cb_m2 ?_
    exact g_iret X dX8_write_16 rfl
  · refine g_iload_n 8 X 2 dX8_write_7 rfl rfl rfl ?_
    refine g_cSi1 11 X (tX8_isSheet _ _ (D + 5) _ _) mfX8_isSheet msX8_isSheet lkX8_161 (Nat.le_of_ble_eq_true rfl) dX8_write_8 rfl (fun r3 S4 => ?_)
    refine g_if_ne 17 14 X dX8_write_11 (by decide) rfl (fun _ => ?_) (fun _ => ?_)
    · refine g_aload_n 18 X 0 dX8_write_17 rfl rfl rfl ?_
      refine g_getr 21 X 42 rfl flX8_78 rfl dX8_write_18 rfl ?_
      refine g_iload_n 22 X 2 dX8_write_21 rfl rfl rfl ?_
      refine g_aald (b := 44) 23 X rfl dX8_write_22 rfl (fun hsh5 => ?_)
      refine g_astore_n 24 X [(3, _), (0, _), (1, _), (2, _)] dX8_write_23 rfl rfl (Nat.le_of_ble_eq_true rfl) rfl ?_
      refine g_aload_n 25 X 0 dX8_write_24 rfl rfl rfl ?_
      refine g_geti 28 X (sSheet (isSheet_i hsh5)) flX8_164 rfl dX8_write_25 rfl ?_
      refine g_if_eq 37 31 X dX8_write_28 (by decide) rfl (fun _ => ?_) (fun _ => ?_)
      · refine g_aload_n 38 X 0 dX8_write_37 rfl rfl rfl ?_
        refine g_geti 41 X (sSheet (isSheet_i hsh5)) flX8_171 rfl dX8_write_38 rfl ?_
        refine g_bipush 43 X dX8_write_41 rfl cb_36 ?_
        refine g_mmin 46 X lkX8_331 mm_min.1 mm_min.2.1 mm_min.2.2 (Nat.le_of_ble_eq_true rfl) dX8_write_43 rfl ?_
        refine g_istore 48 X [(4, _), (3, _), (0, _), (1, _), (2, _)] dX8_write_46 rfl (Nat.le_of_ble_eq_true rfl) rfl ?_
        refine g_iconst 49 X dX8_write_48 rfl ci_0 ?_
        refine g_istore 51 X [(5, _), (4, _), (3, _), (0, _), (1, _), (2, _)] dX8_write_49 rfl (Nat.le_of_ble_eq_true rfl) rfl ?_
        refine g_joinK 78 (fun (a13 : Int32) => [(4, .int (if (36 : Int32) < (S4.1 (44 + 2 * Int32.toNatClampNeg x2) 3) then (36 : Int32) else (S4.1 (44 + 2 * Int32.toNatClampNeg x2) 3)))]) (fun (a13 : Int32) => []) (fun a13 S14 => ?_) (fun J8 => ?_)
        · refine g_iload 80 X 0 dX8_write_78 rfl rfl ?_
          exact g_iret X dX8_write_80 rfl
        · refine g_sub [3, 4, 2, 1, 0] rfl (g_lp (fun (a6 : Int32) => [(0, .ref (G.2.1 0)), (1, .int x1), (3, .ref (G.2.1 (44 + 2 * Int32.toNatClampNeg x2))), (4, .int (if (36 : Int32) < (S4.1 (44 + 2 * Int32.toNatClampNeg x2) 3) then (36 : Int32) else (S4.1 (44 + 2 * Int32.toNatClampNeg x2) 3))), (5, .int a6)]) (fun rec10 ih9 a6 S7 => ?_) fl (0 : Int32) _)
          unfold bX8_write_51
          refine g_iload 53 X 4 dX8_write_51 rfl rfl ?_
          refine g_iload 55 X 3 dX8_write_53 rfl rfl ?_
          refine g_icmp_ge 78 58 X dX8_write_55 (by decide) rfl (fun _ => ?_) (fun _ => ?_)
          · exact g_sub [3] rfl (J8 a6 _)
          · refine g_aload_n 59 X 2 dX8_write_58 rfl rfl rfl ?_
            refine g_getr 62 X ((44 + 2 * Int32.toNatClampNeg x2) + 1) (sSheet (isSheet_i hsh5)) flX8_172 rfl dX8_write_59 rfl ?_
            refine g_iload 64 X 4 dX8_write_62 rfl rfl ?_
            refine g_aload_n 65 X 0 dX8_write_64 rfl rfl rfl ?_
            refine g_iload_n 66 X 1 dX8_write_65 rfl rfl rfl ?_
            refine g_iload 68 X 4 dX8_write_66 rfl rfl ?_
            refine g_cVi2 71 X (tX8_stands _ _ (D) _ _ _) mfX8_stands miX8_stands lkX8_336 rfl rfl rfl (Nat.le_of_ble_eq_true rfl) dX8_write_68 rfl (fun r11 S12 => ?_)
            refine g_iast 72 X (sSheetA (isSheet_i hsh5)) dX8_write_71 rfl ?_
            refine g_iinc 75 X 4 [(5, _), (0, _), (1, _), (3, _), (4, _)] dX8_write_72 rfl rfl (ii_1 _) (Nat.le_of_ble_eq_true rfl) rfl ?_
            refine g_goto 51 X dX8_write_75 (by decide) ?_
            exact g_sub [1, 2, 3, 4, 0] rfl (ih9 (a6 + (1 : Int32)) _)
      · refine g_aload_n 32 X 1 dX8_write_31 rfl rfl rfl ?_
        refine g_iconst 33 X dX8_write_32 rfl ci_1 ?_
        refine g_cVi1 36 X (tX8_found _ _ (D + 5) _ _) mfX8_found miX8_found lkX8_167 rfl rfl rfl (Nat.le_of_ble_eq_true rfl) dX8_write_33 rfl (fun r15 S16 => ?_)
        exact g_iret X dX8_write_36 rfl
    · refine g_bipush 16 X dX8_write_14 rfl cb_m2 ?_
      exact g_iret X dX8_write_16 rfl
def fX8_count (x1 : Int32) (S : Sg) : Option (Int32 × Sg) :=
  bd (fX8_bringUpToDate S) (fun r1 S2 => (if x1 = (0 : Int32) then some ((S2.1 0 14), S2) else (if x1 = (1 : Int32) then some ((S2.1 12 0), S2) else (if x1 = (2 : Int32) then some ((S2.1 1 1), S2) else (if x1 = (3 : Int32) then some ((S2.1 3 1), S2) else (if x1 = (4 : Int32) then some ((S2.1 7 4), S2) else (if x1 = (5 : Int32) then some ((S2.1 7 5), S2) else (if x1 = (6 : Int32) then bd (fX3_total 21 S2) (fun r12 S13 => some (r12, S13)) else (if x1 = (7 : Int32) then some ((S2.1 36 3), S2) else (if x1 = (8 : Int32) then some ((S2.1 0 16), S2) else some ((-2 : Int32), S2)))))))))))
set_option maxHeartbeats 4000000 in
set_option maxRecDepth 100000 in
theorem tX8_count (G : Gd) (l : Launch) (D : Nat) (x1 : Int32) (S : Sg) : Ct LC G l rI yX8_count cX8_count 2 (some .int) (D + 5) [.ref (G.2.1 0), .int x1] S (fX8_count x1 S) := by
  refine Ct.of (by decide) (Nat.le_of_ble_eq_true rfl) (fun Z hZ X => ?_)
  subst hZ
  show Go LC G Z 2 rI 0 [(0, .ref (G.2.1 0)), (1, .int x1)] [] S (fX8_count x1 S) kz
  unfold fX8_count
  refine g_aload_n 1 X 0 dX8_count_0 rfl rfl rfl ?_
  refine g_cVv0 4 X (tX8_bringUpToDate _ _ (D)  _) mfX8_bringUpToDate miX8_bringUpToDate lkX8_124 rfl rfl rfl (Nat.le_of_ble_eq_true rfl) dX8_count_1 rfl (fun r1 S2 => ?_)
  refine g_iload_n 5 X 1 dX8_count_4 rfl rfl rfl ?_
  refine g_ite (fun hc3 => ?_) (fun hc3 => ?_)
  · refine g_tin 56 X (0 : Int32) hc3 dX8_count_5 (by decide) (by decide) rfl (by decide) ?_
    refine g_aload_n 57 X 0 dX8_count_56 rfl rfl rfl ?_
    refine g_geti 60 X rfl flX8_85 rfl dX8_count_57 rfl ?_
    exact g_iret X dX8_count_60 rfl
  refine g_ite (fun hc4 => ?_) (fun hc4 => ?_)
  · refine g_tin 61 X (1 : Int32) hc4 dX8_count_5 (by decide) (by decide) rfl (by decide) ?_
    refine g_aload_n 62 X 0 dX8_count_61 rfl rfl rfl ?_
    refine g_getr 65 X 12 rfl flX8_38 rfl dX8_count_62 rfl ?_
    refine g_geti 68 X rfl flX8_221 rfl dX8_count_65 rfl ?_
    exact g_iret X dX8_count_68 rfl
  refine g_ite (fun hc5 => ?_) (fun hc5 => ?_)
  · refine g_tin 69 X (2 : Int32) hc5 dX8_count_5 (by decide) (by decide) rfl (by decide) ?_
    refine g_aload_n 70 X 0 dX8_count_69 rfl rfl rfl ?_
    refine g_getr 73 X 1 rfl flX8_14 rfl dX8_count_70 rfl ?_
    refine g_geti 76 X (sText (Or.inl rfl)) flX8_111 rfl dX8_count_73 rfl ?_
    exact g_iret X dX8_count_76 rfl
  refine g_ite (fun hc6 => ?_) (fun hc6 => ?_)
  · refine g_tin 77 X (3 : Int32) hc6 dX8_count_5 (by decide) (by decide) rfl (by decide) ?_
    refine g_aload_n 78 X 0 dX8_count_77 rfl rfl rfl ?_
    refine g_getr 81 X 3 rfl flX8_18 rfl dX8_count_78 rfl ?_
    refine g_geti 84 X (sText (Or.inr rfl)) flX8_111 rfl dX8_count_81 rfl ?_
    exact g_iret X dX8_count_84 rfl
  refine g_ite (fun hc7 => ?_) (fun hc7 => ?_)
  · refine g_tin 85 X (4 : Int32) hc7 dX8_count_5 (by decide) (by decide) rfl (by decide) ?_
    refine g_aload_n 86 X 0 dX8_count_85 rfl rfl rfl ?_
    refine g_getr 89 X 7 rfl flX8_31 rfl dX8_count_86 rfl ?_
    refine g_geti 92 X rfl flX8_149 rfl dX8_count_89 rfl ?_
    exact g_iret X dX8_count_92 rfl
  refine g_ite (fun hc8 => ?_) (fun hc8 => ?_)
  · refine g_tin 93 X (5 : Int32) hc8 dX8_count_5 (by decide) (by decide) rfl (by decide) ?_
    refine g_aload_n 94 X 0 dX8_count_93 rfl rfl rfl ?_
    refine g_getr 97 X 7 rfl flX8_31 rfl dX8_count_94 rfl ?_
    refine g_geti 100 X rfl flX8_155 rfl dX8_count_97 rfl ?_
    exact g_iret X dX8_count_100 rfl
  refine g_ite (fun hc9 => ?_) (fun hc9 => ?_)
  · refine g_tin 101 X (6 : Int32) hc9 dX8_count_5 (by decide) (by decide) rfl (by decide) ?_
    refine g_aload_n 102 X 0 dX8_count_101 rfl rfl rfl ?_
    refine g_getr 105 X 21 rfl flX8_45 rfl dX8_count_102 rfl ?_
    refine g_cVi0 108 X (tX3_total _ _ (D + 2) _ (Or.inl rfl) _) mfX3_total miX3_total lkX8_300 rfl rfl rfl (Nat.le_of_ble_eq_true rfl) dX8_count_105 rfl (fun r12 S13 => ?_)
    exact g_iret X dX8_count_108 rfl
  refine g_ite (fun hc10 => ?_) (fun hc10 => ?_)
  · refine g_tin 109 X (7 : Int32) hc10 dX8_count_5 (by decide) (by decide) rfl (by decide) ?_
    refine g_aload_n 110 X 0 dX8_count_109 rfl rfl rfl ?_
    refine g_getr 113 X 36 rfl flX8_58 rfl dX8_count_110 rfl ?_
    refine g_geti 116 X rfl flX8_242 rfl dX8_count_113 rfl ?_
    exact g_iret X dX8_count_116 rfl
  refine g_ite (fun hc11 => ?_) (fun hc11 => ?_)
  · refine g_tin 117 X (8 : Int32) hc11 dX8_count_5 (by decide) (by decide) rfl (by decide) ?_
    refine g_aload_n 118 X 0 dX8_count_117 rfl rfl rfl ?_
    refine g_geti 121 X rfl flX8_92 rfl dX8_count_118 rfl ?_
    exact g_iret X dX8_count_121 rfl
  refine g_tout 122 X dX8_count_5 (sw_out (fun k hk => ?_)) (by decide) ?_
  · have hk2 : k = 0 ∨ k = 1 ∨ k = 2 ∨ k = 3 ∨ k = 4 ∨ k = 5 ∨ k = 6 ∨ k = 7 ∨ k = 8 := by omega
    rcases hk2 with rfl | rfl | rfl | rfl | rfl | rfl | rfl | rfl | rfl
    · exact fun hq => hc3 (Int32.toInt_inj.mp (by rw [hq]; rfl))
    · exact fun hq => hc4 (Int32.toInt_inj.mp (by rw [hq]; rfl))
    · exact fun hq => hc5 (Int32.toInt_inj.mp (by rw [hq]; rfl))
    · exact fun hq => hc6 (Int32.toInt_inj.mp (by rw [hq]; rfl))
    · exact fun hq => hc7 (Int32.toInt_inj.mp (by rw [hq]; rfl))
    · exact fun hq => hc8 (Int32.toInt_inj.mp (by rw [hq]; rfl))
    · exact fun hq => hc9 (Int32.toInt_inj.mp (by rw [hq]; rfl))
    · exact fun hq => hc10 (Int32.toInt_inj.mp (by rw [hq]; rfl))
    · exact fun hq => hc11 (Int32.toInt_inj.mp (by rw [hq]; rfl))
  · refine g_bipush 124 X dX8_count_122 rfl cb_m2 ?_
    exact g_iret X dX8_count_124 rfl
def bX8_withDay_47 (c3 : Int32) (rec : (Int64 × Int32) → Sg → Option ((Int64 × Int32) × Sg)) (a7 : Int64 × Int32) (S8 : Sg) : Option ((Int64 × Int32) × Sg) :=
  (if (36 : Int32) ≤ a7.2 then some ((a7.1, a7.2), S8) else bd (fX8_stands c3 a7.2 S8) (fun r9 S10 => rec ((((31 : Int64) * a7.1) + (Int32.toInt64 r9)), (a7.2 + (1 : Int32))) S10))
def fX8_withDay (x1 : Int64) (x3 : Int32) (S : Sg) : Option (Int64 × Sg) :=
  bd (fX8_damp x3 S) (fun r1 S2 => bd (fX8_through x3 S2) (fun r3 S4 => bd (fX8_deep x3 S4) (fun r5 S6 => bd (lp (bX8_withDay_47 x3) fl ((((31 : Int64) * (((31 : Int64) * (((31 : Int64) * x1) + (Int32.toInt64 r1))) + (Int32.toInt64 r3))) + (Int32.toInt64 r5)), (0 : Int32)) S6) (fun (a14 : Int64 × Int32) S15 => some (a14.1, S15)))))
set_option maxHeartbeats 4000000 in
set_option maxRecDepth 100000 in
theorem tX8_withDay (G : Gd) (l : Launch) (D : Nat) (x1 : Int64) (x3 : Int32) (S : Sg) : Ct LC G l rL yX8_withDay cX8_withDay 7 (some .long) (D + 6) [.ref (G.2.1 0), .long x1, .int x3] S (fX8_withDay x1 x3 S) := by
  refine Ct.of (by decide) (Nat.le_of_ble_eq_true rfl) (fun Z hZ X => ?_)
  subst hZ
  show Go LC G Z 7 rL 0 [(0, .ref (G.2.1 0)), (1, .long x1), (3, .int x3)] [] S (fX8_withDay x1 x3 S) kz
  unfold fX8_withDay
  refine g_ldc2 3 X dX8_withDay_0 rfl conX8_341 ?_
  refine g_lload_n 4 X 1 dX8_withDay_3 rfl rfl rfl ?_
  refine g_lmul 5 X dX8_withDay_4 rfl ?_
  refine g_aload_n 6 X 0 dX8_withDay_5 rfl rfl rfl ?_
  refine g_iload_n 7 X 2 dX8_withDay_6 rfl rfl rfl ?_
  refine g_cVi1 10 X (tX8_damp _ _ (D) _ _) mfX8_damp miX8_damp lkX8_381 rfl rfl rfl (Nat.le_of_ble_eq_true rfl) dX8_withDay_7 rfl (fun r1 S2 => ?_)
  refine g_i2l 11 X dX8_withDay_10 rfl ?_
  refine g_ladd 12 X dX8_withDay_11 rfl ?_
  refine g_lstore 14 X [(4, _), (0, _), (1, _), (3, _)] dX8_withDay_12 rfl (Nat.le_of_ble_eq_true rfl) rfl ?_
  refine g_ldc2 17 X dX8_withDay_14 rfl conX8_341 ?_
  refine g_lload 19 X 0 dX8_withDay_17 rfl rfl ?_
  refine g_lmul 20 X dX8_withDay_19 rfl ?_
  refine g_aload_n 21 X 1 dX8_withDay_20 rfl rfl rfl ?_
  refine g_iload_n 22 X 3 dX8_withDay_21 rfl rfl rfl ?_
  refine g_cVi1 25 X (tX8_through _ _ (D) _ _) mfX8_through miX8_through lkX8_384 rfl rfl rfl (Nat.le_of_ble_eq_true rfl) dX8_withDay_22 rfl (fun r3 S4 => ?_)
  refine g_i2l 26 X dX8_withDay_25 rfl ?_
  refine g_ladd 27 X dX8_withDay_26 rfl ?_
  refine g_lstore 29 X [(4, _), (0, _), (1, _), (3, _)] dX8_withDay_27 rfl (Nat.le_of_ble_eq_true rfl) rfl ?_
  refine g_ldc2 32 X dX8_withDay_29 rfl conX8_341 ?_
  refine g_lload 34 X 0 dX8_withDay_32 rfl rfl ?_
  refine g_lmul 35 X dX8_withDay_34 rfl ?_
  refine g_aload_n 36 X 1 dX8_withDay_35 rfl rfl rfl ?_
  refine g_iload_n 37 X 3 dX8_withDay_36 rfl rfl rfl ?_
  refine g_cVi1 40 X (tX8_deep _ _ (D) _ _) mfX8_deep miX8_deep lkX8_387 rfl rfl rfl (Nat.le_of_ble_eq_true rfl) dX8_withDay_37 rfl (fun r5 S6 => ?_)
  refine g_i2l 41 X dX8_withDay_40 rfl ?_
  refine g_ladd 42 X dX8_withDay_41 rfl ?_
  refine g_lstore 44 X [(4, _), (0, _), (1, _), (3, _)] dX8_withDay_42 rfl (Nat.le_of_ble_eq_true rfl) rfl ?_
  refine g_iconst 45 X dX8_withDay_44 rfl ci_0 ?_
  refine g_istore 47 X [(6, _), (4, _), (0, _), (1, _), (3, _)] dX8_withDay_45 rfl (Nat.le_of_ble_eq_true rfl) rfl ?_
  refine g_joinK 77 (fun (a14 : Int64 × Int32) => [(4, .long a14.1)]) (fun (a14 : Int64 × Int32) => []) (fun a14 S15 => ?_) (fun J9 => ?_)
  · refine g_lload 79 X 0 dX8_withDay_77 rfl rfl ?_
    exact g_lret X dX8_withDay_79 rfl
  · refine g_sub [2, 4, 1, 0] rfl (g_lp (fun (a7 : Int64 × Int32) => [(0, .ref (G.2.1 0)), (3, .int x3), (4, .long a7.1), (6, .int a7.2)]) (fun rec11 ih10 a7 S8 => ?_) fl ((((31 : Int64) * (((31 : Int64) * (((31 : Int64) * x1) + (Int32.toInt64 r1))) + (Int32.toInt64 r3))) + (Int32.toInt64 r5)), (0 : Int32)) _)
    unfold bX8_withDay_47
    refine g_iload 49 X 3 dX8_withDay_47 rfl rfl ?_
    refine g_bipush 51 X dX8_withDay_49 rfl cb_36 ?_
    refine g_icmp_ge 77 54 X dX8_withDay_51 (by decide) rfl (fun _ => ?_) (fun _ => ?_)
    · exact g_sub [2] rfl (J9 (a7.1, a7.2) _)
    · refine g_ldc2 57 X dX8_withDay_54 rfl conX8_341 ?_
      refine g_lload 59 X 2 dX8_withDay_57 rfl rfl ?_
      refine g_lmul 60 X dX8_withDay_59 rfl ?_
      refine g_aload_n 61 X 0 dX8_withDay_60 rfl rfl rfl ?_
      refine g_iload_n 62 X 1 dX8_withDay_61 rfl rfl rfl ?_
      refine g_iload 64 X 3 dX8_withDay_62 rfl rfl ?_
      refine g_cVi2 67 X (tX8_stands _ _ (D) _ _ _) mfX8_stands miX8_stands lkX8_336 rfl rfl rfl (Nat.le_of_ble_eq_true rfl) dX8_withDay_64 rfl (fun r12 S13 => ?_)
      refine g_i2l 68 X dX8_withDay_67 rfl ?_
      refine g_ladd 69 X dX8_withDay_68 rfl ?_
      refine g_lstore 71 X [(4, _), (0, _), (3, _), (6, _)] dX8_withDay_69 rfl (Nat.le_of_ble_eq_true rfl) rfl ?_
      refine g_iinc 74 X 3 [(6, _), (4, _), (0, _), (3, _)] dX8_withDay_71 rfl rfl (ii_1 _) (Nat.le_of_ble_eq_true rfl) rfl ?_
      refine g_goto 47 X dX8_withDay_74 (by decide) ?_
      exact g_sub [2, 3, 1, 0] rfl (ih10 ((((31 : Int64) * a7.1) + (Int32.toInt64 r12)), (a7.2 + (1 : Int32))) _)
def bX8_withStroke_6 (c3 : Int32) (rec : (Int64 × Int32) → Sg → Option ((Int64 × Int32) × Sg)) (a1 : Int64 × Int32) (S2 : Sg) : Option ((Int64 × Int32) × Sg) :=
  (if (3 : Int32) < a1.2 then some ((a1.1, a1.2), S2) else bd (fX8_stroke c3 a1.2 S2) (fun r3 S4 => rec ((((31 : Int64) * a1.1) + (Int32.toInt64 r3)), (a1.2 + (1 : Int32))) S4))
def fX8_withStroke (x1 : Int64) (x3 : Int32) (S : Sg) : Option (Int64 × Sg) :=
  bd (lp (bX8_withStroke_6 x3) fl (x1, (0 : Int32)) S) (fun (a8 : Int64 × Int32) S9 => bd (fX8_state (9 : Int32) x3 (0 : Int32) S9) (fun r10 S11 => bd (fX8_state (9 : Int32) x3 (1 : Int32) S11) (fun r12 S13 => bd (fX8_state (19 : Int32) x3 (0 : Int32) S13) (fun r14 S15 => bd (fX8_state (19 : Int32) x3 (1 : Int32) S15) (fun r16 S17 => bd (fX8_up x3 S17) (fun r18 S19 => some ((((31 : Int64) * (((31 : Int64) * (((31 : Int64) * (((31 : Int64) * (((31 : Int64) * a8.1) + (Int32.toInt64 r10))) + (Int32.toInt64 r12))) + (Int32.toInt64 r14))) + (Int32.toInt64 r16))) + (Int32.toInt64 r18)), S19)))))))
set_option maxHeartbeats 4000000 in
set_option maxRecDepth 100000 in
theorem tX8_withStroke (G : Gd) (l : Launch) (D : Nat) (x1 : Int64) (x3 : Int32) (S : Sg) : Ct LC G l rL yX8_withStroke cX8_withStroke 7 (some .long) (D + 6) [.ref (G.2.1 0), .long x1, .int x3] S (fX8_withStroke x1 x3 S) := by
  refine Ct.of (by decide) (Nat.le_of_ble_eq_true rfl) (fun Z hZ X => ?_)
  subst hZ
  show Go LC G Z 7 rL 0 [(0, .ref (G.2.1 0)), (1, .long x1), (3, .int x3)] [] S (fX8_withStroke x1 x3 S) kz
  unfold fX8_withStroke
  refine g_lload_n 1 X 1 dX8_withStroke_0 rfl rfl rfl ?_
  refine g_lstore 3 X [(4, _), (0, _), (1, _), (3, _)] dX8_withStroke_1 rfl (Nat.le_of_ble_eq_true rfl) rfl ?_
  refine g_iconst 4 X dX8_withStroke_3 rfl ci_0 ?_
  refine g_istore 6 X [(6, _), (4, _), (0, _), (1, _), (3, _)] dX8_withStroke_4 rfl (Nat.le_of_ble_eq_true rfl) rfl ?_
  refine g_joinK 35 (fun (a8 : Int64 × Int32) => [(0, .ref (G.2.1 0)), (3, .int x3), (4, .long a8.1)]) (fun (a8 : Int64 × Int32) => []) (fun a8 S9 => ?_) (fun J3 => ?_)
  · refine g_ldc2 38 X dX8_withStroke_35 rfl conX8_341 ?_
    refine g_lload 40 X 2 dX8_withStroke_38 rfl rfl ?_
    refine g_lmul 41 X dX8_withStroke_40 rfl ?_
    refine g_aload_n 42 X 0 dX8_withStroke_41 rfl rfl rfl ?_
    refine g_bipush 44 X dX8_withStroke_42 rfl cb_9 ?_
    refine g_iload_n 45 X 1 dX8_withStroke_44 rfl rfl rfl ?_
    refine g_iconst 46 X dX8_withStroke_45 rfl ci_0 ?_
    refine g_cVi3 49 X (tX8_state _ _ (D) _ _ _ _) mfX8_state miX8_state lkX8_393 rfl rfl rfl (Nat.le_of_ble_eq_true rfl) dX8_withStroke_46 rfl (fun r10 S11 => ?_)
    refine g_i2l 50 X dX8_withStroke_49 rfl ?_
    refine g_ladd 51 X dX8_withStroke_50 rfl ?_
    refine g_lstore 53 X [(4, _), (0, _), (3, _)] dX8_withStroke_51 rfl (Nat.le_of_ble_eq_true rfl) rfl ?_
    refine g_ldc2 56 X dX8_withStroke_53 rfl conX8_341 ?_
    refine g_lload 58 X 0 dX8_withStroke_56 rfl rfl ?_
    refine g_lmul 59 X dX8_withStroke_58 rfl ?_
    refine g_aload_n 60 X 1 dX8_withStroke_59 rfl rfl rfl ?_
    refine g_bipush 62 X dX8_withStroke_60 rfl cb_9 ?_
    refine g_iload_n 63 X 2 dX8_withStroke_62 rfl rfl rfl ?_
    refine g_iconst 64 X dX8_withStroke_63 rfl ci_1 ?_
    refine g_cVi3 67 X (tX8_state _ _ (D) _ _ _ _) mfX8_state miX8_state lkX8_393 rfl rfl rfl (Nat.le_of_ble_eq_true rfl) dX8_withStroke_64 rfl (fun r12 S13 => ?_)
    refine g_i2l 68 X dX8_withStroke_67 rfl ?_
    refine g_ladd 69 X dX8_withStroke_68 rfl ?_
    refine g_lstore 71 X [(4, _), (0, _), (3, _)] dX8_withStroke_69 rfl (Nat.le_of_ble_eq_true rfl) rfl ?_
    refine g_ldc2 74 X dX8_withStroke_71 rfl conX8_341 ?_
    refine g_lload 76 X 0 dX8_withStroke_74 rfl rfl ?_
    refine g_lmul 77 X dX8_withStroke_76 rfl ?_
    refine g_aload_n 78 X 1 dX8_withStroke_77 rfl rfl rfl ?_
    refine g_bipush 80 X dX8_withStroke_78 rfl cb_19 ?_
    refine g_iload_n 81 X 2 dX8_withStroke_80 rfl rfl rfl ?_
    refine g_iconst 82 X dX8_withStroke_81 rfl ci_0 ?_
    refine g_cVi3 85 X (tX8_state _ _ (D) _ _ _ _) mfX8_state miX8_state lkX8_393 rfl rfl rfl (Nat.le_of_ble_eq_true rfl) dX8_withStroke_82 rfl (fun r14 S15 => ?_)
    refine g_i2l 86 X dX8_withStroke_85 rfl ?_
    refine g_ladd 87 X dX8_withStroke_86 rfl ?_
    refine g_lstore 89 X [(4, _), (0, _), (3, _)] dX8_withStroke_87 rfl (Nat.le_of_ble_eq_true rfl) rfl ?_
    refine g_ldc2 92 X dX8_withStroke_89 rfl conX8_341 ?_
    refine g_lload 94 X 0 dX8_withStroke_92 rfl rfl ?_
    refine g_lmul 95 X dX8_withStroke_94 rfl ?_
    refine g_aload_n 96 X 1 dX8_withStroke_95 rfl rfl rfl ?_
    refine g_bipush 98 X dX8_withStroke_96 rfl cb_19 ?_
    refine g_iload_n 99 X 2 dX8_withStroke_98 rfl rfl rfl ?_
    refine g_iconst 100 X dX8_withStroke_99 rfl ci_1 ?_
    refine g_cVi3 103 X (tX8_state _ _ (D) _ _ _ _) mfX8_state miX8_state lkX8_393 rfl rfl rfl (Nat.le_of_ble_eq_true rfl) dX8_withStroke_100 rfl (fun r16 S17 => ?_)
    refine g_i2l 104 X dX8_withStroke_103 rfl ?_
    refine g_ladd 105 X dX8_withStroke_104 rfl ?_
    refine g_lstore 107 X [(4, _), (0, _), (3, _)] dX8_withStroke_105 rfl (Nat.le_of_ble_eq_true rfl) rfl ?_
    refine g_ldc2 110 X dX8_withStroke_107 rfl conX8_341 ?_
    refine g_lload 112 X 0 dX8_withStroke_110 rfl rfl ?_
    refine g_lmul 113 X dX8_withStroke_112 rfl ?_
    refine g_aload_n 114 X 1 dX8_withStroke_113 rfl rfl rfl ?_
    refine g_iload_n 115 X 2 dX8_withStroke_114 rfl rfl rfl ?_
    refine g_cVi1 118 X (tX8_up _ _ (D) _ _) mfX8_up miX8_up lkX8_396 rfl rfl rfl (Nat.le_of_ble_eq_true rfl) dX8_withStroke_115 rfl (fun r18 S19 => ?_)
    refine g_i2l 119 X dX8_withStroke_118 rfl ?_
    refine g_ladd 120 X dX8_withStroke_119 rfl ?_
    exact g_lret X dX8_withStroke_120 rfl
  · refine g_sub [2, 4, 1, 0] rfl (g_lp (fun (a1 : Int64 × Int32) => [(0, .ref (G.2.1 0)), (3, .int x3), (4, .long a1.1), (6, .int a1.2)]) (fun rec5 ih4 a1 S2 => ?_) fl (x1, (0 : Int32)) _)
    unfold bX8_withStroke_6
    refine g_iload 8 X 3 dX8_withStroke_6 rfl rfl ?_
    refine g_iconst 9 X dX8_withStroke_8 rfl ci_3 ?_
    refine g_icmp_gt 35 12 X dX8_withStroke_9 (by decide) rfl (fun _ => ?_) (fun _ => ?_)
    · exact g_sub [0, 1, 2] rfl (J3 (a1.1, a1.2) _)
    · refine g_ldc2 15 X dX8_withStroke_12 rfl conX8_341 ?_
      refine g_lload 17 X 2 dX8_withStroke_15 rfl rfl ?_
      refine g_lmul 18 X dX8_withStroke_17 rfl ?_
      refine g_aload_n 19 X 0 dX8_withStroke_18 rfl rfl rfl ?_
      refine g_iload_n 20 X 1 dX8_withStroke_19 rfl rfl rfl ?_
      refine g_iload 22 X 3 dX8_withStroke_20 rfl rfl ?_
      refine g_cVi2 25 X (tX8_stroke _ _ (D) _ _ _) mfX8_stroke miX8_stroke lkX8_390 rfl rfl rfl (Nat.le_of_ble_eq_true rfl) dX8_withStroke_22 rfl (fun r6 S7 => ?_)
      refine g_i2l 26 X dX8_withStroke_25 rfl ?_
      refine g_ladd 27 X dX8_withStroke_26 rfl ?_
      refine g_lstore 29 X [(4, _), (0, _), (3, _), (6, _)] dX8_withStroke_27 rfl (Nat.le_of_ble_eq_true rfl) rfl ?_
      refine g_iinc 32 X 3 [(6, _), (4, _), (0, _), (3, _)] dX8_withStroke_29 rfl rfl (ii_1 _) (Nat.le_of_ble_eq_true rfl) rfl ?_
      refine g_goto 6 X dX8_withStroke_32 (by decide) ?_
      exact g_sub [2, 3, 1, 0] rfl (ih4 ((((31 : Int64) * a1.1) + (Int32.toInt64 r6)), (a1.2 + (1 : Int32))) _)
def fX8_withFewest (x1 : Int64) (S : Sg) : Option (Int64 × Sg) :=
  some ((((31 : Int64) * (((31 : Int64) * x1) + (Int32.toInt64 (S.1 40 0)))) + (Int32.toInt64 (S.1 40 1))), S)
set_option maxHeartbeats 4000000 in
set_option maxRecDepth 100000 in
theorem tX8_withFewest (G : Gd) (l : Launch) (D : Nat) (x1 : Int64) (S : Sg) : Ct LC G l rL yX8_withFewest cX8_withFewest 3 (some .long) (D + 0) [.ref (G.2.1 0), .long x1] S (fX8_withFewest x1 S) := by
  refine Ct.of (by decide) (Nat.le_of_ble_eq_true rfl) (fun Z hZ X => ?_)
  subst hZ
  show Go LC G Z 3 rL 0 [(0, .ref (G.2.1 0)), (1, .long x1)] [] S (fX8_withFewest x1 S) kz
  unfold fX8_withFewest
  refine g_ldc2 3 X dX8_withFewest_0 rfl conX8_341 ?_
  refine g_ldc2 6 X dX8_withFewest_3 rfl conX8_341 ?_
  refine g_lload_n 7 X 1 dX8_withFewest_6 rfl rfl rfl ?_
  refine g_lmul 8 X dX8_withFewest_7 rfl ?_
  refine g_aload_n 9 X 0 dX8_withFewest_8 rfl rfl rfl ?_
  refine g_getr 12 X 40 rfl flX8_65 rfl dX8_withFewest_9 rfl ?_
  refine g_geti 15 X rfl flX8_281 rfl dX8_withFewest_12 rfl ?_
  refine g_i2l 16 X dX8_withFewest_15 rfl ?_
  refine g_ladd 17 X dX8_withFewest_16 rfl ?_
  refine g_lmul 18 X dX8_withFewest_17 rfl ?_
  refine g_aload_n 19 X 0 dX8_withFewest_18 rfl rfl rfl ?_
  refine g_getr 22 X 40 rfl flX8_65 rfl dX8_withFewest_19 rfl ?_
  refine g_geti 25 X rfl flX8_399 rfl dX8_withFewest_22 rfl ?_
  refine g_i2l 26 X dX8_withFewest_25 rfl ?_
  refine g_ladd 27 X dX8_withFewest_26 rfl ?_
  exact g_lret X dX8_withFewest_27 rfl
