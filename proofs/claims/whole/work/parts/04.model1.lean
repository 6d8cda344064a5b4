def bX9_whenOf_20 (c1 : Int32) (rec : (Int32 × Int32 × Int32) → Sg → Option ((Int32 × Int32 × Int32) × Sg)) (a3 : Int32 × Int32 × Int32) (S4 : Sg) : Option ((Int32 × Int32 × Int32) × Sg) :=
  (if (20 : Int32) ≤ a3.2.2 then some ((a3.1, a3.2.1, a3.2.2), S4) else gd (ix c1 9) (bd (fX9_runs (sI S4 4 (Int32.toNatClampNeg c1) a3.2.2)) (fun r5 S6 => bd ((if a3.1 = (-1 : Int32) then some ((1 : Int32), S6) else bd (fX9_allUp S6) (fun r10 S11 => (if a3.2.1 ≤ r10 then some ((0 : Int32), S11) else some ((1 : Int32), S11))))) (fun (t7 : Int32) S8 => bd ((if t7 = 0 then some (a3.1, S8) else some (a3.2.2, S8))) (fun (t12 : Int32) S13 => bd ((if t7 = 0 then some (a3.2.1, S13) else bd (fX9_allUp S13) (fun r18 S19 => some (r18, S19)))) (fun (t15 : Int32) S16 => rec (t12, t15, (a3.2.2 + (1 : Int32))) S16))))))
def fX9_whenOf (x1 : Int32) (x2 : Int32) (S : Sg) : Option (Int32 × Sg) :=
  bd (fX9_asTold S) (fun r1 S2 => gd (ix x1 9) (bd (lp (bX9_whenOf_20 x1) fl ((-1 : Int32), (0 : Int32), (0 : Int32)) S2) (fun (a23 : Int32 × Int32 × Int32) S24 => gd (ix x1 9) ((if x2 = 0 then some (a23.1, (sI S24 4 (Int32.toNatClampNeg x1) (S2.1 4 (Int32.toNatClampNeg x1)))) else some (a23.2.1, (sI S24 4 (Int32.toNatClampNeg x1) (S2.1 4 (Int32.toNatClampNeg x1)))))))))
set_option maxHeartbeats 4000000 in
set_option maxRecDepth 100000 in
theorem tX9_whenOf (G : Gd) (l : Launch) (D : Nat) (x1 : Int32) (x2 : Int32) (S : Sg) : Ct LM G l rI yX9_whenOf cX9_whenOf 8 (some .int) (D + 7) [.ref (G.2.1 0), .int x1, .int x2] S (fX9_whenOf x1 x2 S) := by
  refine Ct.of (by decide) (Nat.le_of_ble_eq_true rfl) (fun Z hZ X => ?_)
  subst hZ
  show Go LM G Z 8 rI 0 [(0, .ref (G.2.1 0)), (1, .int x1), (2, .int x2)] [] S (fX9_whenOf x1 x2 S) kz
  unfold fX9_whenOf
  refine g_aload_n 1 X 0 dX9_whenOf_0 rfl rfl rfl ?_
  refine g_cVv0 4 X (tX9_asTold _ _ (D)  _) mfX9_asTold miX9_asTold lkX9_186 rfl rfl rfl (Nat.le_of_ble_eq_true rfl) dX9_whenOf_1 rfl (fun r1 S2 => ?_)
  refine g_aload_n 5 X 0 dX9_whenOf_4 rfl rfl rfl ?_
  refine g_getr 8 X 4 rfl flX9_19 rfl dX9_whenOf_5 rfl ?_
  refine g_iload_n 9 X 1 dX9_whenOf_8 rfl rfl rfl ?_
  refine g_iald 10 X rfl dX9_whenOf_9 rfl ?_
  refine g_istore_n 11 X [(3, _), (0, _), (1, _), (2, _)] dX9_whenOf_10 rfl rfl (Nat.le_of_ble_eq_true rfl) rfl ?_
  refine g_iconst 12 X dX9_whenOf_11 rfl ci_m1 ?_
  refine g_istore 14 X [(4, _), (3, _), (0, _), (1, _), (2, _)] dX9_whenOf_12 rfl (Nat.le_of_ble_eq_true rfl) rfl ?_
  refine g_iconst 15 X dX9_whenOf_14 rfl ci_0 ?_
  refine g_istore 17 X [(5, _), (4, _), (3, _), (0, _), (1, _), (2, _)] dX9_whenOf_15 rfl (Nat.le_of_ble_eq_true rfl) rfl ?_
  refine g_iconst 18 X dX9_whenOf_17 rfl ci_0 ?_
  refine g_istore 20 X [(6, _), (5, _), (4, _), (3, _), (0, _), (1, _), (2, _)] dX9_whenOf_18 rfl (Nat.le_of_ble_eq_true rfl) rfl ?_
  refine g_joinK 97 (fun (a23 : Int32 × Int32 × Int32) => [(0, .ref (G.2.1 0)), (1, .int x1), (2, .int x2), (3, .int (S2.1 4 (Int32.toNatClampNeg x1))), (4, .int a23.1), (5, .int a23.2.1)]) (fun (a23 : Int32 × Int32 × Int32) => []) (fun a23 S24 => ?_) (fun J5 => ?_)
  · refine g_aload_n 98 X 0 dX9_whenOf_97 rfl rfl rfl ?_
    refine g_getr 101 X 4 rfl flX9_19 rfl dX9_whenOf_98 rfl ?_
    refine g_iload_n 102 X 1 dX9_whenOf_101 rfl rfl rfl ?_
    refine g_iload_n 103 X 3 dX9_whenOf_102 rfl rfl rfl ?_
    refine g_iast 104 X rfl dX9_whenOf_103 rfl ?_
    refine g_iload_n 105 X 2 dX9_whenOf_104 rfl rfl rfl ?_
    refine g_if_ne 113 108 X dX9_whenOf_105 (by decide) rfl (fun _ => ?_) (fun _ => ?_)
    · refine g_iload 115 X 5 dX9_whenOf_113 rfl rfl ?_
      exact g_iret X dX9_whenOf_115 rfl
    · refine g_iload 110 X 4 dX9_whenOf_108 rfl rfl ?_
      refine g_goto 115 X dX9_whenOf_110 (by decide) ?_
      exact g_iret X dX9_whenOf_115 rfl
  · refine g_sub [4, 5, 6, 3, 2, 1, 0] rfl (g_lp (fun (a3 : Int32 × Int32 × Int32) => [(0, .ref (G.2.1 0)), (1, .int x1), (2, .int x2), (3, .int (S2.1 4 (Int32.toNatClampNeg x1))), (4, .int a3.1), (5, .int a3.2.1), (6, .int a3.2.2)]) (fun rec7 ih6 a3 S4 => ?_) fl ((-1 : Int32), (0 : Int32), (0 : Int32)) _)
    unfold bX9_whenOf_20
    refine g_iload 22 X 6 dX9_whenOf_20 rfl rfl ?_
    refine g_bipush 24 X dX9_whenOf_22 rfl cb_20 ?_
    refine g_icmp_ge 97 27 X dX9_whenOf_24 (by decide) rfl (fun _ => ?_) (fun _ => ?_)
    · exact g_sub [0, 1, 2, 3, 4, 5] rfl (J5 (a3.1, a3.2.1, a3.2.2) _)
    · refine g_aload_n 28 X 0 dX9_whenOf_27 rfl rfl rfl ?_
      refine g_getr 31 X 4 rfl flX9_19 rfl dX9_whenOf_28 rfl ?_
      refine g_iload_n 32 X 1 dX9_whenOf_31 rfl rfl rfl ?_
      refine g_iload 34 X 6 dX9_whenOf_32 rfl rfl ?_
      refine g_iast 35 X rfl dX9_whenOf_34 rfl ?_
      refine g_aload_n 36 X 0 dX9_whenOf_35 rfl rfl rfl ?_
      refine g_cVv0 39 X (tX9_runs _ _ (D + 3)  _) mfX9_runs miX9_runs lkX9_189 rfl rfl rfl (Nat.le_of_ble_eq_true rfl) dX9_whenOf_36 rfl (fun r8 S9 => ?_)
      refine g_iload 41 X 4 dX9_whenOf_39 rfl rfl ?_
      refine g_iconst 42 X dX9_whenOf_41 rfl ci_m1 ?_
      refine g_joinK 59 (fun (t10 : Int32) => [(0, .ref (G.2.1 0)), (1, .int x1), (2, .int x2), (3, .int (S2.1 4 (Int32.toNatClampNeg x1))), (4, .int a3.1), (5, .int a3.2.1), (6, .int a3.2.2)]) (fun (t10 : Int32) => [.int t10]) (fun t10 S11 => ?_) (fun J12 => ?_)
      · refine g_istore 61 X [(7, _), (0, _), (1, _), (2, _), (3, _), (4, _), (5, _), (6, _)] dX9_whenOf_59 rfl (Nat.le_of_ble_eq_true rfl) rfl ?_
        refine g_iload 63 X 0 dX9_whenOf_61 rfl rfl ?_
        refine g_joinK 73 (fun (t15 : Int32) => [(0, .ref (G.2.1 0)), (1, .int x1), (2, .int x2), (3, .int (S2.1 4 (Int32.toNatClampNeg x1))), (5, .int a3.2.1), (6, .int a3.2.2), (7, .int t10)]) (fun (t15 : Int32) => [.int t15]) (fun t15 S16 => ?_) (fun J17 => ?_)
        · refine g_istore 75 X [(4, _), (0, _), (1, _), (2, _), (3, _), (5, _), (6, _), (7, _)] dX9_whenOf_73 rfl (Nat.le_of_ble_eq_true rfl) rfl ?_
          refine g_iload 77 X 7 dX9_whenOf_75 rfl rfl ?_
          refine g_joinK 89 (fun (t18 : Int32) => [(0, .ref (G.2.1 0)), (1, .int x1), (2, .int x2), (3, .int (S2.1 4 (Int32.toNatClampNeg x1))), (4, .int t15), (6, .int a3.2.2)]) (fun (t18 : Int32) => [.int t18]) (fun t18 S19 => ?_) (fun J20 => ?_)
          · refine g_istore 91 X [(5, _), (0, _), (1, _), (2, _), (3, _), (4, _), (6, _)] dX9_whenOf_89 rfl (Nat.le_of_ble_eq_true rfl) rfl ?_
            refine g_iinc 94 X 6 [(6, _), (5, _), (0, _), (1, _), (2, _), (3, _), (4, _)] dX9_whenOf_91 rfl rfl (ii_1 _) (Nat.le_of_ble_eq_true rfl) rfl ?_
            refine g_goto 20 X dX9_whenOf_94 (by decide) ?_
            exact g_sub [2, 3, 4, 5, 6, 1, 0] rfl (ih6 (t15, t18, (a3.2.2 + (1 : Int32))) _)
          · refine g_if_eq 87 80 X dX9_whenOf_77 (by decide) rfl (fun _ => ?_) (fun _ => ?_)
            · refine g_iload 89 X 5 dX9_whenOf_87 rfl rfl ?_
              exact g_sub [1, 2, 3, 4, 0, 6] rfl (J20 a3.2.1 _)
            · refine g_aload_n 81 X 1 dX9_whenOf_80 rfl rfl rfl ?_
              refine g_cVi0 84 X (tX9_allUp _ _ (D + 5)  _) mfX9_allUp miX9_allUp lkX9_232 rfl rfl rfl (Nat.le_of_ble_eq_true rfl) dX9_whenOf_81 rfl (fun r21 S22 => ?_)
              refine g_goto 89 X dX9_whenOf_84 (by decide) ?_
              exact g_sub [1, 2, 3, 4, 0, 6] rfl (J20 r21 _)
        · refine g_if_eq 71 66 X dX9_whenOf_63 (by decide) rfl (fun _ => ?_) (fun _ => ?_)
          · refine g_iload 73 X 5 dX9_whenOf_71 rfl rfl ?_
            exact g_sub [1, 2, 3, 4, 6, 7, 0] rfl (J17 a3.1 _)
          · refine g_iload 68 X 7 dX9_whenOf_66 rfl rfl ?_
            refine g_goto 73 X dX9_whenOf_68 (by decide) ?_
            exact g_sub [1, 2, 3, 4, 6, 7, 0] rfl (J17 a3.2.2 _)
      · refine g_icmp_eq 54 45 X dX9_whenOf_42 (by decide) rfl (fun _ => ?_) (fun _ => ?_)
        · refine g_iconst 55 X dX9_whenOf_54 rfl ci_1 ?_
          refine g_goto 59 X dX9_whenOf_55 (by decide) ?_
          exact g_sub [0, 1, 2, 3, 4, 5, 6] rfl (J12 (1 : Int32) _)
        · refine g_aload_n 46 X 0 dX9_whenOf_45 rfl rfl rfl ?_
          refine g_cVi0 49 X (tX9_allUp _ _ (D + 5)  _) mfX9_allUp miX9_allUp lkX9_232 rfl rfl rfl (Nat.le_of_ble_eq_true rfl) dX9_whenOf_46 rfl (fun r13 S14 => ?_)
          refine g_iload 51 X 5 dX9_whenOf_49 rfl rfl ?_
          refine g_icmp_ge 58 54 X dX9_whenOf_51 (by decide) rfl (fun _ => ?_) (fun _ => ?_)
          · refine g_iconst 59 X dX9_whenOf_58 rfl ci_0 ?_
            exact g_sub [0, 1, 2, 3, 4, 5, 6] rfl (J12 (0 : Int32) _)
          · refine g_iconst 55 X dX9_whenOf_54 rfl ci_1 ?_
            refine g_goto 59 X dX9_whenOf_55 (by decide) ?_
            exact g_sub [0, 1, 2, 3, 4, 5, 6] rfl (J12 (1 : Int32) _)
def fX9_when (x1 : Int32) (x2 : Int32) (S : Sg) : Option (Int32 × Sg) :=
  bd (fX9_isStroke x1 S) (fun r1 S2 => (if r1 = 0 then some ((-2 : Int32), S2) else bd (fX9_in x2 (0 : Int32) (1 : Int32) S2) (fun r3 S4 => (if r3 = 0 then some ((-2 : Int32), S4) else bd (fX9_whenOf x1 x2 S4) (fun r5 S6 => some (r5, S6))))))
set_option maxHeartbeats 4000000 in
set_option maxRecDepth 100000 in
theorem tX9_when (G : Gd) (l : Launch) (D : Nat) (x1 : Int32) (x2 : Int32) (S : Sg) : Ct LM G l rI yX9_when cX9_when 3 (some .int) (D + 8) [.ref (G.2.1 0), .int x1, .int x2] S (fX9_when x1 x2 S) := by
  refine Ct.of (by decide) (Nat.le_of_ble_eq_true rfl) (fun Z hZ X => ?_)
  subst hZ
  show Go LM G Z 3 rI 0 [(0, .ref (G.2.1 0)), (1, .int x1), (2, .int x2)] [] S (fX9_when x1 x2 S) kz
  unfold fX9_when
  refine g_aload_n 1 X 0 dX9_when_0 rfl rfl rfl ?_
  refine g_iload_n 2 X 1 dX9_when_1 rfl rfl rfl ?_
  refine g_cVi1 5 X (tX9_isStroke _ _ (D + 1) _ _) mfX9_isStroke miX9_isStroke lkX9_140 rfl rfl rfl (Nat.le_of_ble_eq_true rfl) dX9_when_2 rfl (fun r1 S2 => ?_)
  refine g_if_eq 26 8 X dX9_when_5 (by decide) rfl (fun _ => ?_) (fun _ => ?_)
  · refine g_bipush 28 X dX9_when_26 rfl cb_m2 ?_
    exact g_iret X dX9_when_28 rfl
  · refine g_iload_n 9 X 2 dX9_when_8 rfl rfl rfl ?_
    refine g_iconst 10 X dX9_when_9 rfl ci_0 ?_
    refine g_iconst 11 X dX9_when_10 rfl ci_1 ?_
    refine g_cSi3 14 X (tX9_in _ _ (D + 7) _ _ _ _) mfX9_in msX9_in lkX9_95 (Nat.le_of_ble_eq_true rfl) dX9_when_11 rfl (fun r3 S4 => ?_)
    refine g_if_eq 26 17 X dX9_when_14 (by decide) rfl (fun _ => ?_) (fun _ => ?_)
    · refine g_bipush 28 X dX9_when_26 rfl cb_m2 ?_
      exact g_iret X dX9_when_28 rfl
    · refine g_aload_n 18 X 0 dX9_when_17 rfl rfl rfl ?_
      refine g_iload_n 19 X 1 dX9_when_18 rfl rfl rfl ?_
      refine g_iload_n 20 X 2 dX9_when_19 rfl rfl rfl ?_
      refine g_cVi2 23 X (tX9_whenOf _ _ (D) _ _ _) mfX9_whenOf miX9_whenOf lkX9_238 rfl rfl rfl (Nat.le_of_ble_eq_true rfl) dX9_when_20 rfl (fun r5 S6 => ?_)
      refine g_goto 28 X dX9_when_23 (by decide) ?_
      exact g_iret X dX9_when_28 rfl
def bX9_placeOf_20 (c1 : Int32) (rec : (Int32 × Int32 × Int32) → Sg → Option ((Int32 × Int32 × Int32) × Sg)) (a3 : Int32 × Int32 × Int32) (S4 : Sg) : Option ((Int32 × Int32 × Int32) × Sg) :=
  (if (36 : Int32) ≤ a3.2.2 then some ((a3.1, a3.2.1, a3.2.2), S4) else gd (ix c1 9) (bd (fX9_runs (sI S4 5 (Int32.toNatClampNeg c1) a3.2.2)) (fun r5 S6 => bd ((if a3.1 = (-1 : Int32) then some ((1 : Int32), S6) else bd (fX9_allUp S6) (fun r10 S11 => (if a3.2.1 ≤ r10 then some ((0 : Int32), S11) else some ((1 : Int32), S11))))) (fun (t7 : Int32) S8 => bd ((if t7 = 0 then some (a3.1, S8) else some (a3.2.2, S8))) (fun (t12 : Int32) S13 => bd ((if t7 = 0 then some (a3.2.1, S13) else bd (fX9_allUp S13) (fun r18 S19 => some (r18, S19)))) (fun (t15 : Int32) S16 => rec (t12, t15, (a3.2.2 + (1 : Int32))) S16))))))
def fX9_placeOf (x1 : Int32) (x2 : Int32) (S : Sg) : Option (Int32 × Sg) :=
  bd (fX9_asTold S) (fun r1 S2 => gd (ix x1 9) (bd (lp (bX9_placeOf_20 x1) fl ((-1 : Int32), (0 : Int32), (0 : Int32)) S2) (fun (a23 : Int32 × Int32 × Int32) S24 => gd (ix x1 9) ((if x2 = 0 then some (a23.1, (sI S24 5 (Int32.toNatClampNeg x1) (S2.1 5 (Int32.toNatClampNeg x1)))) else some (a23.2.1, (sI S24 5 (Int32.toNatClampNeg x1) (S2.1 5 (Int32.toNatClampNeg x1)))))))))
set_option maxHeartbeats 4000000 in
set_option maxRecDepth 100000 in
theorem tX9_placeOf (G : Gd) (l : Launch) (D : Nat) (x1 : Int32) (x2 : Int32) (S : Sg) : Ct LM G l rI yX9_placeOf cX9_placeOf 8 (some .int) (D + 7) [.ref (G.2.1 0), .int x1, .int x2] S (fX9_placeOf x1 x2 S) := by
  refine Ct.of (by decide) (Nat.le_of_ble_eq_true rfl) (fun Z hZ X => ?_)
  subst hZ
  show Go LM G Z 8 rI 0 [(0, .ref (G.2.1 0)), (1, .int x1), (2, .int x2)] [] S (fX9_placeOf x1 x2 S) kz
  unfold fX9_placeOf
  refine g_aload_n 1 X 0 dX9_placeOf_0 rfl rfl rfl ?_
  refine g_cVv0 4 X (tX9_asTold _ _ (D)  _) mfX9_asTold miX9_asTold lkX9_186 rfl rfl rfl (Nat.le_of_ble_eq_true rfl) dX9_placeOf_1 rfl (fun r1 S2 => ?_)
  refine g_aload_n 5 X 0 dX9_placeOf_4 rfl rfl rfl ?_
  refine g_getr 8 X 5 rfl flX9_22 rfl dX9_placeOf_5 rfl ?_
  refine g_iload_n 9 X 1 dX9_placeOf_8 rfl rfl rfl ?_
  refine g_iald 10 X rfl dX9_placeOf_9 rfl ?_
  refine g_istore_n 11 X [(3, _), (0, _), (1, _), (2, _)] dX9_placeOf_10 rfl rfl (Nat.le_of_ble_eq_true rfl) rfl ?_
  refine g_iconst 12 X dX9_placeOf_11 rfl ci_m1 ?_
  refine g_istore 14 X [(4, _), (3, _), (0, _), (1, _), (2, _)] dX9_placeOf_12 rfl (Nat.le_of_ble_eq_true rfl) rfl ?_
  refine g_iconst 15 X dX9_placeOf_14 rfl ci_0 ?_
  refine g_istore 17 X [(5, _), (4, _), (3, _), (0, _), (1, _), (2, _)] dX9_placeOf_15 rfl (Nat.le_of_ble_eq_true rfl) rfl ?_
  refine g_iconst 18 X dX9_placeOf_17 rfl ci_0 ?_
  refine g_istore 20 X [(6, _), (5, _), (4, _), (3, _), (0, _), (1, _), (2, _)] dX9_placeOf_18 rfl (Nat.le_of_ble_eq_true rfl) rfl ?_
  refine g_joinK 97 (fun (a23 : Int32 × Int32 × Int32) => [(0, .ref (G.2.1 0)), (1, .int x1), (2, .int x2), (3, .int (S2.1 5 (Int32.toNatClampNeg x1))), (4, .int a23.1), (5, .int a23.2.1)]) (fun (a23 : Int32 × Int32 × Int32) => []) (fun a23 S24 => ?_) (fun J5 => ?_)
  · refine g_aload_n 98 X 0 dX9_placeOf_97 rfl rfl rfl ?_
    refine g_getr 101 X 5 rfl flX9_22 rfl dX9_placeOf_98 rfl ?_
    refine g_iload_n 102 X 1 dX9_placeOf_101 rfl rfl rfl ?_
    refine g_iload_n 103 X 3 dX9_placeOf_102 rfl rfl rfl ?_
    refine g_iast 104 X rfl dX9_placeOf_103 rfl ?_
    refine g_iload_n 105 X 2 dX9_placeOf_104 rfl rfl rfl ?_
    refine g_if_ne 113 108 X dX9_placeOf_105 (by decide) rfl (fun _ => ?_) (fun _ => ?_)
    · refine g_iload 115 X 5 dX9_placeOf_113 rfl rfl ?_
      exact g_iret X dX9_placeOf_115 rfl
    · refine g_iload 110 X 4 dX9_placeOf_108 rfl rfl ?_
      refine g_goto 115 X dX9_placeOf_110 (by decide) ?_
      exact g_iret X dX9_placeOf_115 rfl
  · refine g_sub [4, 5, 6, 3, 2, 1, 0] rfl (g_lp (fun (a3 : Int32 × Int32 × Int32) => [(0, .ref (G.2.1 0)), (1, .int x1), (2, .int x2), (3, .int (S2.1 5 (Int32.toNatClampNeg x1))), (4, .int a3.1), (5, .int a3.2.1), (6, .int a3.2.2)]) (fun rec7 ih6 a3 S4 => ?_) fl ((-1 : Int32), (0 : Int32), (0 : Int32)) _)
    unfold bX9_placeOf_20
    refine g_iload 22 X 6 dX9_placeOf_20 rfl rfl ?_
    refine g_bipush 24 X dX9_placeOf_22 rfl cb_36 ?_
    refine g_icmp_ge 97 27 X dX9_placeOf_24 (by decide) rfl (fun _ => ?_) (fun _ => ?_)
    · exact g_sub [0, 1, 2, 3, 4, 5] rfl (J5 (a3.1, a3.2.1, a3.2.2) _)
    · refine g_aload_n 28 X 0 dX9_placeOf_27 rfl rfl rfl ?_
      refine g_getr 31 X 5 rfl flX9_22 rfl dX9_placeOf_28 rfl ?_
      refine g_iload_n 32 X 1 dX9_placeOf_31 rfl rfl rfl ?_
      refine g_iload 34 X 6 dX9_placeOf_32 rfl rfl ?_
      refine g_iast 35 X rfl dX9_placeOf_34 rfl ?_
      refine g_aload_n 36 X 0 dX9_placeOf_35 rfl rfl rfl ?_
      refine g_cVv0 39 X (tX9_runs _ _ (D + 3)  _) mfX9_runs miX9_runs lkX9_189 rfl rfl rfl (Nat.le_of_ble_eq_true rfl) dX9_placeOf_36 rfl (fun r8 S9 => ?_)
      refine g_iload 41 X 4 dX9_placeOf_39 rfl rfl ?_
      refine g_iconst 42 X dX9_placeOf_41 rfl ci_m1 ?_
      refine g_joinK 59 (fun (t10 : Int32) => [(0, .ref (G.2.1 0)), (1, .int x1), (2, .int x2), (3, .int (S2.1 5 (Int32.toNatClampNeg x1))), (4, .int a3.1), (5, .int a3.2.1), (6, .int a3.2.2)]) (fun (t10 : Int32) => [.int t10]) (fun t10 S11 => ?_) (fun J12 => ?_)
      · refine g_istore 61 X [(7, _), (0, _), (1, _), (2, _), (3, _), (4, _), (5, _), (6, _)] dX9_placeOf_59 rfl (Nat.le_of_ble_eq_true rfl) rfl ?_
        refine g_iload 63 X 0 dX9_placeOf_61 rfl rfl ?_
        refine g_joinK 73 (fun (t15 : Int32) => [(0, .ref (G.2.1 0)), (1, .int x1), (2, .int x2), (3, .int (S2.1 5 (Int32.toNatClampNeg x1))), (5, .int a3.2.1), (6, .int a3.2.2), (7, .int t10)]) (fun (t15 : Int32) => [.int t15]) (fun t15 S16 => ?_) (fun J17 => ?_)
        · refine g_istore 75 X [(4, _), (0, _), (1, _), (2, _), (3, _), (5, _), (6, _), (7, _)] dX9_placeOf_73 rfl (Nat.le_of_ble_eq_true rfl) rfl ?_
          refine g_iload 77 X 7 dX9_placeOf_75 rfl rfl ?_
          refine g_joinK 89 (fun (t18 : Int32) => [(0, .ref (G.2.1 0)), (1, .int x1), (2, .int x2), (3, .int (S2.1 5 (Int32.toNatClampNeg x1))), (4, .int t15), (6, .int a3.2.2)]) (fun (t18 : Int32) => [.int t18]) (fun t18 S19 => ?_) (fun J20 => ?_)
          · refine g_istore 91 X [(5, _), (0, _), (1, _), (2, _), (3, _), (4, _), (6, _)] dX9_placeOf_89 rfl (Nat.le_of_ble_eq_true rfl) rfl ?_
            refine g_iinc 94 X 6 [(6, _), (5, _), (0, _), (1, _), (2, _), (3, _), (4, _)] dX9_placeOf_91 rfl rfl (ii_1 _) (Nat.le_of_ble_eq_true rfl) rfl ?_
            refine g_goto 20 X dX9_placeOf_94 (by decide) ?_
            exact g_sub [2, 3, 4, 5, 6, 1, 0] rfl (ih6 (t15, t18, (a3.2.2 + (1 : Int32))) _)
          · refine g_if_eq 87 80 X dX9_placeOf_77 (by decide) rfl (fun _ => ?_) (fun _ => ?_)
            · refine g_iload 89 X 5 dX9_placeOf_87 rfl rfl ?_
              exact g_sub [1, 2, 3, 4, 0, 6] rfl (J20 a3.2.1 _)
            · refine g_aload_n 81 X 1 dX9_placeOf_80 rfl rfl rfl ?_
              refine g_cVi0 84 X (tX9_allUp _ _ (D + 5)  _) mfX9_allUp miX9_allUp lkX9_232 rfl rfl rfl (Nat.le_of_ble_eq_true rfl) dX9_placeOf_81 rfl (fun r21 S22 => ?_)
              refine g_goto 89 X dX9_placeOf_84 (by decide) ?_
              exact g_sub [1, 2, 3, 4, 0, 6] rfl (J20 r21 _)
        · refine g_if_eq 71 66 X dX9_placeOf_63 (by decide) rfl (fun _ => ?_) (fun _ => ?_)
          · refine g_iload 73 X 5 dX9_placeOf_71 rfl rfl ?_
            exact g_sub [1, 2, 3, 4, 6, 7, 0] rfl (J17 a3.1 _)
          · refine g_iload 68 X 7 dX9_placeOf_66 rfl rfl ?_
            refine g_goto 73 X dX9_placeOf_68 (by decide) ?_
            exact g_sub [1, 2, 3, 4, 6, 7, 0] rfl (J17 a3.2.2 _)
      · refine g_icmp_eq 54 45 X dX9_placeOf_42 (by decide) rfl (fun _ => ?_) (fun _ => ?_)
        · refine g_iconst 55 X dX9_placeOf_54 rfl ci_1 ?_
          refine g_goto 59 X dX9_placeOf_55 (by decide) ?_
          exact g_sub [0, 1, 2, 3, 4, 5, 6] rfl (J12 (1 : Int32) _)
        · refine g_aload_n 46 X 0 dX9_placeOf_45 rfl rfl rfl ?_
          refine g_cVi0 49 X (tX9_allUp _ _ (D + 5)  _) mfX9_allUp miX9_allUp lkX9_232 rfl rfl rfl (Nat.le_of_ble_eq_true rfl) dX9_placeOf_46 rfl (fun r13 S14 => ?_)
          refine g_iload 51 X 5 dX9_placeOf_49 rfl rfl ?_
          refine g_icmp_ge 58 54 X dX9_placeOf_51 (by decide) rfl (fun _ => ?_) (fun _ => ?_)
          · refine g_iconst 59 X dX9_placeOf_58 rfl ci_0 ?_
            exact g_sub [0, 1, 2, 3, 4, 5, 6] rfl (J12 (0 : Int32) _)
          · refine g_iconst 55 X dX9_placeOf_54 rfl ci_1 ?_
            refine g_goto 59 X dX9_placeOf_55 (by decide) ?_
            exact g_sub [0, 1, 2, 3, 4, 5, 6] rfl (J12 (1 : Int32) _)
def fX9_place (x1 : Int32) (x2 : Int32) (S : Sg) : Option (Int32 × Sg) :=
  bd (fX9_isStroke x1 S) (fun r1 S2 => (if r1 = 0 then some ((-2 : Int32), S2) else bd (fX9_in x2 (0 : Int32) (1 : Int32) S2) (fun r3 S4 => (if r3 = 0 then some ((-2 : Int32), S4) else bd (fX9_placeOf x1 x2 S4) (fun r5 S6 => some (r5, S6))))))
set_option maxHeartbeats 4000000 in
set_option maxRecDepth 100000 in
theorem tX9_place (G : Gd) (l : Launch) (D : Nat) (x1 : Int32) (x2 : Int32) (S : Sg) : Ct LM G l rI yX9_place cX9_place 3 (some .int) (D + 8) [.ref (G.2.1 0), .int x1, .int x2] S (fX9_place x1 x2 S) := by
  refine Ct.of (by decide) (Nat.le_of_ble_eq_true rfl) (fun Z hZ X => ?_)
  subst hZ
  show Go LM G Z 3 rI 0 [(0, .ref (G.2.1 0)), (1, .int x1), (2, .int x2)] [] S (fX9_place x1 x2 S) kz
  unfold fX9_place
  refine g_aload_n 1 X 0 dX9_place_0 rfl rfl rfl ?_
  refine g_iload_n 2 X 1 dX9_place_1 rfl rfl rfl ?_
  refine g_cVi1 5 X (tX9_isStroke _ _ (D + 1) _ _) mfX9_isStroke miX9_isStroke lkX9_140 rfl rfl rfl (Nat.le_of_ble_eq_true rfl) dX9_place_2 rfl (fun r1 S2 => ?_)
  refine g_if_eq 26 8 X dX9_place_5 (by decide) rfl (fun _ => ?_) (fun _ => ?_)
  · refine g_bipush 28 X dX9_place_26 rfl cb_m2 ?_
    exact g_iret X dX9_place_28 rfl
  · refine g_iload_n 9 X 2 dX9_place_8 rfl rfl rfl ?_
    refine g_iconst 10 X dX9_place_9 rfl ci_0 ?_
    refine g_iconst 11 X dX9_place_10 rfl ci_1 ?_
    refine g_cSi3 14 X (tX9_in _ _ (D + 7) _ _ _ _) mfX9_in msX9_in lkX9_95 (Nat.le_of_ble_eq_true rfl) dX9_place_11 rfl (fun r3 S4 => ?_)
    refine g_if_eq 26 17 X dX9_place_14 (by decide) rfl (fun _ => ?_) (fun _ => ?_)
    · refine g_bipush 28 X dX9_place_26 rfl cb_m2 ?_
      exact g_iret X dX9_place_28 rfl
    · refine g_aload_n 18 X 0 dX9_place_17 rfl rfl rfl ?_
      refine g_iload_n 19 X 1 dX9_place_18 rfl rfl rfl ?_
      refine g_iload_n 20 X 2 dX9_place_19 rfl rfl rfl ?_
      refine g_cVi2 23 X (tX9_placeOf _ _ (D) _ _ _) mfX9_placeOf miX9_placeOf lkX9_241 rfl rfl rfl (Nat.le_of_ble_eq_true rfl) dX9_place_20 rfl (fun r5 S6 => ?_)
      refine g_goto 28 X dX9_place_23 (by decide) ?_
      exact g_iret X dX9_place_28 rfl
def bX9_dryOf_11 (rec : (Int32 × Int32 × Int32) → Sg → Option ((Int32 × Int32 × Int32) × Sg)) (a3 : Int32 × Int32 × Int32) (S4 : Sg) : Option ((Int32 × Int32 × Int32) × Sg) :=
  (if (20 : Int32) ≤ a3.2.2 then some ((a3.1, a3.2.1, a3.2.2), S4) else gd (ix a3.2.2 20) (gd (ix a3.2.2 20) (bd (fX9_runs (sI S4 12 (Int32.toNatClampNeg a3.2.2) (0 : Int32))) (fun r5 S6 => gd (ix a3.2.2 20) (bd ((if a3.1 = (-1 : Int32) then some ((1 : Int32), (sI S6 12 (Int32.toNatClampNeg a3.2.2) (S4.1 12 (Int32.toNatClampNeg a3.2.2)))) else bd (fX9_allUp (sI S6 12 (Int32.toNatClampNeg a3.2.2) (S4.1 12 (Int32.toNatClampNeg a3.2.2)))) (fun r10 S11 => (if a3.2.1 ≤ r10 then some ((0 : Int32), S11) else some ((1 : Int32), S11))))) (fun (t7 : Int32) S8 => bd ((if t7 = 0 then some (a3.1, S8) else some (a3.2.2, S8))) (fun (t12 : Int32) S13 => bd ((if t7 = 0 then some (a3.2.1, S13) else bd (fX9_allUp S13) (fun r18 S19 => some (r18, S19)))) (fun (t15 : Int32) S16 => rec (t12, t15, (a3.2.2 + (1 : Int32))) S16))))))))
def fX9_dryOf (x1 : Int32) (S : Sg) : Option (Int32 × Sg) :=
  bd (fX9_asTold S) (fun r1 S2 => bd (lp (bX9_dryOf_11) fl ((-1 : Int32), (0 : Int32), (0 : Int32)) S2) (fun (a23 : Int32 × Int32 × Int32) S24 => (if x1 = 0 then some (a23.1, S24) else some (a23.2.1, S24))))
set_option maxHeartbeats 4000000 in
set_option maxRecDepth 100000 in
theorem tX9_dryOf (G : Gd) (l : Launch) (D : Nat) (x1 : Int32) (S : Sg) : Ct LM G l rI yX9_dryOf cX9_dryOf 7 (some .int) (D + 7) [.ref (G.2.1 0), .int x1] S (fX9_dryOf x1 S) := by
  refine Ct.of (by decide) (Nat.le_of_ble_eq_true rfl) (fun Z hZ X => ?_)
  subst hZ
  show Go LM G Z 7 rI 0 [(0, .ref (G.2.1 0)), (1, .int x1)] [] S (fX9_dryOf x1 S) kz
  unfold fX9_dryOf
  refine g_aload_n 1 X 0 dX9_dryOf_0 rfl rfl rfl ?_
  refine g_cVv0 4 X (tX9_asTold _ _ (D)  _) mfX9_asTold miX9_asTold lkX9_186 rfl rfl rfl (Nat.le_of_ble_eq_true rfl) dX9_dryOf_1 rfl (fun r1 S2 => ?_)
  refine g_iconst 5 X dX9_dryOf_4 rfl ci_m1 ?_
  refine g_istore_n 6 X [(2, _), (0, _), (1, _)] dX9_dryOf_5 rfl rfl (Nat.le_of_ble_eq_true rfl) rfl ?_
  refine g_iconst 7 X dX9_dryOf_6 rfl ci_0 ?_
  refine g_istore_n 8 X [(3, _), (2, _), (0, _), (1, _)] dX9_dryOf_7 rfl rfl (Nat.le_of_ble_eq_true rfl) rfl ?_
  refine g_iconst 9 X dX9_dryOf_8 rfl ci_0 ?_
  refine g_istore 11 X [(4, _), (3, _), (2, _), (0, _), (1, _)] dX9_dryOf_9 rfl (Nat.le_of_ble_eq_true rfl) rfl ?_
  refine g_joinK 100 (fun (a23 : Int32 × Int32 × Int32) => [(1, .int x1), (2, .int a23.1), (3, .int a23.2.1)]) (fun (a23 : Int32 × Int32 × Int32) => []) (fun a23 S24 => ?_) (fun J5 => ?_)
  · refine g_iload_n 101 X 0 dX9_dryOf_100 rfl rfl rfl ?_
    refine g_if_ne 108 104 X dX9_dryOf_101 (by decide) rfl (fun _ => ?_) (fun _ => ?_)
    · refine g_iload_n 109 X 2 dX9_dryOf_108 rfl rfl rfl ?_
      exact g_iret X dX9_dryOf_109 rfl
    · refine g_iload_n 105 X 1 dX9_dryOf_104 rfl rfl rfl ?_
      refine g_goto 109 X dX9_dryOf_105 (by decide) ?_
      exact g_iret X dX9_dryOf_109 rfl
  · refine g_sub [3, 4, 2, 1, 0] rfl (g_lp (fun (a3 : Int32 × Int32 × Int32) => [(0, .ref (G.2.1 0)), (1, .int x1), (2, .int a3.1), (3, .int a3.2.1), (4, .int a3.2.2)]) (fun rec7 ih6 a3 S4 => ?_) fl ((-1 : Int32), (0 : Int32), (0 : Int32)) _)
    unfold bX9_dryOf_11
    refine g_iload 13 X 4 dX9_dryOf_11 rfl rfl ?_
    refine g_bipush 15 X dX9_dryOf_13 rfl cb_20 ?_
    refine g_icmp_ge 100 18 X dX9_dryOf_15 (by decide) rfl (fun _ => ?_) (fun _ => ?_)
    · exact g_sub [1, 2, 3] rfl (J5 (a3.1, a3.2.1, a3.2.2) _)
    · refine g_aload_n 19 X 0 dX9_dryOf_18 rfl rfl rfl ?_
      refine g_getr 22 X 12 rfl flX9_43 rfl dX9_dryOf_19 rfl ?_
      refine g_iload 24 X 4 dX9_dryOf_22 rfl rfl ?_
      refine g_iald 25 X rfl dX9_dryOf_24 rfl ?_
      refine g_istore 27 X [(5, _), (0, _), (1, _), (2, _), (3, _), (4, _)] dX9_dryOf_25 rfl (Nat.le_of_ble_eq_true rfl) rfl ?_
      refine g_aload_n 28 X 1 dX9_dryOf_27 rfl rfl rfl ?_
      refine g_getr 31 X 12 rfl flX9_43 rfl dX9_dryOf_28 rfl ?_
      refine g_iload 33 X 5 dX9_dryOf_31 rfl rfl ?_
      refine g_iconst 34 X dX9_dryOf_33 rfl ci_0 ?_
      refine g_iast 35 X rfl dX9_dryOf_34 rfl ?_
      refine g_aload_n 36 X 1 dX9_dryOf_35 rfl rfl rfl ?_
      refine g_cVv0 39 X (tX9_runs _ _ (D + 3)  _) mfX9_runs miX9_runs lkX9_189 rfl rfl rfl (Nat.le_of_ble_eq_true rfl) dX9_dryOf_36 rfl (fun r8 S9 => ?_)
      refine g_aload_n 40 X 1 dX9_dryOf_39 rfl rfl rfl ?_
      refine g_getr 43 X 12 rfl flX9_43 rfl dX9_dryOf_40 rfl ?_
      refine g_iload 45 X 5 dX9_dryOf_43 rfl rfl ?_
      refine g_iload 47 X 0 dX9_dryOf_45 rfl rfl ?_
      refine g_iast 48 X rfl dX9_dryOf_47 rfl ?_
      refine g_iload_n 49 X 3 dX9_dryOf_48 rfl rfl rfl ?_
      refine g_iconst 50 X dX9_dryOf_49 rfl ci_m1 ?_
      refine g_joinK 66 (fun (t10 : Int32) => [(0, .ref (G.2.1 0)), (1, .int x1), (2, .int a3.1), (3, .int a3.2.1), (4, .int a3.2.2)]) (fun (t10 : Int32) => [.int t10]) (fun t10 S11 => ?_) (fun J12 => ?_)
      · refine g_istore 68 X [(6, _), (0, _), (1, _), (2, _), (3, _), (4, _)] dX9_dryOf_66 rfl (Nat.le_of_ble_eq_true rfl) rfl ?_
        refine g_iload 70 X 0 dX9_dryOf_68 rfl rfl ?_
        refine g_joinK 79 (fun (t15 : Int32) => [(0, .ref (G.2.1 0)), (1, .int x1), (3, .int a3.2.1), (4, .int a3.2.2), (6, .int t10)]) (fun (t15 : Int32) => [.int t15]) (fun t15 S16 => ?_) (fun J17 => ?_)
        · refine g_istore_n 80 X [(2, _), (0, _), (1, _), (3, _), (4, _), (6, _)] dX9_dryOf_79 rfl rfl (Nat.le_of_ble_eq_true rfl) rfl ?_
          refine g_iload 82 X 5 dX9_dryOf_80 rfl rfl ?_
          refine g_joinK 93 (fun (t18 : Int32) => [(0, .ref (G.2.1 0)), (1, .int x1), (2, .int t15), (4, .int a3.2.2)]) (fun (t18 : Int32) => [.int t18]) (fun t18 S19 => ?_) (fun J20 => ?_)
          · refine g_istore_n 94 X [(3, _), (0, _), (1, _), (2, _), (4, _)] dX9_dryOf_93 rfl rfl (Nat.le_of_ble_eq_true rfl) rfl ?_
            refine g_iinc 97 X 4 [(4, _), (3, _), (0, _), (1, _), (2, _)] dX9_dryOf_94 rfl rfl (ii_1 _) (Nat.le_of_ble_eq_true rfl) rfl ?_
            refine g_goto 11 X dX9_dryOf_97 (by decide) ?_
            exact g_sub [2, 3, 4, 1, 0] rfl (ih6 (t15, t18, (a3.2.2 + (1 : Int32))) _)
          · refine g_if_eq 92 85 X dX9_dryOf_82 (by decide) rfl (fun _ => ?_) (fun _ => ?_)
            · refine g_iload_n 93 X 3 dX9_dryOf_92 rfl rfl rfl ?_
              exact g_sub [1, 2, 0, 4] rfl (J20 a3.2.1 _)
            · refine g_aload_n 86 X 1 dX9_dryOf_85 rfl rfl rfl ?_
              refine g_cVi0 89 X (tX9_allUp _ _ (D + 5)  _) mfX9_allUp miX9_allUp lkX9_232 rfl rfl rfl (Nat.le_of_ble_eq_true rfl) dX9_dryOf_86 rfl (fun r21 S22 => ?_)
              refine g_goto 93 X dX9_dryOf_89 (by decide) ?_
              exact g_sub [1, 2, 0, 4] rfl (J20 r21 _)
        · refine g_if_eq 78 73 X dX9_dryOf_70 (by decide) rfl (fun _ => ?_) (fun _ => ?_)
          · refine g_iload_n 79 X 3 dX9_dryOf_78 rfl rfl rfl ?_
            exact g_sub [1, 2, 4, 5, 0] rfl (J17 a3.1 _)
          · refine g_iload 75 X 5 dX9_dryOf_73 rfl rfl ?_
            refine g_goto 79 X dX9_dryOf_75 (by decide) ?_
            exact g_sub [1, 2, 4, 5, 0] rfl (J17 a3.2.2 _)
      · refine g_icmp_eq 61 53 X dX9_dryOf_50 (by decide) rfl (fun _ => ?_) (fun _ => ?_)
        · refine g_iconst 62 X dX9_dryOf_61 rfl ci_1 ?_
          refine g_goto 66 X dX9_dryOf_62 (by decide) ?_
          exact g_sub [1, 2, 3, 4, 5] rfl (J12 (1 : Int32) _)
        · refine g_aload_n 54 X 1 dX9_dryOf_53 rfl rfl rfl ?_
          refine g_cVi0 57 X (tX9_allUp _ _ (D + 5)  _) mfX9_allUp miX9_allUp lkX9_232 rfl rfl rfl (Nat.le_of_ble_eq_true rfl) dX9_dryOf_54 rfl (fun r13 S14 => ?_)
          refine g_iload_n 58 X 4 dX9_dryOf_57 rfl rfl rfl ?_
          refine g_icmp_ge 65 61 X dX9_dryOf_58 (by decide) rfl (fun _ => ?_) (fun _ => ?_)
          · refine g_iconst 66 X dX9_dryOf_65 rfl ci_0 ?_
            exact g_sub [1, 2, 3, 4, 5] rfl (J12 (0 : Int32) _)
          · refine g_iconst 62 X dX9_dryOf_61 rfl ci_1 ?_
            refine g_goto 66 X dX9_dryOf_62 (by decide) ?_
            exact g_sub [1, 2, 3, 4, 5] rfl (J12 (1 : Int32) _)
def fX9_dry (x1 : Int32) (S : Sg) : Option (Int32 × Sg) :=
  bd (fX9_in x1 (0 : Int32) (1 : Int32) S) (fun r1 S2 => (if r1 = 0 then some ((-2 : Int32), S2) else bd (fX9_dryOf x1 S2) (fun r3 S4 => some (r3, S4))))
set_option maxHeartbeats 4000000 in
set_option maxRecDepth 100000 in
theorem tX9_dry (G : Gd) (l : Launch) (D : Nat) (x1 : Int32) (S : Sg) : Ct LM G l rI yX9_dry cX9_dry 2 (some .int) (D + 8) [.ref (G.2.1 0), .int x1] S (fX9_dry x1 S) := by
  refine Ct.of (by decide) (Nat.le_of_ble_eq_true rfl) (fun Z hZ X => ?_)
  subst hZ
  show Go LM G Z 2 rI 0 [(0, .ref (G.2.1 0)), (1, .int x1)] [] S (fX9_dry x1 S) kz
  unfold fX9_dry
  refine g_iload_n 1 X 1 dX9_dry_0 rfl rfl rfl ?_
  refine g_iconst 2 X dX9_dry_1 rfl ci_0 ?_
  refine g_iconst 3 X dX9_dry_2 rfl ci_1 ?_
  refine g_cSi3 6 X (tX9_in _ _ (D + 7) _ _ _ _) mfX9_in msX9_in lkX9_95 (Nat.le_of_ble_eq_true rfl) dX9_dry_3 rfl (fun r1 S2 => ?_)
  refine g_if_eq 17 9 X dX9_dry_6 (by decide) rfl (fun _ => ?_) (fun _ => ?_)
  · refine g_bipush 19 X dX9_dry_17 rfl cb_m2 ?_
    exact g_iret X dX9_dry_19 rfl
  · refine g_aload_n 10 X 0 dX9_dry_9 rfl rfl rfl ?_
    refine g_iload_n 11 X 1 dX9_dry_10 rfl rfl rfl ?_
    refine g_cVi1 14 X (tX9_dryOf _ _ (D) _ _) mfX9_dryOf miX9_dryOf lkX9_244 rfl rfl rfl (Nat.le_of_ble_eq_true rfl) dX9_dry_11 rfl (fun r3 S4 => ?_)
    refine g_goto 19 X dX9_dry_14 (by decide) ?_
    exact g_iret X dX9_dry_19 rfl
def fX9_seen (x1 : Int32) (x2 : Int32) (x3 : Int32) (S : Sg) : Option (Int32 × Sg) :=
  bd (fX9_isDay x1 S) (fun r1 S2 => (if r1 = 0 then some ((-2 : Int32), S2) else bd (fX9_isCell x2 S2) (fun r3 S4 => (if r3 = 0 then some ((-2 : Int32), S4) else bd (fX9_in x3 (0 : Int32) (6 : Int32) S4) (fun r5 S6 => (if r5 = 0 then some ((-2 : Int32), S6) else (if (S6.1 0 25) = (8 : Int32) then some ((-4 : Int32), S6) else gd (ix (S6.1 0 25) 8) (gd (ix ((sI S6 18 (Int32.toNatClampNeg (S6.1 0 25)) x1).1 0 25) 8) (gd (ix ((sI (sI S6 18 (Int32.toNatClampNeg (S6.1 0 25)) x1) 19 (Int32.toNatClampNeg ((sI S6 18 (Int32.toNatClampNeg (S6.1 0 25)) x1).1 0 25)) x2).1 0 25) 8) (some (((sI (sI (sI (sI S6 18 (Int32.toNatClampNeg (S6.1 0 25)) x1) 19 (Int32.toNatClampNeg ((sI S6 18 (Int32.toNatClampNeg (S6.1 0 25)) x1).1 0 25)) x2) 20 (Int32.toNatClampNeg ((sI (sI S6 18 (Int32.toNatClampNeg (S6.1 0 25)) x1) 19 (Int32.toNatClampNeg ((sI S6 18 (Int32.toNatClampNeg (S6.1 0 25)) x1).1 0 25)) x2).1 0 25)) x3) 0 25 (((sI (sI (sI S6 18 (Int32.toNatClampNeg (S6.1 0 25)) x1) 19 (Int32.toNatClampNeg ((sI S6 18 (Int32.toNatClampNeg (S6.1 0 25)) x1).1 0 25)) x2) 20 (Int32.toNatClampNeg ((sI (sI S6 18 (Int32.toNatClampNeg (S6.1 0 25)) x1) 19 (Int32.toNatClampNeg ((sI S6 18 (Int32.toNatClampNeg (S6.1 0 25)) x1).1 0 25)) x2).1 0 25)) x3).1 0 25) + (1 : Int32))).1 0 25), (sI (sI (sI (sI S6 18 (Int32.toNatClampNeg (S6.1 0 25)) x1) 19 (Int32.toNatClampNeg ((sI S6 18 (Int32.toNatClampNeg (S6.1 0 25)) x1).1 0 25)) x2) 20 (Int32.toNatClampNeg ((sI (sI S6 18 (Int32.toNatClampNeg (S6.1 0 25)) x1) 19 (Int32.toNatClampNeg ((sI S6 18 (Int32.toNatClampNeg (S6.1 0 25)) x1).1 0 25)) x2).1 0 25)) x3) 0 25 (((sI (sI (sI S6 18 (Int32.toNatClampNeg (S6.1 0 25)) x1) 19 (Int32.toNatClampNeg ((sI S6 18 (Int32.toNatClampNeg (S6.1 0 25)) x1).1 0 25)) x2) 20 (Int32.toNatClampNeg ((sI (sI S6 18 (Int32.toNatClampNeg (S6.1 0 25)) x1) 19 (Int32.toNatClampNeg ((sI S6 18 (Int32.toNatClampNeg (S6.1 0 25)) x1).1 0 25)) x2).1 0 25)) x3).1 0 25) + (1 : Int32))))))))))))))
set_option maxHeartbeats 4000000 in
set_option maxRecDepth 100000 in
theorem tX9_seen (G : Gd) (l : Launch) (D : Nat) (x1 : Int32) (x2 : Int32) (x3 : Int32) (S : Sg) : Ct LM G l rI yX9_seen cX9_seen 4 (some .int) (D + 2) [.ref (G.2.1 0), .int x1, .int x2, .int x3] S (fX9_seen x1 x2 x3 S) := by
  refine Ct.of (by decide) (Nat.le_of_ble_eq_true rfl) (fun Z hZ X => ?_)
  subst hZ
  show Go LM G Z 4 rI 0 [(0, .ref (G.2.1 0)), (1, .int x1), (2, .int x2), (3, .int x3)] [] S (fX9_seen x1 x2 x3 S) kz
  unfold fX9_seen
  refine g_iload_n 1 X 1 dX9_seen_0 rfl rfl rfl ?_
  refine g_cSi1 4 X (tX9_isDay _ _ (D) _ _) mfX9_isDay msX9_isDay lkX9_134 (Nat.le_of_ble_eq_true rfl) dX9_seen_1 rfl (fun r1 S2 => ?_)
  refine g_if_eq 24 7 X dX9_seen_4 (by decide) rfl (fun _ => ?_) (fun _ => ?_)
  · refine g_bipush 26 X dX9_seen_24 rfl cb_m2 ?_
    exact g_iret X dX9_seen_26 rfl
  · refine g_iload_n 8 X 2 dX9_seen_7 rfl rfl rfl ?_
    refine g_cSi1 11 X (tX9_isCell _ _ (D) _ _) mfX9_isCell msX9_isCell lkX9_198 (Nat.le_of_ble_eq_true rfl) dX9_seen_8 rfl (fun r3 S4 => ?_)
    refine g_if_eq 24 14 X dX9_seen_11 (by decide) rfl (fun _ => ?_) (fun _ => ?_)
    · refine g_bipush 26 X dX9_seen_24 rfl cb_m2 ?_
      exact g_iret X dX9_seen_26 rfl
    · refine g_iload_n 15 X 3 dX9_seen_14 rfl rfl rfl ?_
      refine g_iconst 16 X dX9_seen_15 rfl ci_0 ?_
      refine g_bipush 18 X dX9_seen_16 rfl cb_6 ?_
      refine g_cSi3 21 X (tX9_in _ _ (D + 1) _ _ _ _) mfX9_in msX9_in lkX9_95 (Nat.le_of_ble_eq_true rfl) dX9_seen_18 rfl (fun r5 S6 => ?_)
      refine g_if_ne 27 24 X dX9_seen_21 (by decide) rfl (fun _ => ?_) (fun _ => ?_)
      · refine g_aload_n 28 X 0 dX9_seen_27 rfl rfl rfl ?_
        refine g_geti 31 X rfl flX9_247 rfl dX9_seen_28 rfl ?_
        refine g_bipush 33 X dX9_seen_31 rfl cb_8 ?_
        refine g_icmp_ne 39 36 X dX9_seen_33 (by decide) rfl (fun _ => ?_) (fun _ => ?_)
        · refine g_aload_n 40 X 0 dX9_seen_39 rfl rfl rfl ?_
          refine g_getr 43 X 18 rfl flX9_61 rfl dX9_seen_40 rfl ?_
          refine g_aload_n 44 X 0 dX9_seen_43 rfl rfl rfl ?_
          refine g_geti 47 X rfl flX9_247 rfl dX9_seen_44 rfl ?_
          refine g_iload_n 48 X 1 dX9_seen_47 rfl rfl rfl ?_
          refine g_iast 49 X rfl dX9_seen_48 rfl ?_
          refine g_aload_n 50 X 0 dX9_seen_49 rfl rfl rfl ?_
          refine g_getr 53 X 19 rfl flX9_64 rfl dX9_seen_50 rfl ?_
          refine g_aload_n 54 X 0 dX9_seen_53 rfl rfl rfl ?_
          refine g_geti 57 X rfl flX9_247 rfl dX9_seen_54 rfl ?_
          refine g_iload_n 58 X 2 dX9_seen_57 rfl rfl rfl ?_
          refine g_iast 59 X rfl dX9_seen_58 rfl ?_
          refine g_aload_n 60 X 0 dX9_seen_59 rfl rfl rfl ?_
          refine g_getr 63 X 20 rfl flX9_67 rfl dX9_seen_60 rfl ?_
          refine g_aload_n 64 X 0 dX9_seen_63 rfl rfl rfl ?_
          refine g_geti 67 X rfl flX9_247 rfl dX9_seen_64 rfl ?_
          refine g_iload_n 68 X 3 dX9_seen_67 rfl rfl rfl ?_
          refine g_iast 69 X rfl dX9_seen_68 rfl ?_
          refine g_aload_n 70 X 0 dX9_seen_69 rfl rfl rfl ?_
          refine g_dup 71 X dX9_seen_70 rfl rfl ?_
          refine g_geti 74 X rfl flX9_247 rfl dX9_seen_71 rfl ?_
          refine g_iconst 75 X dX9_seen_74 rfl ci_1 ?_
          refine g_iadd 76 X dX9_seen_75 rfl ?_
          refine g_puti 79 X rfl flX9_247 fp_9_25 rfl dX9_seen_76 rfl ?_
          refine g_aload_n 80 X 0 dX9_seen_79 rfl rfl rfl ?_
          refine g_geti 83 X rfl flX9_247 rfl dX9_seen_80 rfl ?_
          exact g_iret X dX9_seen_83 rfl
        · refine g_bipush 38 X dX9_seen_36 rfl cb_m4 ?_
          exact g_iret X dX9_seen_38 rfl
      · refine g_bipush 26 X dX9_seen_24 rfl cb_m2 ?_
        exact g_iret X dX9_seen_26 rfl
def fX9_forget  (S : Sg) : Option (Int32 × Sg) :=
  some ((S.1 0 25), (sI S 0 25 (0 : Int32)))
set_option maxHeartbeats 4000000 in
set_option maxRecDepth 100000 in
theorem tX9_forget (G : Gd) (l : Launch) (D : Nat)  (S : Sg) : Ct LM G l rI yX9_forget cX9_forget 2 (some .int) (D + 0) [.ref (G.2.1 0)] S (fX9_forget  S) := by
  refine Ct.of (by decide) (Nat.le_of_ble_eq_true rfl) (fun Z hZ X => ?_)
  subst hZ
  show Go LM G Z 2 rI 0 [(0, .ref (G.2.1 0))] [] S (fX9_forget  S) kz
  unfold fX9_forget
  refine g_aload_n 1 X 0 dX9_forget_0 rfl rfl rfl ?_
  refine g_geti 4 X rfl flX9_247 rfl dX9_forget_1 rfl ?_
  refine g_istore_n 5 X [(1, _), (0, _)] dX9_forget_4 rfl rfl (Nat.le_of_ble_eq_true rfl) rfl ?_
  refine g_aload_n 6 X 1 dX9_forget_5 rfl rfl rfl ?_
  refine g_iconst 7 X dX9_forget_6 rfl ci_0 ?_
  refine g_puti 10 X rfl flX9_247 fp_9_25 rfl dX9_forget_7 rfl ?_
  refine g_iload_n 11 X 0 dX9_forget_10 rfl rfl rfl ?_
  exact g_iret X dX9_forget_11 rfl
def bX9_isSeen_8 (rec : (Int32 × Int32) → Sg → Option ((Int32 × Int32) × Sg)) (a3 : Int32 × Int32) (S4 : Sg) : Option ((Int32 × Int32) × Sg) :=
  (if (S4.1 0 25) ≤ a3.2 then some ((a3.1, a3.2), S4) else (if a3.1 = 0 then some ((a3.1, a3.2), S4) else gd (ix a3.2 8) (gd (ix a3.2 8) (bd (fX9_standsNow (S4.1 18 (Int32.toNatClampNeg a3.2)) (S4.1 19 (Int32.toNatClampNeg a3.2)) S4) (fun r5 S6 => bd ((if r5 ≤ (5 : Int32) then some ((6 : Int32), S6) else some ((r5 - (6 : Int32)), S6))) (fun (t7 : Int32) S8 => gd (ix a3.2 8) (bd ((if t7 = (S8.1 20 (Int32.toNatClampNeg a3.2)) then some ((1 : Int32), S8) else some ((0 : Int32), S8))) (fun (t10 : Int32) S11 => rec (t10, (a3.2 + (1 : Int32))) S11))))))))
def fX9_isSeen  (S : Sg) : Option (Int32 × Sg) :=
  bd (fX9_runs S) (fun r1 S2 => bd (lp (bX9_isSeen_8) fl ((1 : Int32), (0 : Int32)) S2) (fun (a16 : Int32 × Int32) S17 => gd (zb a16.1) (some (a16.1, S17))))
set_option maxHeartbeats 4000000 in
set_option maxRecDepth 100000 in
theorem tX9_isSeen (G : Gd) (l : Launch) (D : Nat)  (S : Sg) : Ct LM G l rI yX9_isSeen cX9_isSeen 4 (some .boolean) (D + 4) [.ref (G.2.1 0)] S (fX9_isSeen  S) := by
  refine Ct.of (by decide) (Nat.le_of_ble_eq_true rfl) (fun Z hZ X => ?_)
  subst hZ
  show Go LM G Z 4 rI 0 [(0, .ref (G.2.1 0))] [] S (fX9_isSeen  S) kz
  unfold fX9_isSeen
  refine g_aload_n 1 X 0 dX9_isSeen_0 rfl rfl rfl ?_
  refine g_cVv0 4 X (tX9_runs _ _ (D)  _) mfX9_runs miX9_runs lkX9_189 rfl rfl rfl (Nat.le_of_ble_eq_true rfl) dX9_isSeen_1 rfl (fun r1 S2 => ?_)
  refine g_iconst 5 X dX9_isSeen_4 rfl ci_1 ?_
  refine g_istore_n 6 X [(1, _), (0, _)] dX9_isSeen_5 rfl rfl (Nat.le_of_ble_eq_true rfl) rfl ?_
  refine g_iconst 7 X dX9_isSeen_6 rfl ci_0 ?_
  refine g_istore_n 8 X [(2, _), (1, _), (0, _)] dX9_isSeen_7 rfl rfl (Nat.le_of_ble_eq_true rfl) rfl ?_
  refine g_joinK 72 (fun (a16 : Int32 × Int32) => [(1, .int a16.1)]) (fun (a16 : Int32 × Int32) => []) (fun a16 S17 => ?_) (fun J5 => ?_)
  · refine g_iload_n 73 X 0 dX9_isSeen_72 rfl rfl rfl ?_
    exact g_gd (fun hz => g_zret X dX9_isSeen_73 hz rfl)
  · refine g_sub [2, 1, 0] rfl (g_lp (fun (a3 : Int32 × Int32) => [(0, .ref (G.2.1 0)), (1, .int a3.1), (2, .int a3.2)]) (fun rec7 ih6 a3 S4 => ?_) fl ((1 : Int32), (0 : Int32)) _)
    unfold bX9_isSeen_8
    refine g_iload_n 9 X 2 dX9_isSeen_8 rfl rfl rfl ?_
    refine g_aload_n 10 X 0 dX9_isSeen_9 rfl rfl rfl ?_
    refine g_geti 13 X rfl flX9_247 rfl dX9_isSeen_10 rfl ?_
    refine g_icmp_ge 72 16 X dX9_isSeen_13 (by decide) rfl (fun _ => ?_) (fun _ => ?_)
    · exact g_sub [1] rfl (J5 (a3.1, a3.2) _)
    · refine g_iload_n 17 X 1 dX9_isSeen_16 rfl rfl rfl ?_
      refine g_if_eq 72 20 X dX9_isSeen_17 (by decide) rfl (fun _ => ?_) (fun _ => ?_)
      · exact g_sub [1] rfl (J5 (a3.1, a3.2) _)
      · refine g_aload_n 21 X 0 dX9_isSeen_20 rfl rfl rfl ?_
        refine g_aload_n 22 X 0 dX9_isSeen_21 rfl rfl rfl ?_
        refine g_getr 25 X 18 rfl flX9_61 rfl dX9_isSeen_22 rfl ?_
        refine g_iload_n 26 X 2 dX9_isSeen_25 rfl rfl rfl ?_
        refine g_iald 27 X rfl dX9_isSeen_26 rfl ?_
        refine g_aload_n 28 X 0 dX9_isSeen_27 rfl rfl rfl ?_
        refine g_getr 31 X 19 rfl flX9_64 rfl dX9_isSeen_28 rfl ?_
        refine g_iload_n 32 X 2 dX9_isSeen_31 rfl rfl rfl ?_
        refine g_iald 33 X rfl dX9_isSeen_32 rfl ?_
        refine g_cVi2 36 X (tX9_standsNow _ _ (D + 3) _ _ _) mfX9_standsNow miX9_standsNow lkX9_195 rfl rfl rfl (Nat.le_of_ble_eq_true rfl) dX9_isSeen_33 rfl (fun r8 S9 => ?_)
        refine g_istore_n 37 X [(3, _), (0, _), (1, _), (2, _)] dX9_isSeen_36 rfl rfl (Nat.le_of_ble_eq_true rfl) rfl ?_
        refine g_iload_n 38 X 0 dX9_isSeen_37 rfl rfl rfl ?_
        refine g_iconst 39 X dX9_isSeen_38 rfl ci_5 ?_
        refine g_joinK 51 (fun (t10 : Int32) => [(0, .ref (G.2.1 0)), (2, .int a3.2)]) (fun (t10 : Int32) => [.int t10]) (fun t10 S11 => ?_) (fun J12 => ?_)
        · refine g_aload_n 52 X 0 dX9_isSeen_51 rfl rfl rfl ?_
          refine g_getr 55 X 20 rfl flX9_67 rfl dX9_isSeen_52 rfl ?_
          refine g_iload_n 56 X 1 dX9_isSeen_55 rfl rfl rfl ?_
          refine g_iald 57 X rfl dX9_isSeen_56 rfl ?_
          refine g_joinK 65 (fun (t13 : Int32) => [(0, .ref (G.2.1 0)), (2, .int a3.2)]) (fun (t13 : Int32) => [.int t13]) (fun t13 S14 => ?_) (fun J15 => ?_)
          · refine g_istore_n 66 X [(1, _), (0, _), (2, _)] dX9_isSeen_65 rfl rfl (Nat.le_of_ble_eq_true rfl) rfl ?_
            refine g_iinc 69 X 2 [(2, _), (1, _), (0, _)] dX9_isSeen_66 rfl rfl (ii_1 _) (Nat.le_of_ble_eq_true rfl) rfl ?_
            refine g_goto 8 X dX9_isSeen_69 (by decide) ?_
            exact g_sub [2, 1, 0] rfl (ih6 (t13, (a3.2 + (1 : Int32))) _)
          · refine g_icmp_ne 64 60 X dX9_isSeen_57 (by decide) rfl (fun _ => ?_) (fun _ => ?_)
            · refine g_iconst 65 X dX9_isSeen_64 rfl ci_0 ?_
              exact g_sub [0, 1] rfl (J15 (0 : Int32) _)
            · refine g_iconst 61 X dX9_isSeen_60 rfl ci_1 ?_
              refine g_goto 65 X dX9_isSeen_61 (by decide) ?_
              exact g_sub [0, 1] rfl (J15 (1 : Int32) _)
        · refine g_icmp_le 49 42 X dX9_isSeen_39 (by decide) rfl (fun _ => ?_) (fun _ => ?_)
          · refine g_bipush 51 X dX9_isSeen_49 rfl cb_6 ?_
            exact g_sub [1, 3] rfl (J12 (6 : Int32) _)
          · refine g_iload_n 43 X 0 dX9_isSeen_42 rfl rfl rfl ?_
            refine g_bipush 45 X dX9_isSeen_43 rfl cb_6 ?_
            refine g_isub 46 X dX9_isSeen_45 rfl ?_
            refine g_goto 51 X dX9_isSeen_46 (by decide) ?_
            exact g_sub [1, 3] rfl (J12 (r8 - (6 : Int32)) _)
def bX9_neverNow_8 (rec : (Int32 × Int32) → Sg → Option ((Int32 × Int32) × Sg)) (a3 : Int32 × Int32) (S4 : Sg) : Option ((Int32 × Int32) × Sg) :=
  (if (S4.1 0 4) ≤ a3.2 then some ((a3.1, a3.2), S4) else bd (fX9_isSeen (sI S4 0 17 ((1 : Int32) <<< (a3.2 &&& 31)))) (fun r5 S6 => bd ((if r5 = 0 then some ((0 : Int32), S6) else some (((1 : Int32) <<< (a3.2 &&& 31)), S6))) (fun (t7 : Int32) S8 => rec ((a3.1 ||| t7), (a3.2 + (1 : Int32))) S8)))
def fX9_neverNow  (S : Sg) : Option (Int32 × Sg) :=
  bd (fX9_asTold S) (fun r1 S2 => bd (lp (bX9_neverNow_8) fl ((0 : Int32), (0 : Int32)) S2) (fun (a13 : Int32 × Int32) S14 => some (a13.1, S14)))
set_option maxHeartbeats 4000000 in
set_option maxRecDepth 100000 in
theorem tX9_neverNow (G : Gd) (l : Launch) (D : Nat)  (S : Sg) : Ct LM G l rI yX9_neverNow cX9_neverNow 3 (some .int) (D + 7) [.ref (G.2.1 0)] S (fX9_neverNow  S) := by
  refine Ct.of (by decide) (Nat.le_of_ble_eq_true rfl) (fun Z hZ X => ?_)
  subst hZ
  show Go LM G Z 3 rI 0 [(0, .ref (G.2.1 0))] [] S (fX9_neverNow  S) kz
  unfold fX9_neverNow
  refine g_aload_n 1 X 0 dX9_neverNow_0 rfl rfl rfl ?_
  refine g_cVv0 4 X (tX9_asTold _ _ (D)  _) mfX9_asTold miX9_asTold lkX9_186 rfl rfl rfl (Nat.le_of_ble_eq_true rfl) dX9_neverNow_1 rfl (fun r1 S2 => ?_)
  refine g_iconst 5 X dX9_neverNow_4 rfl ci_0 ?_
  refine g_istore_n 6 X [(1, _), (0, _)] dX9_neverNow_5 rfl rfl (Nat.le_of_ble_eq_true rfl) rfl ?_
  refine g_iconst 7 X dX9_neverNow_6 rfl ci_0 ?_
  refine g_istore_n 8 X [(2, _), (1, _), (0, _)] dX9_neverNow_7 rfl rfl (Nat.le_of_ble_eq_true rfl) rfl ?_
  refine g_joinK 46 (fun (a13 : Int32 × Int32) => [(1, .int a13.1)]) (fun (a13 : Int32 × Int32) => []) (fun a13 S14 => ?_) (fun J5 => ?_)
  · refine g_iload_n 47 X 0 dX9_neverNow_46 rfl rfl rfl ?_
    exact g_iret X dX9_neverNow_47 rfl
  · refine g_sub [2, 1, 0] rfl (g_lp (fun (a3 : Int32 × Int32) => [(0, .ref (G.2.1 0)), (1, .int a3.1), (2, .int a3.2)]) (fun rec7 ih6 a3 S4 => ?_) fl ((0 : Int32), (0 : Int32)) _)
    unfold bX9_neverNow_8
    refine g_iload_n 9 X 2 dX9_neverNow_8 rfl rfl rfl ?_
    refine g_aload_n 10 X 0 dX9_neverNow_9 rfl rfl rfl ?_
    refine g_geti 13 X rfl flX9_114 rfl dX9_neverNow_10 rfl ?_
    refine g_icmp_ge 46 16 X dX9_neverNow_13 (by decide) rfl (fun _ => ?_) (fun _ => ?_)
    · exact g_sub [1] rfl (J5 (a3.1, a3.2) _)
    · refine g_aload_n 17 X 0 dX9_neverNow_16 rfl rfl rfl ?_
      refine g_iconst 18 X dX9_neverNow_17 rfl ci_1 ?_
      refine g_iload_n 19 X 2 dX9_neverNow_18 rfl rfl rfl ?_
      refine g_ishl 20 X dX9_neverNow_19 rfl ?_
      refine g_puti 23 X rfl flX9_161 fp_9_17 rfl dX9_neverNow_20 rfl ?_
      refine g_iload_n 24 X 1 dX9_neverNow_23 rfl rfl rfl ?_
      refine g_aload_n 25 X 0 dX9_neverNow_24 rfl rfl rfl ?_
      refine g_cVi0 28 X (tX9_isSeen _ _ (D + 2)  _) mfX9_isSeen miX9_isSeen lkX9_250 rfl rfl rfl (Nat.le_of_ble_eq_true rfl) dX9_neverNow_25 rfl (fun r8 S9 => ?_)
      refine g_joinK 38 (fun (t10 : Int32) => [(0, .ref (G.2.1 0)), (2, .int a3.2)]) (fun (t10 : Int32) => [.int t10, .int a3.1]) (fun t10 S11 => ?_) (fun J12 => ?_)
      · refine g_ior 39 X dX9_neverNow_38 rfl ?_
        refine g_istore_n 40 X [(1, _), (0, _), (2, _)] dX9_neverNow_39 rfl rfl (Nat.le_of_ble_eq_true rfl) rfl ?_
        refine g_iinc 43 X 2 [(2, _), (1, _), (0, _)] dX9_neverNow_40 rfl rfl (ii_1 _) (Nat.le_of_ble_eq_true rfl) rfl ?_
        refine g_goto 8 X dX9_neverNow_43 (by decide) ?_
        exact g_sub [2, 1, 0] rfl (ih6 ((a3.1 ||| t10), (a3.2 + (1 : Int32))) _)
      · refine g_if_eq 37 31 X dX9_neverNow_28 (by decide) rfl (fun _ => ?_) (fun _ => ?_)
        · refine g_iconst 38 X dX9_neverNow_37 rfl ci_0 ?_
          exact g_sub [0, 2] rfl (J12 (0 : Int32) _)
        · refine g_iconst 32 X dX9_neverNow_31 rfl ci_1 ?_
          refine g_iload_n 33 X 2 dX9_neverNow_32 rfl rfl rfl ?_
          refine g_ishl 34 X dX9_neverNow_33 rfl ?_
          refine g_goto 38 X dX9_neverNow_34 (by decide) ?_
          exact g_sub [0, 2] rfl (J12 ((1 : Int32) <<< (a3.2 &&& 31)) _)
def fX9_never  (S : Sg) : Option (Int32 × Sg) :=
  bd (fX9_neverNow S) (fun r1 S2 => some (r1, S2))
set_option maxHeartbeats 4000000 in
set_option maxRecDepth 100000 in
theorem tX9_never (G : Gd) (l : Launch) (D : Nat)  (S : Sg) : Ct LM G l rI yX9_never cX9_never 1 (some .int) (D + 8) [.ref (G.2.1 0)] S (fX9_never  S) := by
  refine Ct.of (by decide) (Nat.le_of_ble_eq_true rfl) (fun Z hZ X => ?_)
  subst hZ
  show Go LM G Z 1 rI 0 [(0, .ref (G.2.1 0))] [] S (fX9_never  S) kz
  unfold fX9_never
  refine g_aload_n 1 X 0 dX9_never_0 rfl rfl rfl ?_
  refine g_cVi0 4 X (tX9_neverNow _ _ (D)  _) mfX9_neverNow miX9_neverNow lkX9_254 rfl rfl rfl (Nat.le_of_ble_eq_true rfl) dX9_never_1 rfl (fun r1 S2 => ?_)
  exact g_iret X dX9_never_4 rfl
def bX9_signOf_16 (c1 : Int32) (rec : (Int32 × Int32) → Sg → Option ((Int32 × Int32) × Sg)) (a3 : Int32 × Int32) (S4 : Sg) : Option ((Int32 × Int32) × Sg) :=
  (if (6 : Int32) ≤ a3.2 then some ((a3.1, a3.2), S4) else gd (ix c1 9) (bd (fX9_isSeen (sI S4 6 (Int32.toNatClampNeg c1) a3.2)) (fun r5 S6 => bd ((if r5 = 0 then some ((0 : Int32), S6) else some (((1 : Int32) <<< (a3.2 &&& 31)), S6))) (fun (t7 : Int32) S8 => rec ((a3.1 ||| t7), (a3.2 + (1 : Int32))) S8))))
def fX9_signOf (x1 : Int32) (S : Sg) : Option (Int32 × Sg) :=
  bd (fX9_asTold S) (fun r1 S2 => gd (ix x1 9) (bd (lp (bX9_signOf_16 x1) fl ((0 : Int32), (0 : Int32)) S2) (fun (a13 : Int32 × Int32) S14 => gd (ix x1 9) (some (a13.1, (sI S14 6 (Int32.toNatClampNeg x1) (S2.1 6 (Int32.toNatClampNeg x1))))))))
set_option maxHeartbeats 4000000 in
set_option maxRecDepth 100000 in
theorem tX9_signOf (G : Gd) (l : Launch) (D : Nat) (x1 : Int32) (S : Sg) : Ct LM G l rI yX9_signOf cX9_signOf 5 (some .int) (D + 7) [.ref (G.2.1 0), .int x1] S (fX9_signOf x1 S) := by
  refine Ct.of (by decide) (Nat.le_of_ble_eq_true rfl) (fun Z hZ X => ?_)
  subst hZ
  show Go LM G Z 5 rI 0 [(0, .ref (G.2.1 0)), (1, .int x1)] [] S (fX9_signOf x1 S) kz
  unfold fX9_signOf
  refine g_aload_n 1 X 0 dX9_signOf_0 rfl rfl rfl ?_
  refine g_cVv0 4 X (tX9_asTold _ _ (D)  _) mfX9_asTold miX9_asTold lkX9_186 rfl rfl rfl (Nat.le_of_ble_eq_true rfl) dX9_signOf_1 rfl (fun r1 S2 => ?_)
  refine g_aload_n 5 X 0 dX9_signOf_4 rfl rfl rfl ?_
  refine g_getr 8 X 6 rfl flX9_25 rfl dX9_signOf_5 rfl ?_
  refine g_iload_n 9 X 1 dX9_signOf_8 rfl rfl rfl ?_
  refine g_iald 10 X rfl dX9_signOf_9 rfl ?_
  refine g_istore_n 11 X [(2, _), (0, _), (1, _)] dX9_signOf_10 rfl rfl (Nat.le_of_ble_eq_true rfl) rfl ?_
  refine g_iconst 12 X dX9_signOf_11 rfl ci_0 ?_
  refine g_istore_n 13 X [(3, _), (2, _), (0, _), (1, _)] dX9_signOf_12 rfl rfl (Nat.le_of_ble_eq_true rfl) rfl ?_
  refine g_iconst 14 X dX9_signOf_13 rfl ci_0 ?_
  refine g_istore 16 X [(4, _), (3, _), (2, _), (0, _), (1, _)] dX9_signOf_14 rfl (Nat.le_of_ble_eq_true rfl) rfl ?_
  refine g_joinK 55 (fun (a13 : Int32 × Int32) => [(0, .ref (G.2.1 0)), (1, .int x1), (2, .int (S2.1 6 (Int32.toNatClampNeg x1))), (3, .int a13.1)]) (fun (a13 : Int32 × Int32) => []) (fun a13 S14 => ?_) (fun J5 => ?_)
  · refine g_aload_n 56 X 0 dX9_signOf_55 rfl rfl rfl ?_
    refine g_getr 59 X 6 rfl flX9_25 rfl dX9_signOf_56 rfl ?_
    refine g_iload_n 60 X 1 dX9_signOf_59 rfl rfl rfl ?_
    refine g_iload_n 61 X 2 dX9_signOf_60 rfl rfl rfl ?_
    refine g_iast 62 X rfl dX9_signOf_61 rfl ?_
    refine g_iload_n 63 X 3 dX9_signOf_62 rfl rfl rfl ?_
    exact g_iret X dX9_signOf_63 rfl
  · refine g_sub [3, 4, 2, 1, 0] rfl (g_lp (fun (a3 : Int32 × Int32) => [(0, .ref (G.2.1 0)), (1, .int x1), (2, .int (S2.1 6 (Int32.toNatClampNeg x1))), (3, .int a3.1), (4, .int a3.2)]) (fun rec7 ih6 a3 S4 => ?_) fl ((0 : Int32), (0 : Int32)) _)
    unfold bX9_signOf_16
    refine g_iload 18 X 4 dX9_signOf_16 rfl rfl ?_
    refine g_bipush 20 X dX9_signOf_18 rfl cb_6 ?_
    refine g_icmp_ge 55 23 X dX9_signOf_20 (by decide) rfl (fun _ => ?_) (fun _ => ?_)
    · exact g_sub [0, 1, 2, 3] rfl (J5 (a3.1, a3.2) _)
    · refine g_aload_n 24 X 0 dX9_signOf_23 rfl rfl rfl ?_
      refine g_getr 27 X 6 rfl flX9_25 rfl dX9_signOf_24 rfl ?_
      refine g_iload_n 28 X 1 dX9_signOf_27 rfl rfl rfl ?_
      refine g_iload 30 X 4 dX9_signOf_28 rfl rfl ?_
      refine g_iast 31 X rfl dX9_signOf_30 rfl ?_
      refine g_iload_n 32 X 3 dX9_signOf_31 rfl rfl rfl ?_
      refine g_aload_n 33 X 0 dX9_signOf_32 rfl rfl rfl ?_
      refine g_cVi0 36 X (tX9_isSeen _ _ (D + 2)  _) mfX9_isSeen miX9_isSeen lkX9_250 rfl rfl rfl (Nat.le_of_ble_eq_true rfl) dX9_signOf_33 rfl (fun r8 S9 => ?_)
      refine g_joinK 47 (fun (t10 : Int32) => [(0, .ref (G.2.1 0)), (1, .int x1), (2, .int (S2.1 6 (Int32.toNatClampNeg x1))), (4, .int a3.2)]) (fun (t10 : Int32) => [.int t10, .int a3.1]) (fun t10 S11 => ?_) (fun J12 => ?_)
      · refine g_ior 48 X dX9_signOf_47 rfl ?_
        refine g_istore_n 49 X [(3, _), (0, _), (1, _), (2, _), (4, _)] dX9_signOf_48 rfl rfl (Nat.le_of_ble_eq_true rfl) rfl ?_
        refine g_iinc 52 X 4 [(4, _), (3, _), (0, _), (1, _), (2, _)] dX9_signOf_49 rfl rfl (ii_1 _) (Nat.le_of_ble_eq_true rfl) rfl ?_
        refine g_goto 16 X dX9_signOf_52 (by decide) ?_
        exact g_sub [2, 3, 4, 1, 0] rfl (ih6 ((a3.1 ||| t10), (a3.2 + (1 : Int32))) _)
      · refine g_if_eq 46 39 X dX9_signOf_36 (by decide) rfl (fun _ => ?_) (fun _ => ?_)
        · refine g_iconst 47 X dX9_signOf_46 rfl ci_0 ?_
          exact g_sub [0, 1, 2, 4] rfl (J12 (0 : Int32) _)
        · refine g_iconst 40 X dX9_signOf_39 rfl ci_1 ?_
          refine g_iload 42 X 4 dX9_signOf_40 rfl rfl ?_
          refine g_ishl 43 X dX9_signOf_42 rfl ?_
          refine g_goto 47 X dX9_signOf_43 (by decide) ?_
          exact g_sub [0, 1, 2, 4] rfl (J12 ((1 : Int32) <<< (a3.2 &&& 31)) _)
def fX9_sign (x1 : Int32) (S : Sg) : Option (Int32 × Sg) :=
  bd (fX9_isStroke x1 S) (fun r1 S2 => (if r1 = 0 then some ((-2 : Int32), S2) else bd (fX9_signOf x1 S2) (fun r3 S4 => some (r3, S4))))
set_option maxHeartbeats 4000000 in
set_option maxRecDepth 100000 in
theorem tX9_sign (G : Gd) (l : Launch) (D : Nat) (x1 : Int32) (S : Sg) : Ct LM G l rI yX9_sign cX9_sign 2 (some .int) (D + 8) [.ref (G.2.1 0), .int x1] S (fX9_sign x1 S) := by
  refine Ct.of (by decide) (Nat.le_of_ble_eq_true rfl) (fun Z hZ X => ?_)
  subst hZ
  show Go LM G Z 2 rI 0 [(0, .ref (G.2.1 0)), (1, .int x1)] [] S (fX9_sign x1 S) kz
  unfold fX9_sign
  refine g_aload_n 1 X 0 dX9_sign_0 rfl rfl rfl ?_
  refine g_iload_n 2 X 1 dX9_sign_1 rfl rfl rfl ?_
  refine g_cVi1 5 X (tX9_isStroke _ _ (D + 1) _ _) mfX9_isStroke miX9_isStroke lkX9_140 rfl rfl rfl (Nat.le_of_ble_eq_true rfl) dX9_sign_2 rfl (fun r1 S2 => ?_)
  refine g_if_eq 16 8 X dX9_sign_5 (by decide) rfl (fun _ => ?_) (fun _ => ?_)
  · refine g_bipush 18 X dX9_sign_16 rfl cb_m2 ?_
    exact g_iret X dX9_sign_18 rfl
  · refine g_aload_n 9 X 0 dX9_sign_8 rfl rfl rfl ?_
    refine g_iload_n 10 X 1 dX9_sign_9 rfl rfl rfl ?_
    refine g_cVi1 13 X (tX9_signOf _ _ (D) _ _) mfX9_signOf miX9_signOf lkX9_257 rfl rfl rfl (Nat.le_of_ble_eq_true rfl) dX9_sign_10 rfl (fun r3 S4 => ?_)
    refine g_goto 18 X dX9_sign_13 (by decide) ?_
    exact g_iret X dX9_sign_18 rfl
def bX9_chalkOf_16 (c1 : Int32) (rec : (Int32 × Int32) → Sg → Option ((Int32 × Int32) × Sg)) (a3 : Int32 × Int32) (S4 : Sg) : Option ((Int32 × Int32) × Sg) :=
  (if (10 : Int32) ≤ a3.2 then some ((a3.1, a3.2), S4) else gd (ix c1 9) (bd (fX9_isSeen (sI S4 7 (Int32.toNatClampNeg c1) a3.2)) (fun r5 S6 => bd ((if r5 = 0 then some ((0 : Int32), S6) else some (((1 : Int32) <<< (a3.2 &&& 31)), S6))) (fun (t7 : Int32) S8 => rec ((a3.1 ||| t7), (a3.2 + (1 : Int32))) S8))))
def fX9_chalkOf (x1 : Int32) (S : Sg) : Option (Int32 × Sg) :=
  bd (fX9_asTold S) (fun r1 S2 => gd (ix x1 9) (bd (lp (bX9_chalkOf_16 x1) fl ((0 : Int32), (1 : Int32)) S2) (fun (a13 : Int32 × Int32) S14 => gd (ix x1 9) (some (a13.1, (sI S14 7 (Int32.toNatClampNeg x1) (S2.1 7 (Int32.toNatClampNeg x1))))))))
set_option maxHeartbeats 4000000 in
set_option maxRecDepth 100000 in
theorem tX9_chalkOf (G : Gd) (l : Launch) (D : Nat) (x1 : Int32) (S : Sg) : Ct LM G l rI yX9_chalkOf cX9_chalkOf 5 (some .int) (D + 7) [.ref (G.2.1 0), .int x1] S (fX9_chalkOf x1 S) := by
  refine Ct.of (by decide) (Nat.le_of_ble_eq_true rfl) (fun Z hZ X => ?_)
  subst hZ
  show Go LM G Z 5 rI 0 [(0, .ref (G.2.1 0)), (1, .int x1)] [] S (fX9_chalkOf x1 S) kz
  unfold fX9_chalkOf
  refine g_aload_n 1 X 0 dX9_chalkOf_0 rfl rfl rfl ?_
  refine g_cVv0 4 X (tX9_asTold _ _ (D)  _) mfX9_asTold miX9_asTold lkX9_186 rfl rfl rfl (Nat.le_of_ble_eq_true rfl) dX9_chalkOf_1 rfl (fun r1 S2 => ?_)
  refine g_aload_n 5 X 0 dX9_chalkOf_4 rfl rfl rfl ?_
  refine g_getr 8 X 7 rfl flX9_28 rfl dX9_chalkOf_5 rfl ?_
  refine g_iload_n 9 X 1 dX9_chalkOf_8 rfl rfl rfl ?_
  refine g_iald 10 X rfl dX9_chalkOf_9 rfl ?_
  refine g_istore_n 11 X [(2, _), (0, _), (1, _)] dX9_chalkOf_10 rfl rfl (Nat.le_of_ble_eq_true rfl) rfl ?_
  refine g_iconst 12 X dX9_chalkOf_11 rfl ci_0 ?_
  refine g_istore_n 13 X [(3, _), (2, _), (0, _), (1, _)] dX9_chalkOf_12 rfl rfl (Nat.le_of_ble_eq_true rfl) rfl ?_
  refine g_iconst 14 X dX9_chalkOf_13 rfl ci_1 ?_
  refine g_istore 16 X [(4, _), (3, _), (2, _), (0, _), (1, _)] dX9_chalkOf_14 rfl (Nat.le_of_ble_eq_true rfl) rfl ?_
  refine g_joinK 55 (fun (a13 : Int32 × Int32) => [(0, .ref (G.2.1 0)), (1, .int x1), (2, .int (S2.1 7 (Int32.toNatClampNeg x1))), (3, .int a13.1)]) (fun (a13 : Int32 × Int32) => []) (fun a13 S14 => ?_) (fun J5 => ?_)
  · refine g_aload_n 56 X 0 dX9_chalkOf_55 rfl rfl rfl ?_
    refine g_getr 59 X 7 rfl flX9_28 rfl dX9_chalkOf_56 rfl ?_
    refine g_iload_n 60 X 1 dX9_chalkOf_59 rfl rfl rfl ?_
    refine g_iload_n 61 X 2 dX9_chalkOf_60 rfl rfl rfl ?_
    refine g_iast 62 X rfl dX9_chalkOf_61 rfl ?_
    refine g_iload_n 63 X 3 dX9_chalkOf_62 rfl rfl rfl ?_
    exact g_iret X dX9_chalkOf_63 rfl
  · refine g_sub [3, 4, 2, 1, 0] rfl (g_lp (fun (a3 : Int32 × Int32) => [(0, .ref (G.2.1 0)), (1, .int x1), (2, .int (S2.1 7 (Int32.toNatClampNeg x1))), (3, .int a3.1), (4, .int a3.2)]) (fun rec7 ih6 a3 S4 => ?_) fl ((0 : Int32), (1 : Int32)) _)
    unfold bX9_chalkOf_16
    refine g_iload 18 X 4 dX9_chalkOf_16 rfl rfl ?_
    refine g_bipush 20 X dX9_chalkOf_18 rfl cb_10 ?_
    refine g_icmp_ge 55 23 X dX9_chalkOf_20 (by decide) rfl (fun _ => ?_) (fun _ => ?_)
    · exact g_sub [0, 1, 2, 3] rfl (J5 (a3.1, a3.2) _)
    · refine g_aload_n 24 X 0 dX9_chalkOf_23 rfl rfl rfl ?_
      refine g_getr 27 X 7 rfl flX9_28 rfl dX9_chalkOf_24 rfl ?_
      refine g_iload_n 28 X 1 dX9_chalkOf_27 rfl rfl rfl ?_
      refine g_iload 30 X 4 dX9_chalkOf_28 rfl rfl ?_
      refine g_iast 31 X rfl dX9_chalkOf_30 rfl ?_
      refine g_iload_n 32 X 3 dX9_chalkOf_31 rfl rfl rfl ?_
      refine g_aload_n 33 X 0 dX9_chalkOf_32 rfl rfl rfl ?_
      refine g_cVi0 36 X (tX9_isSeen _ _ (D + 2)  _) mfX9_isSeen miX9_isSeen lkX9_250 rfl rfl rfl (Nat.le_of_ble_eq_true rfl) dX9_chalkOf_33 rfl (fun r8 S9 => ?_)
      refine g_joinK 47 (fun (t10 : Int32) => [(0, .ref (G.2.1 0)), (1, .int x1), (2, .int (S2.1 7 (Int32.toNatClampNeg x1))), (4, .int a3.2)]) (fun (t10 : Int32) => [.int t10, .int a3.1]) (fun t10 S11 => ?_) (fun J12 => ?_)
      · refine g_ior 48 X dX9_chalkOf_47 rfl ?_
        refine g_istore_n 49 X [(3, _), (0, _), (1, _), (2, _), (4, _)] dX9_chalkOf_48 rfl rfl (Nat.le_of_ble_eq_true rfl) rfl ?_
        refine g_iinc 52 X 4 [(4, _), (3, _), (0, _), (1, _), (2, _)] dX9_chalkOf_49 rfl rfl (ii_1 _) (Nat.le_of_ble_eq_true rfl) rfl ?_
        refine g_goto 16 X dX9_chalkOf_52 (by decide) ?_
        exact g_sub [2, 3, 4, 1, 0] rfl (ih6 ((a3.1 ||| t10), (a3.2 + (1 : Int32))) _)
      · refine g_if_eq 46 39 X dX9_chalkOf_36 (by decide) rfl (fun _ => ?_) (fun _ => ?_)
        · refine g_iconst 47 X dX9_chalkOf_46 rfl ci_0 ?_
          exact g_sub [0, 1, 2, 4] rfl (J12 (0 : Int32) _)
        · refine g_iconst 40 X dX9_chalkOf_39 rfl ci_1 ?_
          refine g_iload 42 X 4 dX9_chalkOf_40 rfl rfl ?_
          refine g_ishl 43 X dX9_chalkOf_42 rfl ?_
          refine g_goto 47 X dX9_chalkOf_43 (by decide) ?_
          exact g_sub [0, 1, 2, 4] rfl (J12 ((1 : Int32) <<< (a3.2 &&& 31)) _)
def fX9_chalk (x1 : Int32) (S : Sg) : Option (Int32 × Sg) :=
  bd (fX9_isStroke x1 S) (fun r1 S2 => (if r1 = 0 then some ((-2 : Int32), S2) else bd (fX9_chalkOf x1 S2) (fun r3 S4 => some (r3, S4))))
set_option maxHeartbeats 4000000 in
set_option maxRecDepth 100000 in
theorem tX9_chalk (G : Gd) (l : Launch) (D : Nat) (x1 : Int32) (S : Sg) : Ct LM G l rI yX9_chalk cX9_chalk 2 (some .int) (D + 8) [.ref (G.2.1 0), .int x1] S (fX9_chalk x1 S) := by
  refine Ct.of (by decide) (Nat.le_of_ble_eq_true rfl) (fun Z hZ X => ?_)
  subst hZ
  show Go LM G Z 2 rI 0 [(0, .ref (G.2.1 0)), (1, .int x1)] [] S (fX9_chalk x1 S) kz
  unfold fX9_chalk
  refine g_aload_n 1 X 0 dX9_chalk_0 rfl rfl rfl ?_
  refine g_iload_n 2 X 1 dX9_chalk_1 rfl rfl rfl ?_
  refine g_cVi1 5 X (tX9_isStroke _ _ (D + 1) _ _) mfX9_isStroke miX9_isStroke lkX9_140 rfl rfl rfl (Nat.le_of_ble_eq_true rfl) dX9_chalk_2 rfl (fun r1 S2 => ?_)
  refine g_if_eq 16 8 X dX9_chalk_5 (by decide) rfl (fun _ => ?_) (fun _ => ?_)
  · refine g_bipush 18 X dX9_chalk_16 rfl cb_m2 ?_
    exact g_iret X dX9_chalk_18 rfl
  · refine g_aload_n 9 X 0 dX9_chalk_8 rfl rfl rfl ?_
    refine g_iload_n 10 X 1 dX9_chalk_9 rfl rfl rfl ?_
    refine g_cVi1 13 X (tX9_chalkOf _ _ (D) _ _) mfX9_chalkOf miX9_chalkOf lkX9_260 rfl rfl rfl (Nat.le_of_ble_eq_true rfl) dX9_chalk_10 rfl (fun r3 S4 => ?_)
    refine g_goto 18 X dX9_chalk_13 (by decide) ?_
    exact g_iret X dX9_chalk_18 rfl
def bX9_askOf_29 (c1 : Int32) (c3 : Int32) (rec : Int32 → Sg → Option ((Int32) × Sg)) (a7 : Int32) (S8 : Sg) : Option ((Int32) × Sg) :=
  (if (20 : Int32) ≤ a7 then some (a7, S8) else bd (fX9_standsNow a7 c1 S8) (fun r9 S10 => gd (ix (((20 : Int32) * c3) + a7) 160) (rec (a7 + (1 : Int32)) (sI S10 21 (Int32.toNatClampNeg (((20 : Int32) * c3) + a7)) r9))))
def bX9_askOf_7 (c1 : Int32) (rec : Int32 → Sg → Option ((Int32) × Sg)) (a3 : Int32) (S4 : Sg) : Option ((Int32) × Sg) :=
  (if (S4.1 0 4) ≤ a3 then some (a3, S4) else bd (fX9_runs (sI S4 0 17 ((1 : Int32) <<< (a3 &&& 31)))) (fun r5 S6 => bd (lp (bX9_askOf_29 c1 a3) fl (0 : Int32) S6) (fun (a14 : Int32) S15 => rec (a3 + (1 : Int32)) S15)))
def bX9_askOf_103 (c2 : Int32) (c5 : Int32) (c7 : Int32) (rec : (Int32 × Int32) → Sg → Option ((Int32 × Int32) × Sg)) (a25 : Int32 × Int32) (S26 : Sg) : Option ((Int32 × Int32) × Sg) :=
  (if (S26.1 0 4) ≤ a25.2 then some ((a25.1, a25.2), S26) else bd (fX9_isIn c2 c7 S26) (fun r27 S28 => bd ((if r27 = 0 then some ((0 : Int32), S28) else bd (fX9_isIn c2 a25.2 S28) (fun r32 S33 => (if r32 = 0 then some ((0 : Int32), S33) else gd (ix (((20 : Int32) * c7) + c5) 160) (gd (ix (((20 : Int32) * a25.2) + c5) 160) ((if (S33.1 21 (Int32.toNatClampNeg (((20 : Int32) * c7) + c5))) = (S33.1 21 (Int32.toNatClampNeg (((20 : Int32) * a25.2) + c5))) then some ((1 : Int32), S33) else some ((0 : Int32), S33)))))))) (fun (t29 : Int32) S30 => rec ((a25.1 + t29), (a25.2 + (1 : Int32))) S30)))
def bX9_askOf_88 (c2 : Int32) (c5 : Int32) (rec : (Int32 × Int32) → Sg → Option ((Int32 × Int32) × Sg)) (a23 : Int32 × Int32) (S24 : Sg) : Option ((Int32 × Int32) × Sg) :=
  (if (S24.1 0 4) ≤ a23.2 then some ((a23.1, a23.2), S24) else bd (lp (bX9_askOf_103 c2 c5 a23.2) fl ((0 : Int32), (0 : Int32)) S24) (fun (a37 : Int32 × Int32) S38 => bd ((if a37.1 ≤ a23.1 then some (a23.1, S38) else some (a37.1, S38))) (fun (t39 : Int32) S40 => rec (t39, (a23.2 + (1 : Int32))) S40)))
def bX9_askOf_75 (c2 : Int32) (rec : (Int32 × Int32 × Int32) → Sg → Option ((Int32 × Int32 × Int32) × Sg)) (a21 : Int32 × Int32 × Int32) (S22 : Sg) : Option ((Int32 × Int32 × Int32) × Sg) :=
  (if (20 : Int32) ≤ a21.2.2 then some ((a21.1, a21.2.1, a21.2.2), S22) else bd (lp (bX9_askOf_88 c2 a21.2.2) fl ((0 : Int32), (0 : Int32)) S22) (fun (a45 : Int32 × Int32) S46 => bd ((if a21.1 = (-1 : Int32) then some ((1 : Int32), S46) else (if a21.2.1 ≤ a45.1 then some ((0 : Int32), S46) else some ((1 : Int32), S46)))) (fun (t47 : Int32) S48 => bd ((if t47 = 0 then some (a21.1, S48) else some (a21.2.2, S48))) (fun (t50 : Int32) S51 => bd ((if t47 = 0 then some (a21.2.1, S51) else some (a45.1, S51))) (fun (t53 : Int32) S54 => rec (t50, t53, (a21.2.2 + (1 : Int32))) S54)))))
def fX9_askOf (x1 : Int32) (S : Sg) : Option (Int32 × Sg) :=
  bd (fX9_neverNow S) (fun r1 S2 => bd (lp (bX9_askOf_7 x1) fl (0 : Int32) S2) (fun (a19 : Int32) S20 => bd (lp (bX9_askOf_75 r1) fl ((-1 : Int32), (0 : Int32), (0 : Int32)) S20) (fun (a59 : Int32 × Int32 × Int32) S60 => some (a59.1, S60))))
set_option maxHeartbeats 4000000 in
set_option maxRecDepth 100000 in
theorem tX9_askOf (G : Gd) (l : Launch) (D : Nat) (x1 : Int32) (S : Sg) : Ct LM G l rI yX9_askOf cX9_askOf 10 (some .int) (D + 8) [.ref (G.2.1 0), .int x1] S (fX9_askOf x1 S) := by
  refine Ct.of (by decide) (Nat.le_of_ble_eq_true rfl) (fun Z hZ X => ?_)
  subst hZ
  show Go LM G Z 10 rI 0 [(0, .ref (G.2.1 0)), (1, .int x1)] [] S (fX9_askOf x1 S) kz
  unfold fX9_askOf
  refine g_aload_n 1 X 0 dX9_askOf_0 rfl rfl rfl ?_
  refine g_cVi0 4 X (tX9_neverNow _ _ (D)  _) mfX9_neverNow miX9_neverNow lkX9_254 rfl rfl rfl (Nat.le_of_ble_eq_true rfl) dX9_askOf_1 rfl (fun r1 S2 => ?_)
  refine g_istore_n 5 X [(2, _), (0, _), (1, _)] dX9_askOf_4 rfl rfl (Nat.le_of_ble_eq_true rfl) rfl ?_
  refine g_iconst 6 X dX9_askOf_5 rfl ci_0 ?_
  refine g_istore_n 7 X [(3, _), (2, _), (0, _), (1, _)] dX9_askOf_6 rfl rfl (Nat.le_of_ble_eq_true rfl) rfl ?_
  refine g_joinK 67 (fun (a19 : Int32) => [(0, .ref (G.2.1 0)), (2, .int r1)]) (fun (a19 : Int32) => []) (fun a19 S20 => ?_) (fun J5 => ?_)
  · refine g_iconst 68 X dX9_askOf_67 rfl ci_m1 ?_
    refine g_istore_n 69 X [(3, _), (0, _), (2, _)] dX9_askOf_68 rfl rfl (Nat.le_of_ble_eq_true rfl) rfl ?_
    refine g_iconst 70 X dX9_askOf_69 rfl ci_0 ?_
    refine g_istore 72 X [(4, _), (3, _), (0, _), (2, _)] dX9_askOf_70 rfl (Nat.le_of_ble_eq_true rfl) rfl ?_
    refine g_iconst 73 X dX9_askOf_72 rfl ci_0 ?_
    refine g_istore 75 X [(5, _), (4, _), (3, _), (0, _), (2, _)] dX9_askOf_73 rfl (Nat.le_of_ble_eq_true rfl) rfl ?_
    refine g_joinK 248 (fun (a59 : Int32 × Int32 × Int32) => [(3, .int a59.1)]) (fun (a59 : Int32 × Int32 × Int32) => []) (fun a59 S60 => ?_) (fun J23 => ?_)
    · refine g_iload_n 249 X 0 dX9_askOf_248 rfl rfl rfl ?_
      exact g_iret X dX9_askOf_249 rfl
    · refine g_sub [3, 4, 2, 1, 0] rfl (g_lp (fun (a21 : Int32 × Int32 × Int32) => [(0, .ref (G.2.1 0)), (2, .int r1), (3, .int a21.1), (4, .int a21.2.1), (5, .int a21.2.2)]) (fun rec25 ih24 a21 S22 => ?_) fl ((-1 : Int32), (0 : Int32), (0 : Int32)) _)
      unfold bX9_askOf_75
      refine g_iload 77 X 4 dX9_askOf_75 rfl rfl ?_
      refine g_bipush 79 X dX9_askOf_77 rfl cb_20 ?_
      refine g_icmp_ge 248 82 X dX9_askOf_79 (by decide) rfl (fun _ => ?_) (fun _ => ?_)
      · exact g_sub [2] rfl (J23 (a21.1, a21.2.1, a21.2.2) _)
      · refine g_iconst 83 X dX9_askOf_82 rfl ci_0 ?_
        refine g_istore 85 X [(6, _), (0, _), (2, _), (3, _), (4, _), (5, _)] dX9_askOf_83 rfl (Nat.le_of_ble_eq_true rfl) rfl ?_
        refine g_iconst 86 X dX9_askOf_85 rfl ci_0 ?_
        refine g_istore 88 X [(7, _), (6, _), (0, _), (2, _), (3, _), (4, _), (5, _)] dX9_askOf_86 rfl (Nat.le_of_ble_eq_true rfl) rfl ?_
        refine g_joinK 197 (fun (a48 : Int32 × Int32) => [(0, .ref (G.2.1 0)), (2, .int r1), (3, .int a21.1), (4, .int a21.2.1), (5, .int a21.2.2), (6, .int a48.1)]) (fun (a48 : Int32 × Int32) => []) (fun a48 S49 => ?_) (fun J28 => ?_)
        · refine g_iload_n 198 X 2 dX9_askOf_197 rfl rfl rfl ?_
          refine g_iconst 199 X dX9_askOf_198 rfl ci_m1 ?_
          refine g_joinK 214 (fun (t50 : Int32) => [(0, .ref (G.2.1 0)), (2, .int r1), (3, .int a21.1), (4, .int a21.2.1), (5, .int a21.2.2), (6, .int a48.1)]) (fun (t50 : Int32) => [.int t50]) (fun t50 S51 => ?_) (fun J52 => ?_)
          · refine g_istore 216 X [(7, _), (0, _), (2, _), (3, _), (4, _), (5, _), (6, _)] dX9_askOf_214 rfl (Nat.le_of_ble_eq_true rfl) rfl ?_
            refine g_iload 218 X 0 dX9_askOf_216 rfl rfl ?_
            refine g_joinK 227 (fun (t53 : Int32) => [(0, .ref (G.2.1 0)), (2, .int r1), (4, .int a21.2.1), (5, .int a21.2.2), (6, .int a48.1), (7, .int t50)]) (fun (t53 : Int32) => [.int t53]) (fun t53 S54 => ?_) (fun J55 => ?_)
            · refine g_istore_n 228 X [(3, _), (0, _), (2, _), (4, _), (5, _), (6, _), (7, _)] dX9_askOf_227 rfl rfl (Nat.le_of_ble_eq_true rfl) rfl ?_
              refine g_iload 230 X 6 dX9_askOf_228 rfl rfl ?_
              refine g_joinK 240 (fun (t56 : Int32) => [(0, .ref (G.2.1 0)), (2, .int r1), (3, .int t53), (5, .int a21.2.2)]) (fun (t56 : Int32) => [.int t56]) (fun t56 S57 => ?_) (fun J58 => ?_)
              · refine g_istore 242 X [(4, _), (0, _), (2, _), (3, _), (5, _)] dX9_askOf_240 rfl (Nat.le_of_ble_eq_true rfl) rfl ?_
                refine g_iinc 245 X 4 [(5, _), (4, _), (0, _), (2, _), (3, _)] dX9_askOf_242 rfl rfl (ii_1 _) (Nat.le_of_ble_eq_true rfl) rfl ?_
                refine g_goto 75 X dX9_askOf_245 (by decide) ?_
                exact g_sub [2, 3, 4, 1, 0] rfl (ih24 (t53, t56, (a21.2.2 + (1 : Int32))) _)
              · refine g_if_eq 238 233 X dX9_askOf_230 (by decide) rfl (fun _ => ?_) (fun _ => ?_)
                · refine g_iload 240 X 3 dX9_askOf_238 rfl rfl ?_
                  exact g_sub [1, 2, 0, 4] rfl (J58 a21.2.1 _)
                · refine g_iload 235 X 5 dX9_askOf_233 rfl rfl ?_
                  refine g_goto 240 X dX9_askOf_235 (by decide) ?_
                  exact g_sub [1, 2, 0, 4] rfl (J58 a48.1 _)
            · refine g_if_eq 226 221 X dX9_askOf_218 (by decide) rfl (fun _ => ?_) (fun _ => ?_)
              · refine g_iload_n 227 X 3 dX9_askOf_226 rfl rfl rfl ?_
                exact g_sub [1, 2, 4, 5, 6, 0] rfl (J55 a21.1 _)
              · refine g_iload 223 X 5 dX9_askOf_221 rfl rfl ?_
                refine g_goto 227 X dX9_askOf_223 (by decide) ?_
                exact g_sub [1, 2, 4, 5, 6, 0] rfl (J55 a21.2.2 _)
          · refine g_icmp_eq 209 202 X dX9_askOf_199 (by decide) rfl (fun _ => ?_) (fun _ => ?_)
            · refine g_iconst 210 X dX9_askOf_209 rfl ci_1 ?_
              refine g_goto 214 X dX9_askOf_210 (by decide) ?_
              exact g_sub [0, 1, 2, 3, 4, 5] rfl (J52 (1 : Int32) _)
            · refine g_iload 204 X 5 dX9_askOf_202 rfl rfl ?_
              refine g_iload 206 X 3 dX9_askOf_204 rfl rfl ?_
              refine g_icmp_ge 213 209 X dX9_askOf_206 (by decide) rfl (fun _ => ?_) (fun _ => ?_)
              · refine g_iconst 214 X dX9_askOf_213 rfl ci_0 ?_
                exact g_sub [0, 1, 2, 3, 4, 5] rfl (J52 (0 : Int32) _)
              · refine g_iconst 210 X dX9_askOf_209 rfl ci_1 ?_
                refine g_goto 214 X dX9_askOf_210 (by decide) ?_
                exact g_sub [0, 1, 2, 3, 4, 5] rfl (J52 (1 : Int32) _)
        · refine g_sub [2, 3, 4, 5, 6, 1, 0] rfl (g_lp (fun (a26 : Int32 × Int32) => [(0, .ref (G.2.1 0)), (2, .int r1), (3, .int a21.1), (4, .int a21.2.1), (5, .int a21.2.2), (6, .int a26.1), (7, .int a26.2)]) (fun rec30 ih29 a26 S27 => ?_) fl ((0 : Int32), (0 : Int32)) _)
          unfold bX9_askOf_88
          refine g_iload 90 X 6 dX9_askOf_88 rfl rfl ?_
          refine g_aload_n 91 X 0 dX9_askOf_90 rfl rfl rfl ?_
          refine g_geti 94 X rfl flX9_114 rfl dX9_askOf_91 rfl ?_
          refine g_icmp_ge 197 97 X dX9_askOf_94 (by decide) rfl (fun _ => ?_) (fun _ => ?_)
          · exact g_sub [0, 1, 2, 3, 4, 5] rfl (J28 (a26.1, a26.2) _)
          · refine g_iconst 98 X dX9_askOf_97 rfl ci_0 ?_
            refine g_istore 100 X [(8, _), (0, _), (2, _), (3, _), (4, _), (5, _), (6, _), (7, _)] dX9_askOf_98 rfl (Nat.le_of_ble_eq_true rfl) rfl ?_
            refine g_iconst 101 X dX9_askOf_100 rfl ci_0 ?_
            refine g_istore 103 X [(9, _), (8, _), (0, _), (2, _), (3, _), (4, _), (5, _), (6, _), (7, _)] dX9_askOf_101 rfl (Nat.le_of_ble_eq_true rfl) rfl ?_
            refine g_joinK 175 (fun (a43 : Int32 × Int32) => [(0, .ref (G.2.1 0)), (2, .int r1), (3, .int a21.1), (4, .int a21.2.1), (5, .int a21.2.2), (6, .int a26.1), (7, .int a26.2), (8, .int a43.1)]) (fun (a43 : Int32 × Int32) => []) (fun a43 S44 => ?_) (fun J33 => ?_)
            · refine g_iload 177 X 7 dX9_askOf_175 rfl rfl ?_
              refine g_iload 179 X 5 dX9_askOf_177 rfl rfl ?_
              refine g_joinK 189 (fun (t45 : Int32) => [(0, .ref (G.2.1 0)), (2, .int r1), (3, .int a21.1), (4, .int a21.2.1), (5, .int a21.2.2), (7, .int a26.2)]) (fun (t45 : Int32) => [.int t45]) (fun t45 S46 => ?_) (fun J47 => ?_)
              · refine g_istore 191 X [(6, _), (0, _), (2, _), (3, _), (4, _), (5, _), (7, _)] dX9_askOf_189 rfl (Nat.le_of_ble_eq_true rfl) rfl ?_
                refine g_iinc 194 X 6 [(7, _), (6, _), (0, _), (2, _), (3, _), (4, _), (5, _)] dX9_askOf_191 rfl rfl (ii_1 _) (Nat.le_of_ble_eq_true rfl) rfl ?_
                refine g_goto 88 X dX9_askOf_194 (by decide) ?_
                exact g_sub [2, 3, 4, 5, 6, 1, 0] rfl (ih29 (t45, (a26.2 + (1 : Int32))) _)
              · refine g_icmp_le 187 182 X dX9_askOf_179 (by decide) rfl (fun _ => ?_) (fun _ => ?_)
                · refine g_iload 189 X 5 dX9_askOf_187 rfl rfl ?_
                  exact g_sub [0, 1, 2, 3, 4, 6] rfl (J47 a26.1 _)
                · refine g_iload 184 X 7 dX9_askOf_182 rfl rfl ?_
                  refine g_goto 189 X dX9_askOf_184 (by decide) ?_
                  exact g_sub [0, 1, 2, 3, 4, 6] rfl (J47 a43.1 _)
            · refine g_sub [2, 3, 4, 5, 6, 7, 8, 1, 0] rfl (g_lp (fun (a31 : Int32 × Int32) => [(0, .ref (G.2.1 0)), (2, .int r1), (3, .int a21.1), (4, .int a21.2.1), (5, .int a21.2.2), (6, .int a26.1), (7, .int a26.2), (8, .int a31.1), (9, .int a31.2)]) (fun rec35 ih34 a31 S32 => ?_) fl ((0 : Int32), (0 : Int32)) _)
              unfold bX9_askOf_103
              refine g_iload 105 X 8 dX9_askOf_103 rfl rfl ?_
              refine g_aload_n 106 X 0 dX9_askOf_105 rfl rfl rfl ?_
              refine g_geti 109 X rfl flX9_114 rfl dX9_askOf_106 rfl ?_
              refine g_icmp_ge 175 112 X dX9_askOf_109 (by decide) rfl (fun _ => ?_) (fun _ => ?_)
              · exact g_sub [0, 1, 2, 3, 4, 5, 6, 7] rfl (J33 (a31.1, a31.2) _)
              · refine g_iload 114 X 7 dX9_askOf_112 rfl rfl ?_
                refine g_iload_n 115 X 1 dX9_askOf_114 rfl rfl rfl ?_
                refine g_iload 117 X 6 dX9_askOf_115 rfl rfl ?_
                refine g_cSi2 120 X (tX9_isIn _ _ (D + 7) _ _ _) mfX9_isIn msX9_isIn lkX9_167 (Nat.le_of_ble_eq_true rfl) dX9_askOf_117 rfl (fun r36 S37 => ?_)
                refine g_joinK 166 (fun (t38 : Int32) => [(0, .ref (G.2.1 0)), (2, .int r1), (3, .int a21.1), (4, .int a21.2.1), (5, .int a21.2.2), (6, .int a26.1), (7, .int a26.2), (9, .int a31.2)]) (fun (t38 : Int32) => [.int t38, .int a31.1]) (fun t38 S39 => ?_) (fun J40 => ?_)
                · refine g_iadd 167 X dX9_askOf_166 rfl ?_
                  refine g_istore 169 X [(8, _), (0, _), (2, _), (3, _), (4, _), (5, _), (6, _), (7, _), (9, _)] dX9_askOf_167 rfl (Nat.le_of_ble_eq_true rfl) rfl ?_
                  refine g_iinc 172 X 8 [(9, _), (8, _), (0, _), (2, _), (3, _), (4, _), (5, _), (6, _), (7, _)] dX9_askOf_169 rfl rfl (ii_1 _) (Nat.le_of_ble_eq_true rfl) rfl ?_
                  refine g_goto 103 X dX9_askOf_172 (by decide) ?_
                  exact g_sub [2, 3, 4, 5, 6, 7, 8, 1, 0] rfl (ih34 ((a31.1 + t38), (a31.2 + (1 : Int32))) _)
                · refine g_if_eq 165 123 X dX9_askOf_120 (by decide) rfl (fun _ => ?_) (fun _ => ?_)
                  · refine g_iconst 166 X dX9_askOf_165 rfl ci_0 ?_
                    exact g_sub [0, 1, 2, 3, 4, 5, 6, 8] rfl (J40 (0 : Int32) _)
                  · refine g_iload_n 124 X 1 dX9_askOf_123 rfl rfl rfl ?_
                    refine g_iload 126 X 8 dX9_askOf_124 rfl rfl ?_
                    refine g_cSi2 129 X (tX9_isIn _ _ (D + 7) _ _ _) mfX9_isIn msX9_isIn lkX9_167 (Nat.le_of_ble_eq_true rfl) dX9_askOf_126 rfl (fun r41 S42 => ?_)
                    refine g_if_eq 165 132 X dX9_askOf_129 (by decide) rfl (fun _ => ?_) (fun _ => ?_)
                    · refine g_iconst 166 X dX9_askOf_165 rfl ci_0 ?_
                      exact g_sub [0, 1, 2, 3, 4, 5, 6, 8] rfl (J40 (0 : Int32) _)
                    · refine g_aload_n 133 X 0 dX9_askOf_132 rfl rfl rfl ?_
                      refine g_getr 136 X 21 rfl flX9_70 rfl dX9_askOf_133 rfl ?_
                      refine g_bipush 138 X dX9_askOf_136 rfl cb_20 ?_
                      refine g_iload 140 X 6 dX9_askOf_138 rfl rfl ?_
                      refine g_imul 141 X dX9_askOf_140 rfl ?_
                      refine g_iload 143 X 4 dX9_askOf_141 rfl rfl ?_
                      refine g_iadd 144 X dX9_askOf_143 rfl ?_
                      refine g_iald 145 X rfl dX9_askOf_144 rfl ?_
                      refine g_aload_n 146 X 0 dX9_askOf_145 rfl rfl rfl ?_
                      refine g_getr 149 X 21 rfl flX9_70 rfl dX9_askOf_146 rfl ?_
                      refine g_bipush 151 X dX9_askOf_149 rfl cb_20 ?_
                      refine g_iload 153 X 8 dX9_askOf_151 rfl rfl ?_
                      refine g_imul 154 X dX9_askOf_153 rfl ?_
                      refine g_iload 156 X 4 dX9_askOf_154 rfl rfl ?_
                      refine g_iadd 157 X dX9_askOf_156 rfl ?_
                      refine g_iald 158 X rfl dX9_askOf_157 rfl ?_
                      refine g_icmp_ne 165 161 X dX9_askOf_158 (by decide) rfl (fun _ => ?_) (fun _ => ?_)
                      · refine g_iconst 166 X dX9_askOf_165 rfl ci_0 ?_
                        exact g_sub [0, 1, 2, 3, 4, 5, 6, 8] rfl (J40 (0 : Int32) _)
                      · refine g_iconst 162 X dX9_askOf_161 rfl ci_1 ?_
                        refine g_goto 166 X dX9_askOf_162 (by decide) ?_
                        exact g_sub [0, 1, 2, 3, 4, 5, 6, 8] rfl (J40 (1 : Int32) _)
  · refine g_sub [2, 3, 1, 0] rfl (g_lp (fun (a3 : Int32) => [(0, .ref (G.2.1 0)), (1, .int x1), (2, .int r1), (3, .int a3)]) (fun rec7 ih6 a3 S4 => ?_) fl (0 : Int32) _)
    unfold bX9_askOf_7
    refine g_iload_n 8 X 3 dX9_askOf_7 rfl rfl rfl ?_
    refine g_aload_n 9 X 0 dX9_askOf_8 rfl rfl rfl ?_
    refine g_geti 12 X rfl flX9_114 rfl dX9_askOf_9 rfl ?_
    refine g_icmp_ge 67 15 X dX9_askOf_12 (by decide) rfl (fun _ => ?_) (fun _ => ?_)
    · exact g_sub [0, 2] rfl (J5 a3 _)
    · refine g_aload_n 16 X 0 dX9_askOf_15 rfl rfl rfl ?_
      refine g_iconst 17 X dX9_askOf_16 rfl ci_1 ?_
      refine g_iload_n 18 X 3 dX9_askOf_17 rfl rfl rfl ?_
      refine g_ishl 19 X dX9_askOf_18 rfl ?_
      refine g_puti 22 X rfl flX9_161 fp_9_17 rfl dX9_askOf_19 rfl ?_
      refine g_aload_n 23 X 0 dX9_askOf_22 rfl rfl rfl ?_
      refine g_cVv0 26 X (tX9_runs _ _ (D + 4)  _) mfX9_runs miX9_runs lkX9_189 rfl rfl rfl (Nat.le_of_ble_eq_true rfl) dX9_askOf_23 rfl (fun r8 S9 => ?_)
      refine g_iconst 27 X dX9_askOf_26 rfl ci_0 ?_
      refine g_istore 29 X [(4, _), (0, _), (1, _), (2, _), (3, _)] dX9_askOf_27 rfl (Nat.le_of_ble_eq_true rfl) rfl ?_
      refine g_joinK 61 (fun (a17 : Int32) => [(0, .ref (G.2.1 0)), (1, .int x1), (2, .int r1), (3, .int a3)]) (fun (a17 : Int32) => []) (fun a17 S18 => ?_) (fun J12 => ?_)
      · refine g_iinc 64 X 3 [(3, _), (0, _), (1, _), (2, _)] dX9_askOf_61 rfl rfl (ii_1 _) (Nat.le_of_ble_eq_true rfl) rfl ?_
        refine g_goto 7 X dX9_askOf_64 (by decide) ?_
        exact g_sub [1, 2, 3, 0] rfl (ih6 (a3 + (1 : Int32)) _)
      · refine g_sub [1, 2, 3, 4, 0] rfl (g_lp (fun (a10 : Int32) => [(0, .ref (G.2.1 0)), (1, .int x1), (2, .int r1), (3, .int a3), (4, .int a10)]) (fun rec14 ih13 a10 S11 => ?_) fl (0 : Int32) _)
        unfold bX9_askOf_29
        refine g_iload 31 X 4 dX9_askOf_29 rfl rfl ?_
        refine g_bipush 33 X dX9_askOf_31 rfl cb_20 ?_
        refine g_icmp_ge 61 36 X dX9_askOf_33 (by decide) rfl (fun _ => ?_) (fun _ => ?_)
        · exact g_sub [0, 1, 2, 3] rfl (J12 a10 _)
        · refine g_aload_n 37 X 0 dX9_askOf_36 rfl rfl rfl ?_
          refine g_getr 40 X 21 rfl flX9_70 rfl dX9_askOf_37 rfl ?_
          refine g_bipush 42 X dX9_askOf_40 rfl cb_20 ?_
          refine g_iload_n 43 X 3 dX9_askOf_42 rfl rfl rfl ?_
          refine g_imul 44 X dX9_askOf_43 rfl ?_
          refine g_iload 46 X 4 dX9_askOf_44 rfl rfl ?_
          refine g_iadd 47 X dX9_askOf_46 rfl ?_
          refine g_aload_n 48 X 0 dX9_askOf_47 rfl rfl rfl ?_
          refine g_iload 50 X 4 dX9_askOf_48 rfl rfl ?_
          refine g_iload_n 51 X 1 dX9_askOf_50 rfl rfl rfl ?_
          refine g_cVi2 54 X (tX9_standsNow _ _ (D + 7) _ _ _) mfX9_standsNow miX9_standsNow lkX9_195 rfl rfl rfl (Nat.le_of_ble_eq_true rfl) dX9_askOf_51 rfl (fun r15 S16 => ?_)
          refine g_iast 55 X rfl dX9_askOf_54 rfl ?_
          refine g_iinc 58 X 4 [(4, _), (0, _), (1, _), (2, _), (3, _)] dX9_askOf_55 rfl rfl (ii_1 _) (Nat.le_of_ble_eq_true rfl) rfl ?_
          refine g_goto 29 X dX9_askOf_58 (by decide) ?_
          exact g_sub [1, 2, 3, 4, 0] rfl (ih13 (a10 + (1 : Int32)) _)
def fX9_ask (x1 : Int32) (S : Sg) : Option (Int32 × Sg) :=
  bd (fX9_isCell x1 S) (fun r1 S2 => (if r1 = 0 then some ((-2 : Int32), S2) else bd (fX9_askOf x1 S2) (fun r3 S4 => some (r3, S4))))
set_option maxHeartbeats 4000000 in
set_option maxRecDepth 100000 in
theorem tX9_ask (G : Gd) (l : Launch) (D : Nat) (x1 : Int32) (S : Sg) : Ct LM G l rI yX9_ask cX9_ask 2 (some .int) (D + 9) [.ref (G.2.1 0), .int x1] S (fX9_ask x1 S) := by
  refine Ct.of (by decide) (Nat.le_of_ble_eq_true rfl) (fun Z hZ X => ?_)
  subst hZ
  show Go LM G Z 2 rI 0 [(0, .ref (G.2.1 0)), (1, .int x1)] [] S (fX9_ask x1 S) kz
  unfold fX9_ask
  refine g_iload_n 1 X 1 dX9_ask_0 rfl rfl rfl ?_
  refine g_cSi1 4 X (tX9_isCell _ _ (D + 7) _ _) mfX9_isCell msX9_isCell lkX9_198 (Nat.le_of_ble_eq_true rfl) dX9_ask_1 rfl (fun r1 S2 => ?_)
  refine g_if_eq 15 7 X dX9_ask_4 (by decide) rfl (fun _ => ?_) (fun _ => ?_)
  · refine g_bipush 17 X dX9_ask_15 rfl cb_m2 ?_
    exact g_iret X dX9_ask_17 rfl
  · refine g_aload_n 8 X 0 dX9_ask_7 rfl rfl rfl ?_
    refine g_iload_n 9 X 1 dX9_ask_8 rfl rfl rfl ?_
    refine g_cVi1 12 X (tX9_askOf _ _ (D) _ _) mfX9_askOf miX9_askOf lkX9_263 rfl rfl rfl (Nat.le_of_ble_eq_true rfl) dX9_ask_9 rfl (fun r3 S4 => ?_)
    refine g_goto 17 X dX9_ask_12 (by decide) ?_
    exact g_iret X dX9_ask_17 rfl
def bX9_drynessOf_26 (c1 : Int32) (c2 : Int32) (c7 : Int32) (rec : (Int64 × Int32) → Sg → Option ((Int64 × Int32) × Sg)) (a5 : Int64 × Int32) (S6 : Sg) : Option ((Int64 × Int32) × Sg) :=
  (if c2 < a5.2 then some ((a5.1, a5.2), S6) else bd (fX9_isIn c7 a5.2 S6) (fun r7 S8 => bd ((if r7 = 0 then some ((Int32.toInt64 ((16 : Int32) - c1)), S8) else some ((Int32.toInt64 c1), S8))) (fun (t9 : Int64) S10 => bd (fX9_isIn c7 a5.2 S10) (fun r12 S13 => bd ((if r12 = 0 then gd (ix a5.2 20) (some ((S13.1 3 (Int32.toNatClampNeg a5.2)), S13)) else some ((0 : Int32), S13))) (fun (t14 : Int32) S15 => gd (ix a5.2 20) (rec ((a5.1 * t9), (a5.2 + (1 : Int32))) (sI S15 12 (Int32.toNatClampNeg a5.2) t14)))))))
def bX9_drynessOf_10 (c1 : Int32) (c2 : Int32) (c3 : Int32) (rec : (Int64 × Int32) → Sg → Option ((Int64 × Int32) × Sg)) (a3 : Int64 × Int32) (S4 : Sg) : Option ((Int64 × Int32) × Sg) :=
  (if ((1 : Int32) <<< ((c2 + (1 : Int32)) &&& 31)) ≤ a3.2 then some ((a3.1, a3.2), S4) else bd (lp (bX9_drynessOf_26 c1 c2 a3.2) fl ((1 : Int64), (0 : Int32)) S4) (fun (a20 : Int64 × Int32) S21 => bd ((if (lg_cmp a20.1 (0 : Int64)) ≤ 0 then some (a3.1, S21) else bd (fX9_runs S21) (fun r25 S26 => gd (ix c3 20) (bd ((if (S26.1 15 (Int32.toNatClampNeg c3)) = 0 then some (a20.1, S26) else some ((0 : Int64), S26))) (fun (t27 : Int64) S28 => some ((a3.1 + t27), S28)))))) (fun (t22 : Int64) S23 => rec (t22, (a3.2 + (1 : Int32))) S23)))
def fX9_drynessOf (x1 : Int32) (x2 : Int32) (x3 : Int32) (x4 : Int32) (S : Sg) : Option (Int64 × Sg) :=
  bd (fX9_asTold S) (fun r1 S2 => bd (lp (bX9_drynessOf_10 x1 x2 x3) fl ((0 : Int64), (0 : Int32)) S2) (fun (a33 : Int64 × Int32) S34 => bd (fX9_lowest a33.1 ((1 : Int64) <<< (Int32.toInt64 ((4 : Int32) * (x2 + (1 : Int32))) &&& 63)) x4 S34) (fun r35 S36 => some (r35, S36))))
set_option maxHeartbeats 4000000 in
set_option maxRecDepth 100000 in
theorem tX9_drynessOf (G : Gd) (l : Launch) (D : Nat) (x1 : Int32) (x2 : Int32) (x3 : Int32) (x4 : Int32) (S : Sg) : Ct LM G l rL yX9_drynessOf cX9_drynessOf 11 (some .long) (D + 7) [.ref (G.2.1 0), .int x1, .int x2, .int x3, .int x4] S (fX9_drynessOf x1 x2 x3 x4 S) := by
  refine Ct.of (by decide) (Nat.le_of_ble_eq_true rfl) (fun Z hZ X => ?_)
  subst hZ
  show Go LM G Z 11 rL 0 [(0, .ref (G.2.1 0)), (1, .int x1), (2, .int x2), (3, .int x3), (4, .int x4)] [] S (fX9_drynessOf x1 x2 x3 x4 S) kz
  unfold fX9_drynessOf
  refine g_aload_n 1 X 0 dX9_drynessOf_0 rfl rfl rfl ?_
  refine g_cVv0 4 X (tX9_asTold _ _ (D)  _) mfX9_asTold miX9_asTold lkX9_186 rfl rfl rfl (Nat.le_of_ble_eq_true rfl) dX9_drynessOf_1 rfl (fun r1 S2 => ?_)
  refine g_lconst (v := (0 : Int64)) 5 X dX9_drynessOf_4 rfl (by decide) ?_
  refine g_lstore 7 X [(5, _), (0, _), (1, _), (2, _), (3, _), (4, _)] dX9_drynessOf_5 rfl (Nat.le_of_ble_eq_true rfl) rfl ?_
  refine g_iconst 8 X dX9_drynessOf_7 rfl ci_0 ?_
  refine g_istore 10 X [(7, _), (5, _), (0, _), (1, _), (2, _), (3, _), (4, _)] dX9_drynessOf_8 rfl (Nat.le_of_ble_eq_true rfl) rfl ?_
  refine g_joinK 128 (fun (a33 : Int64 × Int32) => [(2, .int x2), (4, .int x4), (5, .long a33.1)]) (fun (a33 : Int64 × Int32) => []) (fun a33 S34 => ?_) (fun J5 => ?_)
  · refine g_lload 130 X 2 dX9_drynessOf_128 rfl rfl ?_
    refine g_lconst (v := (1 : Int64)) 131 X dX9_drynessOf_130 rfl (by decide) ?_
    refine g_iconst 132 X dX9_drynessOf_131 rfl ci_4 ?_
    refine g_iload_n 133 X 0 dX9_drynessOf_132 rfl rfl rfl ?_
    refine g_iconst 134 X dX9_drynessOf_133 rfl ci_1 ?_
    refine g_iadd 135 X dX9_drynessOf_134 rfl ?_
    refine g_imul 136 X dX9_drynessOf_135 rfl ?_
    refine g_lshl 137 X dX9_drynessOf_136 rfl ?_
    refine g_iload 139 X 1 dX9_drynessOf_137 rfl rfl ?_
    refine g_cSl3 142 X (tX9_lowest _ _ (D + 6) _ _ _ _) mfX9_lowest msX9_lowest lkX9_266 (Nat.le_of_ble_eq_true rfl) dX9_drynessOf_139 rfl (fun r35 S36 => ?_)
    exact g_lret X dX9_drynessOf_142 rfl
  · refine g_sub [2, 3, 4, 5, 6, 1, 0] rfl (g_lp (fun (a3 : Int64 × Int32) => [(0, .ref (G.2.1 0)), (1, .int x1), (2, .int x2), (3, .int x3), (4, .int x4), (5, .long a3.1), (7, .int a3.2)]) (fun rec7 ih6 a3 S4 => ?_) fl ((0 : Int64), (0 : Int32)) _)
    unfold bX9_drynessOf_10
    refine g_iload 12 X 6 dX9_drynessOf_10 rfl rfl ?_
    refine g_iconst 13 X dX9_drynessOf_12 rfl ci_1 ?_
    refine g_iload_n 14 X 2 dX9_drynessOf_13 rfl rfl rfl ?_
    refine g_iconst 15 X dX9_drynessOf_14 rfl ci_1 ?_
    refine g_iadd 16 X dX9_drynessOf_15 rfl ?_
    refine g_ishl 17 X dX9_drynessOf_16 rfl ?_
    refine g_icmp_ge 128 20 X dX9_drynessOf_17 (by decide) rfl (fun _ => ?_) (fun _ => ?_)
    · exact g_sub [2, 4, 5] rfl (J5 (a3.1, a3.2) _)
    · refine g_lconst (v := (1 : Int64)) 21 X dX9_drynessOf_20 rfl (by decide) ?_
      refine g_lstore 23 X [(8, _), (0, _), (1, _), (2, _), (3, _), (4, _), (5, _), (7, _)] dX9_drynessOf_21 rfl (Nat.le_of_ble_eq_true rfl) rfl ?_
      refine g_iconst 24 X dX9_drynessOf_23 rfl ci_0 ?_
      refine g_istore 26 X [(10, _), (8, _), (0, _), (1, _), (2, _), (3, _), (4, _), (5, _), (7, _)] dX9_drynessOf_24 rfl (Nat.le_of_ble_eq_true rfl) rfl ?_
      refine g_joinK 91 (fun (a23 : Int64 × Int32) => [(0, .ref (G.2.1 0)), (1, .int x1), (2, .int x2), (3, .int x3), (4, .int x4), (5, .long a3.1), (7, .int a3.2), (8, .long a23.1)]) (fun (a23 : Int64 × Int32) => []) (fun a23 S24 => ?_) (fun J10 => ?_)
      · refine g_lload 93 X 7 dX9_drynessOf_91 rfl rfl ?_
        refine g_lconst (v := (0 : Int64)) 94 X dX9_drynessOf_93 rfl (by decide) ?_
        refine g_lcmp 95 X dX9_drynessOf_94 rfl ?_
        refine g_joinK 122 (fun (t25 : Int64) => [(0, .ref (G.2.1 0)), (1, .int x1), (2, .int x2), (3, .int x3), (4, .int x4), (5, .long t25), (7, .int a3.2)]) (fun (t25 : Int64) => []) (fun t25 S26 => ?_) (fun J27 => ?_)
        · refine g_iinc 125 X 6 [(7, _), (0, _), (1, _), (2, _), (3, _), (4, _), (5, _)] dX9_drynessOf_122 rfl rfl (ii_1 _) (Nat.le_of_ble_eq_true rfl) rfl ?_
          refine g_goto 10 X dX9_drynessOf_125 (by decide) ?_
          exact g_sub [1, 2, 3, 4, 5, 6, 0] rfl (ih6 (t25, (a3.2 + (1 : Int32))) _)
        · refine g_if_le 122 98 X dX9_drynessOf_95 (by decide) rfl (fun _ => ?_) (fun _ => ?_)
          · exact g_sub [0, 1, 2, 3, 4, 5, 6] rfl (J27 a3.1 _)
          · refine g_aload_n 99 X 0 dX9_drynessOf_98 rfl rfl rfl ?_
            refine g_cVv0 102 X (tX9_runs _ _ (D + 3)  _) mfX9_runs miX9_runs lkX9_189 rfl rfl rfl (Nat.le_of_ble_eq_true rfl) dX9_drynessOf_99 rfl (fun r28 S29 => ?_)
            refine g_lload 104 X 5 dX9_drynessOf_102 rfl rfl ?_
            refine g_aload_n 105 X 0 dX9_drynessOf_104 rfl rfl rfl ?_
            refine g_getr 108 X 15 rfl flX9_52 rfl dX9_drynessOf_105 rfl ?_
            refine g_iload_n 109 X 3 dX9_drynessOf_108 rfl rfl rfl ?_
            refine g_iald 110 X rfl dX9_drynessOf_109 rfl ?_
            refine g_joinK 119 (fun (t30 : Int64) => [(0, .ref (G.2.1 0)), (1, .int x1), (2, .int x2), (3, .int x3), (4, .int x4), (7, .int a3.2)]) (fun (t30 : Int64) => [.long t30, .long a3.1]) (fun t30 S31 => ?_) (fun J32 => ?_)
            · refine g_ladd 120 X dX9_drynessOf_119 rfl ?_
              refine g_lstore 122 X [(5, _), (0, _), (1, _), (2, _), (3, _), (4, _), (7, _)] dX9_drynessOf_120 rfl (Nat.le_of_ble_eq_true rfl) rfl ?_
              exact g_sub [1, 2, 3, 4, 5, 0, 6] rfl (J27 (a3.1 + t30) _)
            · refine g_if_ne 118 113 X dX9_drynessOf_110 (by decide) rfl (fun _ => ?_) (fun _ => ?_)
              · refine g_lconst (v := (0 : Int64)) 119 X dX9_drynessOf_118 rfl (by decide) ?_
                exact g_sub [0, 1, 2, 3, 4, 6] rfl (J32 (0 : Int64) _)
              · refine g_lload 115 X 7 dX9_drynessOf_113 rfl rfl ?_
                refine g_goto 119 X dX9_drynessOf_115 (by decide) ?_
                exact g_sub [0, 1, 2, 3, 4, 6] rfl (J32 a23.1 _)
      · refine g_sub [2, 3, 4, 5, 6, 7, 8, 1, 0] rfl (g_lp (fun (a8 : Int64 × Int32) => [(0, .ref (G.2.1 0)), (1, .int x1), (2, .int x2), (3, .int x3), (4, .int x4), (5, .long a3.1), (7, .int a3.2), (8, .long a8.1), (10, .int a8.2)]) (fun rec12 ih11 a8 S9 => ?_) fl ((1 : Int64), (0 : Int32)) _)
        unfold bX9_drynessOf_26
        refine g_iload 28 X 8 dX9_drynessOf_26 rfl rfl ?_
        refine g_iload_n 29 X 2 dX9_drynessOf_28 rfl rfl rfl ?_
        refine g_icmp_gt 91 32 X dX9_drynessOf_29 (by decide) rfl (fun _ => ?_) (fun _ => ?_)
        · exact g_sub [0, 1, 2, 3, 4, 5, 6, 7] rfl (J10 (a8.1, a8.2) _)
        · refine g_lload 34 X 7 dX9_drynessOf_32 rfl rfl ?_
          refine g_iload 36 X 6 dX9_drynessOf_34 rfl rfl ?_
          refine g_iload 38 X 8 dX9_drynessOf_36 rfl rfl ?_
          refine g_cSi2 41 X (tX9_isIn _ _ (D + 6) _ _ _) mfX9_isIn msX9_isIn lkX9_167 (Nat.le_of_ble_eq_true rfl) dX9_drynessOf_38 rfl (fun r13 S14 => ?_)
          refine g_joinK 54 (fun (t15 : Int64) => [(0, .ref (G.2.1 0)), (1, .int x1), (2, .int x2), (3, .int x3), (4, .int x4), (5, .long a3.1), (7, .int a3.2), (10, .int a8.2)]) (fun (t15 : Int64) => [.long t15, .long a8.1]) (fun t15 S16 => ?_) (fun J17 => ?_)
          · refine g_lmul 55 X dX9_drynessOf_54 rfl ?_
            refine g_lstore 57 X [(8, _), (0, _), (1, _), (2, _), (3, _), (4, _), (5, _), (7, _), (10, _)] dX9_drynessOf_55 rfl (Nat.le_of_ble_eq_true rfl) rfl ?_
            refine g_aload_n 58 X 1 dX9_drynessOf_57 rfl rfl rfl ?_
            refine g_getr 61 X 12 rfl flX9_43 rfl dX9_drynessOf_58 rfl ?_
            refine g_iload 63 X 8 dX9_drynessOf_61 rfl rfl ?_
            refine g_iload 65 X 7 dX9_drynessOf_63 rfl rfl ?_
            refine g_iload 67 X 8 dX9_drynessOf_65 rfl rfl ?_
            refine g_cSi2 70 X (tX9_isIn _ _ (D + 6) _ _ _) mfX9_isIn msX9_isIn lkX9_167 (Nat.le_of_ble_eq_true rfl) dX9_drynessOf_67 rfl (fun r18 S19 => ?_)
            refine g_joinK 84 (fun (t20 : Int32) => [(0, .ref (G.2.1 0)), (1, .int x1), (2, .int x2), (3, .int x3), (4, .int x4), (5, .long a3.1), (7, .int a3.2), (8, .long (a8.1 * t15)), (10, .int a8.2)]) (fun (t20 : Int32) => [.int t20, .int a8.2, .ref (G.2.1 12)]) (fun t20 S21 => ?_) (fun J22 => ?_)
            · refine g_iast 85 X rfl dX9_drynessOf_84 rfl ?_
              refine g_iinc 88 X 8 [(10, _), (0, _), (1, _), (2, _), (3, _), (4, _), (5, _), (7, _), (8, _)] dX9_drynessOf_85 rfl rfl (ii_1 _) (Nat.le_of_ble_eq_true rfl) rfl ?_
              refine g_goto 26 X dX9_drynessOf_88 (by decide) ?_
              exact g_sub [1, 2, 3, 4, 5, 6, 7, 8, 0] rfl (ih11 ((a8.1 * t15), (a8.2 + (1 : Int32))) _)
            · refine g_if_eq 77 73 X dX9_drynessOf_70 (by decide) rfl (fun _ => ?_) (fun _ => ?_)
              · refine g_aload_n 78 X 1 dX9_drynessOf_77 rfl rfl rfl ?_
                refine g_getr 81 X 3 rfl flX9_16 rfl dX9_drynessOf_78 rfl ?_
                refine g_iload 83 X 8 dX9_drynessOf_81 rfl rfl ?_
                refine g_iald 84 X rfl dX9_drynessOf_83 rfl ?_
                exact g_sub [1, 2, 3, 4, 5, 6, 7, 0, 8] rfl (J22 (S19.1 3 (Int32.toNatClampNeg a8.2)) _)
              · refine g_iconst 74 X dX9_drynessOf_73 rfl ci_0 ?_
                refine g_goto 84 X dX9_drynessOf_74 (by decide) ?_
                exact g_sub [1, 2, 3, 4, 5, 6, 7, 0, 8] rfl (J22 (0 : Int32) _)
          · refine g_if_eq 49 44 X dX9_drynessOf_41 (by decide) rfl (fun _ => ?_) (fun _ => ?_)
            · refine g_bipush 51 X dX9_drynessOf_49 rfl cb_16 ?_
              refine g_iload_n 52 X 1 dX9_drynessOf_51 rfl rfl rfl ?_
              refine g_isub 53 X dX9_drynessOf_52 rfl ?_
              refine g_i2l 54 X dX9_drynessOf_53 rfl ?_
              exact g_sub [0, 1, 2, 3, 4, 5, 6, 8] rfl (J17 (Int32.toInt64 ((16 : Int32) - x1)) _)
            · refine g_iload_n 45 X 1 dX9_drynessOf_44 rfl rfl rfl ?_
              refine g_i2l 46 X dX9_drynessOf_45 rfl ?_
              refine g_goto 54 X dX9_drynessOf_46 (by decide) ?_
              exact g_sub [0, 1, 2, 3, 4, 5, 6, 8] rfl (J17 (Int32.toInt64 x1) _)
def fX9_dryness (x1 : Int32) (x2 : Int32) (x3 : Int32) (x4 : Int32) (S : Sg) : Option (Int64 × Sg) :=
  bd (fX9_in x1 (0 : Int32) (16 : Int32) S) (fun r1 S2 => (if r1 = 0 then bd (fX9_no (-2 : Int32) S2) (fun r3 S4 => some (r3, S4)) else bd (fX9_in x2 (0 : Int32) (9 : Int32) S2) (fun r5 S6 => (if r5 = 0 then bd (fX9_no (-2 : Int32) S6) (fun r7 S8 => some (r7, S8)) else bd (fX9_isDay x3 S6) (fun r9 S10 => (if r9 = 0 then bd (fX9_no (-2 : Int32) S10) (fun r11 S12 => some (r11, S12)) else bd (fX9_in x4 (0 : Int32) (1 : Int32) S10) (fun r13 S14 => (if r13 = 0 then bd (fX9_no (-2 : Int32) S14) (fun r15 S16 => some (r15, S16)) else bd (fX9_drynessOf x1 x2 x3 x4 S14) (fun r17 S18 => some (r17, S18))))))))))
set_option maxHeartbeats 4000000 in
set_option maxRecDepth 100000 in
theorem tX9_dryness (G : Gd) (l : Launch) (D : Nat) (x1 : Int32) (x2 : Int32) (x3 : Int32) (x4 : Int32) (S : Sg) : Ct LM G l rL yX9_dryness cX9_dryness 5 (some .long) (D + 8) [.ref (G.2.1 0), .int x1, .int x2, .int x3, .int x4] S (fX9_dryness x1 x2 x3 x4 S) := by
  refine Ct.of (by decide) (Nat.le_of_ble_eq_true rfl) (fun Z hZ X => ?_)
  subst hZ
  show Go LM G Z 5 rL 0 [(0, .ref (G.2.1 0)), (1, .int x1), (2, .int x2), (3, .int x3), (4, .int x4)] [] S (fX9_dryness x1 x2 x3 x4 S) kz
  unfold fX9_dryness
  refine g_iload_n 1 X 1 dX9_dryness_0 rfl rfl rfl ?_
  refine g_iconst 2 X dX9_dryness_1 rfl ci_0 ?_
  refine g_bipush 4 X dX9_dryness_2 rfl cb_16 ?_
  refine g_cSi3 7 X (tX9_in _ _ (D + 7) _ _ _ _) mfX9_in msX9_in lkX9_95 (Nat.le_of_ble_eq_true rfl) dX9_dryness_4 rfl (fun r1 S2 => ?_)
  refine g_if_eq 49 10 X dX9_dryness_7 (by decide) rfl (fun _ => ?_) (fun _ => ?_)
  · refine g_bipush 51 X dX9_dryness_49 rfl cb_m2 ?_
    refine g_cSl1 54 X (tX9_no _ _ (D + 7) _ _) mfX9_no msX9_no lkX9_274 (Nat.le_of_ble_eq_true rfl) dX9_dryness_51 rfl (fun r3 S4 => ?_)
    exact g_lret X dX9_dryness_54 rfl
  · refine g_iload_n 11 X 2 dX9_dryness_10 rfl rfl rfl ?_
    refine g_iconst 12 X dX9_dryness_11 rfl ci_0 ?_
    refine g_bipush 14 X dX9_dryness_12 rfl cb_9 ?_
    refine g_cSi3 17 X (tX9_in _ _ (D + 7) _ _ _ _) mfX9_in msX9_in lkX9_95 (Nat.le_of_ble_eq_true rfl) dX9_dryness_14 rfl (fun r5 S6 => ?_)
    refine g_if_eq 49 20 X dX9_dryness_17 (by decide) rfl (fun _ => ?_) (fun _ => ?_)
    · refine g_bipush 51 X dX9_dryness_49 rfl cb_m2 ?_
      refine g_cSl1 54 X (tX9_no _ _ (D + 7) _ _) mfX9_no msX9_no lkX9_274 (Nat.le_of_ble_eq_true rfl) dX9_dryness_51 rfl (fun r7 S8 => ?_)
      exact g_lret X dX9_dryness_54 rfl
    · refine g_iload_n 21 X 3 dX9_dryness_20 rfl rfl rfl ?_
      refine g_cSi1 24 X (tX9_isDay _ _ (D + 6) _ _) mfX9_isDay msX9_isDay lkX9_134 (Nat.le_of_ble_eq_true rfl) dX9_dryness_21 rfl (fun r9 S10 => ?_)
      refine g_if_eq 49 27 X dX9_dryness_24 (by decide) rfl (fun _ => ?_) (fun _ => ?_)
      · refine g_bipush 51 X dX9_dryness_49 rfl cb_m2 ?_
        refine g_cSl1 54 X (tX9_no _ _ (D + 7) _ _) mfX9_no msX9_no lkX9_274 (Nat.le_of_ble_eq_true rfl) dX9_dryness_51 rfl (fun r11 S12 => ?_)
        exact g_lret X dX9_dryness_54 rfl
      · refine g_iload 29 X 4 dX9_dryness_27 rfl rfl ?_
        refine g_iconst 30 X dX9_dryness_29 rfl ci_0 ?_
        refine g_iconst 31 X dX9_dryness_30 rfl ci_1 ?_
        refine g_cSi3 34 X (tX9_in _ _ (D + 7) _ _ _ _) mfX9_in msX9_in lkX9_95 (Nat.le_of_ble_eq_true rfl) dX9_dryness_31 rfl (fun r13 S14 => ?_)
        refine g_if_eq 49 37 X dX9_dryness_34 (by decide) rfl (fun _ => ?_) (fun _ => ?_)
        · refine g_bipush 51 X dX9_dryness_49 rfl cb_m2 ?_
          refine g_cSl1 54 X (tX9_no _ _ (D + 7) _ _) mfX9_no msX9_no lkX9_274 (Nat.le_of_ble_eq_true rfl) dX9_dryness_51 rfl (fun r15 S16 => ?_)
          exact g_lret X dX9_dryness_54 rfl
        · refine g_aload_n 38 X 0 dX9_dryness_37 rfl rfl rfl ?_
          refine g_iload_n 39 X 1 dX9_dryness_38 rfl rfl rfl ?_
          refine g_iload_n 40 X 2 dX9_dryness_39 rfl rfl rfl ?_
          refine g_iload_n 41 X 3 dX9_dryness_40 rfl rfl rfl ?_
          refine g_iload 43 X 4 dX9_dryness_41 rfl rfl ?_
          refine g_cVl4 46 X (tX9_drynessOf _ _ (D) _ _ _ _ _) mfX9_drynessOf miX9_drynessOf lkX9_270 rfl rfl rfl (Nat.le_of_ble_eq_true rfl) dX9_dryness_43 rfl (fun r17 S18 => ?_)
          refine g_goto 54 X dX9_dryness_46 (by decide) ?_
          exact g_lret X dX9_dryness_54 rfl
def bX9_weatherOf_13 (c2 : Int32) (rec : (Int32 × Int32) → Sg → Option ((Int32 × Int32) × Sg)) (a3 : Int32 × Int32) (S4 : Sg) : Option ((Int32 × Int32) × Sg) :=
  (if (20 : Int32) ≤ a3.2 then some ((a3.1, a3.2), S4) else bd ((if c2 ≤ a3.2 then some (a3.1, S4) else some ((((1103515245 : Int32) * a3.1) + (12345 : Int32)), S4))) (fun (t5 : Int32) S6 => bd ((if c2 ≤ a3.2 then some ((0 : Int32), S6) else some (((ush t5 (16 : Int32)) - (ush t5 (16 : Int32)) / (10 : Int32) * (10 : Int32)), S6))) (fun (t8 : Int32) S9 => gd (ix a3.2 20) (rec (t5, (a3.2 + (1 : Int32))) (sI S9 12 (Int32.toNatClampNeg a3.2) t8)))))
def bX9_weatherOf_81 (rec : (Int32 × Int32) → Sg → Option ((Int32 × Int32) × Sg)) (a18 : Int32 × Int32) (S19 : Sg) : Option ((Int32 × Int32) × Sg) :=
  (if (20 : Int32) ≤ a18.2 then some ((a18.1, a18.2), S19) else gd (ix a18.2 20) (bd ((if (S19.1 15 (Int32.toNatClampNeg a18.2)) = 0 then some ((0 : Int32), S19) else some ((1 : Int32), S19))) (fun (t20 : Int32) S21 => rec ((a18.1 + t20), (a18.2 + (1 : Int32))) S21)))
def fX9_weatherOf (x1 : Int32) (x2 : Int32) (x3 : Int32) (S : Sg) : Option (Int32 × Sg) :=
  bd (fX9_asTold S) (fun r1 S2 => bd (lp (bX9_weatherOf_13 x2) fl (x1, (0 : Int32)) S2) (fun (a14 : Int32 × Int32) S15 => bd (fX9_runs S15) (fun r16 S17 => bd (lp (bX9_weatherOf_81) fl ((0 : Int32), (0 : Int32)) S17) (fun (a26 : Int32 × Int32) S27 => (if x3 = 0 then bd (fX9_allUp S27) (fun r28 S29 => some (r28, S29)) else some (a26.1, S27))))))
set_option maxHeartbeats 4000000 in
set_option maxRecDepth 100000 in
theorem tX9_weatherOf (G : Gd) (l : Launch) (D : Nat) (x1 : Int32) (x2 : Int32) (x3 : Int32) (S : Sg) : Ct LM G l rI yX9_weatherOf cX9_weatherOf 7 (some .int) (D + 7) [.ref (G.2.1 0), .int x1, .int x2, .int x3] S (fX9_weatherOf x1 x2 x3 S) := by
  refine Ct.of (by decide) (Nat.le_of_ble_eq_true rfl) (fun Z hZ X => ?_)
  subst hZ
  show Go LM G Z 7 rI 0 [(0, .ref (G.2.1 0)), (1, .int x1), (2, .int x2), (3, .int x3)] [] S (fX9_weatherOf x1 x2 x3 S) kz
  unfold fX9_weatherOf
  refine g_aload_n 1 X 0 dX9_weatherOf_0 rfl rfl rfl ?_
  refine g_cVv0 4 X (tX9_asTold _ _ (D)  _) mfX9_asTold miX9_asTold lkX9_186 rfl rfl rfl (Nat.le_of_ble_eq_true rfl) dX9_weatherOf_1 rfl (fun r1 S2 => ?_)
  refine g_iload_n 5 X 1 dX9_weatherOf_4 rfl rfl rfl ?_
  refine g_istore 7 X [(4, _), (0, _), (1, _), (2, _), (3, _)] dX9_weatherOf_5 rfl (Nat.le_of_ble_eq_true rfl) rfl ?_
  refine g_iconst 8 X dX9_weatherOf_7 rfl ci_0 ?_
  refine g_istore 10 X [(5, _), (4, _), (0, _), (1, _), (2, _), (3, _)] dX9_weatherOf_8 rfl (Nat.le_of_ble_eq_true rfl) rfl ?_
  refine g_iconst 11 X dX9_weatherOf_10 rfl ci_0 ?_
  refine g_istore 13 X [(6, _), (5, _), (4, _), (0, _), (1, _), (2, _), (3, _)] dX9_weatherOf_11 rfl (Nat.le_of_ble_eq_true rfl) rfl ?_
  refine g_joinK 74 (fun (a14 : Int32 × Int32) => [(0, .ref (G.2.1 0)), (3, .int x3), (5, .int (0 : Int32))]) (fun (a14 : Int32 × Int32) => []) (fun a14 S15 => ?_) (fun J5 => ?_)
  · refine g_aload_n 75 X 0 dX9_weatherOf_74 rfl rfl rfl ?_
    refine g_cVv0 78 X (tX9_runs _ _ (D + 3)  _) mfX9_runs miX9_runs lkX9_189 rfl rfl rfl (Nat.le_of_ble_eq_true rfl) dX9_weatherOf_75 rfl (fun r16 S17 => ?_)
    refine g_iconst 79 X dX9_weatherOf_78 rfl ci_0 ?_
    refine g_istore 81 X [(6, _), (0, _), (3, _), (5, _)] dX9_weatherOf_79 rfl (Nat.le_of_ble_eq_true rfl) rfl ?_
    refine g_joinK 114 (fun (a26 : Int32 × Int32) => [(0, .ref (G.2.1 0)), (3, .int x3), (5, .int a26.1)]) (fun (a26 : Int32 × Int32) => []) (fun a26 S27 => ?_) (fun J20 => ?_)
    · refine g_iload_n 115 X 1 dX9_weatherOf_114 rfl rfl rfl ?_
      refine g_if_ne 125 118 X dX9_weatherOf_115 (by decide) rfl (fun _ => ?_) (fun _ => ?_)
      · refine g_iload 127 X 2 dX9_weatherOf_125 rfl rfl ?_
        exact g_iret X dX9_weatherOf_127 rfl
      · refine g_aload_n 119 X 0 dX9_weatherOf_118 rfl rfl rfl ?_
        refine g_cVi0 122 X (tX9_allUp _ _ (D + 5)  _) mfX9_allUp miX9_allUp lkX9_232 rfl rfl rfl (Nat.le_of_ble_eq_true rfl) dX9_weatherOf_119 rfl (fun r28 S29 => ?_)
        refine g_goto 127 X dX9_weatherOf_122 (by decide) ?_
        exact g_iret X dX9_weatherOf_127 rfl
    · refine g_sub [1, 2, 3, 0] rfl (g_lp (fun (a18 : Int32 × Int32) => [(0, .ref (G.2.1 0)), (3, .int x3), (5, .int a18.1), (6, .int a18.2)]) (fun rec22 ih21 a18 S19 => ?_) fl ((0 : Int32), (0 : Int32)) _)
      unfold bX9_weatherOf_81
      refine g_iload 83 X 3 dX9_weatherOf_81 rfl rfl ?_
      refine g_bipush 85 X dX9_weatherOf_83 rfl cb_20 ?_
      refine g_icmp_ge 114 88 X dX9_weatherOf_85 (by decide) rfl (fun _ => ?_) (fun _ => ?_)
      · exact g_sub [0, 1, 2] rfl (J20 (a18.1, a18.2) _)
      · refine g_iload 90 X 2 dX9_weatherOf_88 rfl rfl ?_
        refine g_aload_n 91 X 0 dX9_weatherOf_90 rfl rfl rfl ?_
        refine g_getr 94 X 15 rfl flX9_52 rfl dX9_weatherOf_91 rfl ?_
        refine g_iload 96 X 3 dX9_weatherOf_94 rfl rfl ?_
        refine g_iald 97 X rfl dX9_weatherOf_96 rfl ?_
        refine g_joinK 105 (fun (t23 : Int32) => [(0, .ref (G.2.1 0)), (3, .int x3), (6, .int a18.2)]) (fun (t23 : Int32) => [.int t23, .int a18.1]) (fun t23 S24 => ?_) (fun J25 => ?_)
        · refine g_iadd 106 X dX9_weatherOf_105 rfl ?_
          refine g_istore 108 X [(5, _), (0, _), (3, _), (6, _)] dX9_weatherOf_106 rfl (Nat.le_of_ble_eq_true rfl) rfl ?_
          refine g_iinc 111 X 3 [(6, _), (5, _), (0, _), (3, _)] dX9_weatherOf_108 rfl rfl (ii_1 _) (Nat.le_of_ble_eq_true rfl) rfl ?_
          refine g_goto 81 X dX9_weatherOf_111 (by decide) ?_
          exact g_sub [2, 3, 1, 0] rfl (ih21 ((a18.1 + t23), (a18.2 + (1 : Int32))) _)
        · refine g_if_eq 104 100 X dX9_weatherOf_97 (by decide) rfl (fun _ => ?_) (fun _ => ?_)
          · refine g_iconst 105 X dX9_weatherOf_104 rfl ci_0 ?_
            exact g_sub [0, 1, 3] rfl (J25 (0 : Int32) _)
          · refine g_iconst 101 X dX9_weatherOf_100 rfl ci_1 ?_
            refine g_goto 105 X dX9_weatherOf_101 (by decide) ?_
            exact g_sub [0, 1, 3] rfl (J25 (1 : Int32) _)
  · refine g_sub [3, 5, 6, 2, 1, 0] rfl (g_lp (fun (a3 : Int32 × Int32) => [(0, .ref (G.2.1 0)), (2, .int x2), (3, .int x3), (4, .int a3.1), (5, .int (0 : Int32)), (6, .int a3.2)]) (fun rec7 ih6 a3 S4 => ?_) fl (x1, (0 : Int32)) _)
    unfold bX9_weatherOf_13
    refine g_iload 15 X 5 dX9_weatherOf_13 rfl rfl ?_
    refine g_bipush 17 X dX9_weatherOf_15 rfl cb_20 ?_
    refine g_icmp_ge 74 20 X dX9_weatherOf_17 (by decide) rfl (fun _ => ?_) (fun _ => ?_)
    · exact g_sub [0, 2, 4] rfl (J5 (a3.1, a3.2) _)
    · refine g_iload 22 X 5 dX9_weatherOf_20 rfl rfl ?_
      refine g_iload_n 23 X 1 dX9_weatherOf_22 rfl rfl rfl ?_
      refine g_joinK 41 (fun (t8 : Int32) => [(0, .ref (G.2.1 0)), (2, .int x2), (3, .int x3), (5, .int (0 : Int32)), (6, .int a3.2)]) (fun (t8 : Int32) => [.int t8]) (fun t8 S9 => ?_) (fun J10 => ?_)
      · refine g_istore 43 X [(4, _), (0, _), (2, _), (3, _), (5, _), (6, _)] dX9_weatherOf_41 rfl (Nat.le_of_ble_eq_true rfl) rfl ?_
        refine g_aload_n 44 X 1 dX9_weatherOf_43 rfl rfl rfl ?_
        refine g_getr 47 X 12 rfl flX9_43 rfl dX9_weatherOf_44 rfl ?_
        refine g_iload 49 X 5 dX9_weatherOf_47 rfl rfl ?_
        refine g_iload 51 X 5 dX9_weatherOf_49 rfl rfl ?_
        refine g_iload_n 52 X 2 dX9_weatherOf_51 rfl rfl rfl ?_
        refine g_joinK 67 (fun (t11 : Int32) => [(0, .ref (G.2.1 0)), (2, .int x2), (3, .int x3), (4, .int t8), (5, .int (0 : Int32)), (6, .int a3.2)]) (fun (t11 : Int32) => [.int t11, .int a3.2, .ref (G.2.1 12)]) (fun t11 S12 => ?_) (fun J13 => ?_)
        · refine g_iast 68 X rfl dX9_weatherOf_67 rfl ?_
          refine g_iinc 71 X 5 [(6, _), (0, _), (2, _), (3, _), (4, _), (5, _)] dX9_weatherOf_68 rfl rfl (ii_1 _) (Nat.le_of_ble_eq_true rfl) rfl ?_
          refine g_goto 13 X dX9_weatherOf_71 (by decide) ?_
          exact g_sub [1, 2, 3, 4, 5, 0] rfl (ih6 (t8, (a3.2 + (1 : Int32))) _)
        · refine g_icmp_ge 66 55 X dX9_weatherOf_52 (by decide) rfl (fun _ => ?_) (fun _ => ?_)
          · refine g_iconst 67 X dX9_weatherOf_66 rfl ci_0 ?_
            exact g_sub [1, 2, 3, 0, 4, 5] rfl (J13 (0 : Int32) _)
          · refine g_iload 57 X 0 dX9_weatherOf_55 rfl rfl ?_
            refine g_bipush 59 X dX9_weatherOf_57 rfl cb_16 ?_
            refine g_iushr 60 X dX9_weatherOf_59 rfl ?_
            refine g_bipush 62 X dX9_weatherOf_60 rfl cb_10 ?_
            refine g_irem 63 X dX9_weatherOf_62 rfl (by decide) ?_
            refine g_goto 67 X dX9_weatherOf_63 (by decide) ?_
            exact g_sub [1, 2, 3, 0, 4, 5] rfl (J13 ((ush t8 (16 : Int32)) - (ush t8 (16 : Int32)) / (10 : Int32) * (10 : Int32)) _)
      · refine g_icmp_ge 39 26 X dX9_weatherOf_23 (by decide) rfl (fun _ => ?_) (fun _ => ?_)
        · refine g_iload 41 X 3 dX9_weatherOf_39 rfl rfl ?_
          exact g_sub [0, 1, 2, 4, 5] rfl (J10 a3.1 _)
        · refine g_ldcw 29 X dX9_weatherOf_26 rfl conX9_278 ?_
          refine g_iload 31 X 3 dX9_weatherOf_29 rfl rfl ?_
          refine g_imul 32 X dX9_weatherOf_31 rfl ?_
          refine g_sipush 35 X dX9_weatherOf_32 rfl cs_12345 ?_
          refine g_iadd 36 X dX9_weatherOf_35 rfl ?_
          refine g_goto 41 X dX9_weatherOf_36 (by decide) ?_
          exact g_sub [0, 1, 2, 4, 5] rfl (J10 (((1103515245 : Int32) * a3.1) + (12345 : Int32)) _)
def fX9_weather (x1 : Int32) (x2 : Int32) (x3 : Int32) (S : Sg) : Option (Int32 × Sg) :=
  bd (fX9_in x2 (1 : Int32) (20 : Int32) S) (fun r1 S2 => (if r1 = 0 then some ((-2 : Int32), S2) else bd (fX9_in x3 (0 : Int32) (1 : Int32) S2) (fun r3 S4 => (if r3 = 0 then some ((-2 : Int32), S4) else bd (fX9_weatherOf x1 x2 x3 S4) (fun r5 S6 => some (r5, S6))))))
set_option maxHeartbeats 4000000 in
set_option maxRecDepth 100000 in
theorem tX9_weather (G : Gd) (l : Launch) (D : Nat) (x1 : Int32) (x2 : Int32) (x3 : Int32) (S : Sg) : Ct LM G l rI yX9_weather cX9_weather 4 (some .int) (D + 8) [.ref (G.2.1 0), .int x1, .int x2, .int x3] S (fX9_weather x1 x2 x3 S) := by
  refine Ct.of (by decide) (Nat.le_of_ble_eq_true rfl) (fun Z hZ X => ?_)
  subst hZ
  show Go LM G Z 4 rI 0 [(0, .ref (G.2.1 0)), (1, .int x1), (2, .int x2), (3, .int x3)] [] S (fX9_weather x1 x2 x3 S) kz
  unfold fX9_weather
  refine g_iload_n 1 X 2 dX9_weather_0 rfl rfl rfl ?_
  refine g_iconst 2 X dX9_weather_1 rfl ci_1 ?_
  refine g_bipush 4 X dX9_weather_2 rfl cb_20 ?_
  refine g_cSi3 7 X (tX9_in _ _ (D + 7) _ _ _ _) mfX9_in msX9_in lkX9_95 (Nat.le_of_ble_eq_true rfl) dX9_weather_4 rfl (fun r1 S2 => ?_)
  refine g_if_eq 29 10 X dX9_weather_7 (by decide) rfl (fun _ => ?_) (fun _ => ?_)
  · refine g_bipush 31 X dX9_weather_29 rfl cb_m2 ?_
    exact g_iret X dX9_weather_31 rfl
  · refine g_iload_n 11 X 3 dX9_weather_10 rfl rfl rfl ?_
    refine g_iconst 12 X dX9_weather_11 rfl ci_0 ?_
    refine g_iconst 13 X dX9_weather_12 rfl ci_1 ?_
    refine g_cSi3 16 X (tX9_in _ _ (D + 7) _ _ _ _) mfX9_in msX9_in lkX9_95 (Nat.le_of_ble_eq_true rfl) dX9_weather_13 rfl (fun r3 S4 => ?_)
    refine g_if_eq 29 19 X dX9_weather_16 (by decide) rfl (fun _ => ?_) (fun _ => ?_)
    · refine g_bipush 31 X dX9_weather_29 rfl cb_m2 ?_
      exact g_iret X dX9_weather_31 rfl
    · refine g_aload_n 20 X 0 dX9_weather_19 rfl rfl rfl ?_
      refine g_iload_n 21 X 1 dX9_weather_20 rfl rfl rfl ?_
      refine g_iload_n 22 X 2 dX9_weather_21 rfl rfl rfl ?_
      refine g_iload_n 23 X 3 dX9_weather_22 rfl rfl rfl ?_
      refine g_cVi3 26 X (tX9_weatherOf _ _ (D) _ _ _ _) mfX9_weatherOf miX9_weatherOf lkX9_279 rfl rfl rfl (Nat.le_of_ble_eq_true rfl) dX9_weather_23 rfl (fun r5 S6 => ?_)
      refine g_goto 31 X dX9_weather_26 (by decide) ?_
      exact g_iret X dX9_weather_31 rfl
def bX9_sheet_59 (c1 : Int32) (rec : Int32 → Sg → Option ((Int32) × Sg)) (a5 : Int32) (S6 : Sg) : Option ((Int32) × Sg) :=
  (if (60 : Int32) ≤ a5 then some (a5, S6) else gd (ix (((60 : Int32) * c1) + a5) 240) (rec (a5 + (1 : Int32)) (sI S6 25 (Int32.toNatClampNeg (((60 : Int32) * c1) + a5)) (0 : Int32))))
def fX9_sheet (x1 : Int32) (x2 : Int32) (x3 : Int32) (S : Sg) : Option (Int32 × Sg) :=
  bd (fX9_isSheet x1 S) (fun r1 S2 => (if r1 = 0 then some ((-2 : Int32), S2) else bd (fX9_in x2 (0 : Int32) (2 : Int32) S2) (fun r3 S4 => (if r3 = 0 then some ((-2 : Int32), S4) else (if x3 ≤ (60 : Int32) then (if 0 ≤ x3 then gd (ix x1 4) (gd (ix x1 4) (gd (ix x1 4) (bd (lp (bX9_sheet_59 x1) fl (0 : Int32) (sI (sI (sI S4 22 (Int32.toNatClampNeg x1) (1 : Int32)) 23 (Int32.toNatClampNeg x1) x2) 24 (Int32.toNatClampNeg x1) x3)) (fun (a10 : Int32) S11 => some (x3, S11))))) else bd (fX9_meets (5 : Int32) S4) (fun r12 S13 => some (r12, S13))) else some ((-2 : Int32), S4))))))
set_option maxHeartbeats 4000000 in
set_option maxRecDepth 100000 in
theorem tX9_sheet (G : Gd) (l : Launch) (D : Nat) (x1 : Int32) (x2 : Int32) (x3 : Int32) (S : Sg) : Ct LM G l rI yX9_sheet cX9_sheet 5 (some .int) (D + 2) [.ref (G.2.1 0), .int x1, .int x2, .int x3] S (fX9_sheet x1 x2 x3 S) := by
  refine Ct.of (by decide) (Nat.le_of_ble_eq_true rfl) (fun Z hZ X => ?_)
  subst hZ
  show Go LM G Z 5 rI 0 [(0, .ref (G.2.1 0)), (1, .int x1), (2, .int x2), (3, .int x3)] [] S (fX9_sheet x1 x2 x3 S) kz
  unfold fX9_sheet
  refine g_iload_n 1 X 1 dX9_sheet_0 rfl rfl rfl ?_
  refine g_cSi1 4 X (tX9_isSheet _ _ (D) _ _) mfX9_isSheet msX9_isSheet lkX9_152 (Nat.le_of_ble_eq_true rfl) dX9_sheet_1 rfl (fun r1 S2 => ?_)
  refine g_if_eq 22 7 X dX9_sheet_4 (by decide) rfl (fun _ => ?_) (fun _ => ?_)
  · refine g_bipush 24 X dX9_sheet_22 rfl cb_m2 ?_
    exact g_iret X dX9_sheet_24 rfl
  · refine g_iload_n 8 X 2 dX9_sheet_7 rfl rfl rfl ?_
    refine g_iconst 9 X dX9_sheet_8 rfl ci_0 ?_
    refine g_iconst 10 X dX9_sheet_9 rfl ci_2 ?_
    refine g_cSi3 13 X (tX9_in _ _ (D + 1) _ _ _ _) mfX9_in msX9_in lkX9_95 (Nat.le_of_ble_eq_true rfl) dX9_sheet_10 rfl (fun r3 S4 => ?_)
    refine g_if_eq 22 16 X dX9_sheet_13 (by decide) rfl (fun _ => ?_) (fun _ => ?_)
    · refine g_bipush 24 X dX9_sheet_22 rfl cb_m2 ?_
      exact g_iret X dX9_sheet_24 rfl
    · refine g_iload_n 17 X 3 dX9_sheet_16 rfl rfl rfl ?_
      refine g_bipush 19 X dX9_sheet_17 rfl cb_60 ?_
      refine g_icmp_le 25 22 X dX9_sheet_19 (by decide) rfl (fun _ => ?_) (fun _ => ?_)
      · refine g_iload_n 26 X 3 dX9_sheet_25 rfl rfl rfl ?_
        refine g_if_ge 35 29 X dX9_sheet_26 (by decide) rfl (fun _ => ?_) (fun _ => ?_)
        · refine g_aload_n 36 X 0 dX9_sheet_35 rfl rfl rfl ?_
          refine g_getr 39 X 22 rfl flX9_73 rfl dX9_sheet_36 rfl ?_
          refine g_iload_n 40 X 1 dX9_sheet_39 rfl rfl rfl ?_
          refine g_iconst 41 X dX9_sheet_40 rfl ci_1 ?_
          refine g_zast 42 X rfl (by decide +kernel) dX9_sheet_41 rfl ?_
          refine g_aload_n 43 X 0 dX9_sheet_42 rfl rfl rfl ?_
          refine g_getr 46 X 23 rfl flX9_77 rfl dX9_sheet_43 rfl ?_
          refine g_iload_n 47 X 1 dX9_sheet_46 rfl rfl rfl ?_
          refine g_iload_n 48 X 2 dX9_sheet_47 rfl rfl rfl ?_
          refine g_iast 49 X rfl dX9_sheet_48 rfl ?_
          refine g_aload_n 50 X 0 dX9_sheet_49 rfl rfl rfl ?_
          refine g_getr 53 X 24 rfl flX9_80 rfl dX9_sheet_50 rfl ?_
          refine g_iload_n 54 X 1 dX9_sheet_53 rfl rfl rfl ?_
          refine g_iload_n 55 X 3 dX9_sheet_54 rfl rfl rfl ?_
          refine g_iast 56 X rfl dX9_sheet_55 rfl ?_
          refine g_iconst 57 X dX9_sheet_56 rfl ci_0 ?_
          refine g_istore 59 X [(4, _), (0, _), (1, _), (2, _), (3, _)] dX9_sheet_57 rfl (Nat.le_of_ble_eq_true rfl) rfl ?_
          refine g_joinK 85 (fun (a10 : Int32) => [(3, .int x3)]) (fun (a10 : Int32) => []) (fun a10 S11 => ?_) (fun J7 => ?_)
          · refine g_iload_n 86 X 0 dX9_sheet_85 rfl rfl rfl ?_
            exact g_iret X dX9_sheet_86 rfl
          · refine g_sub [1, 2, 4, 0] rfl (g_lp (fun (a5 : Int32) => [(0, .ref (G.2.1 0)), (1, .int x1), (3, .int x3), (4, .int a5)]) (fun rec9 ih8 a5 S6 => ?_) fl (0 : Int32) _)
            unfold bX9_sheet_59
            refine g_iload 61 X 3 dX9_sheet_59 rfl rfl ?_
            refine g_bipush 63 X dX9_sheet_61 rfl cb_60 ?_
            refine g_icmp_ge 85 66 X dX9_sheet_63 (by decide) rfl (fun _ => ?_) (fun _ => ?_)
            · exact g_sub [2] rfl (J7 a5 _)
            · refine g_aload_n 67 X 0 dX9_sheet_66 rfl rfl rfl ?_
              refine g_getr 70 X 25 rfl flX9_83 rfl dX9_sheet_67 rfl ?_
              refine g_bipush 72 X dX9_sheet_70 rfl cb_60 ?_
              refine g_iload_n 73 X 1 dX9_sheet_72 rfl rfl rfl ?_
              refine g_imul 74 X dX9_sheet_73 rfl ?_
              refine g_iload 76 X 3 dX9_sheet_74 rfl rfl ?_
              refine g_iadd 77 X dX9_sheet_76 rfl ?_
              refine g_iconst 78 X dX9_sheet_77 rfl ci_0 ?_
              refine g_iast 79 X rfl dX9_sheet_78 rfl ?_
              refine g_iinc 82 X 3 [(4, _), (0, _), (1, _), (3, _)] dX9_sheet_79 rfl rfl (ii_1 _) (Nat.le_of_ble_eq_true rfl) rfl ?_
              refine g_goto 59 X dX9_sheet_82 (by decide) ?_
              exact g_sub [1, 2, 3, 0] rfl (ih8 (a5 + (1 : Int32)) _)
        · refine g_aload_n 30 X 0 dX9_sheet_29 rfl rfl rfl ?_
          refine g_iconst 31 X dX9_sheet_30 rfl ci_5 ?_
          refine g_cVi1 34 X (tX9_meets _ _ (D + 1) _ _) mfX9_meets miX9_meets lkX9_155 rfl rfl rfl (Nat.le_of_ble_eq_true rfl) dX9_sheet_31 rfl (fun r12 S13 => ?_)
          exact g_iret X dX9_sheet_34 rfl
      · refine g_bipush 24 X dX9_sheet_22 rfl cb_m2 ?_
        exact g_iret X dX9_sheet_24 rfl
def fX9_lose (x1 : Int32) (S : Sg) : Option (Int32 × Sg) :=
  bd (fX9_isSheet x1 S) (fun r1 S2 => (if r1 = 0 then some ((-2 : Int32), S2) else gd (ix x1 4) ((if (S2.1 22 (Int32.toNatClampNeg x1)) = 0 then bd (fX9_meets (1 : Int32) S2) (fun r3 S4 => some (r3, S4)) else gd (ix x1 4) (gd (ix x1 4) (some (((sI S2 22 (Int32.toNatClampNeg x1) (0 : Int32)).1 24 (Int32.toNatClampNeg x1)), (sI S2 22 (Int32.toNatClampNeg x1) (0 : Int32)))))))))
set_option maxHeartbeats 4000000 in
set_option maxRecDepth 100000 in
theorem tX9_lose (G : Gd) (l : Launch) (D : Nat) (x1 : Int32) (S : Sg) : Ct LM G l rI yX9_lose cX9_lose 2 (some .int) (D + 2) [.ref (G.2.1 0), .int x1] S (fX9_lose x1 S) := by
  refine Ct.of (by decide) (Nat.le_of_ble_eq_true rfl) (fun Z hZ X => ?_)
  subst hZ
  show Go LM G Z 2 rI 0 [(0, .ref (G.2.1 0)), (1, .int x1)] [] S (fX9_lose x1 S) kz
  unfold fX9_lose
  refine g_iload_n 1 X 1 dX9_lose_0 rfl rfl rfl ?_
  refine g_cSi1 4 X (tX9_isSheet _ _ (D) _ _) mfX9_isSheet msX9_isSheet lkX9_152 (Nat.le_of_ble_eq_true rfl) dX9_lose_1 rfl (fun r1 S2 => ?_)
  refine g_if_ne 10 7 X dX9_lose_4 (by decide) rfl (fun _ => ?_) (fun _ => ?_)
  · refine g_aload_n 11 X 0 dX9_lose_10 rfl rfl rfl ?_
    refine g_getr 14 X 22 rfl flX9_73 rfl dX9_lose_11 rfl ?_
    refine g_iload_n 15 X 1 dX9_lose_14 rfl rfl rfl ?_
    refine g_zald 16 X rfl dX9_lose_15 rfl ?_
    refine g_if_ne 25 19 X dX9_lose_16 (by decide) rfl (fun _ => ?_) (fun _ => ?_)
    · refine g_aload_n 26 X 0 dX9_lose_25 rfl rfl rfl ?_
      refine g_getr 29 X 22 rfl flX9_73 rfl dX9_lose_26 rfl ?_
      refine g_iload_n 30 X 1 dX9_lose_29 rfl rfl rfl ?_
      refine g_iconst 31 X dX9_lose_30 rfl ci_0 ?_
      refine g_zast 32 X rfl (by decide +kernel) dX9_lose_31 rfl ?_
      refine g_aload_n 33 X 0 dX9_lose_32 rfl rfl rfl ?_
      refine g_getr 36 X 24 rfl flX9_80 rfl dX9_lose_33 rfl ?_
      refine g_iload_n 37 X 1 dX9_lose_36 rfl rfl rfl ?_
      refine g_iald 38 X rfl dX9_lose_37 rfl ?_
      exact g_iret X dX9_lose_38 rfl
    · refine g_aload_n 20 X 0 dX9_lose_19 rfl rfl rfl ?_
      refine g_iconst 21 X dX9_lose_20 rfl ci_1 ?_
      refine g_cVi1 24 X (tX9_meets _ _ (D + 1) _ _) mfX9_meets miX9_meets lkX9_155 rfl rfl rfl (Nat.le_of_ble_eq_true rfl) dX9_lose_21 rfl (fun r3 S4 => ?_)
      exact g_iret X dX9_lose_24 rfl
  · refine g_bipush 9 X dX9_lose_7 rfl cb_m2 ?_
    exact g_iret X dX9_lose_9 rfl
def fX9_lacks (x1 : Int32) (x2 : Int32) (x3 : Int32) (S : Sg) : Option (Int32 × Sg) :=
  gd (ix x1 4) ((if (S.1 22 (Int32.toNatClampNeg x1)) = 0 then some ((1 : Int32), S) else gd (ix x1 4) ((if (S.1 23 (Int32.toNatClampNeg x1)) = x2 then gd (ix x1 4) (bd (fX9_in x3 (0 : Int32) ((S.1 24 (Int32.toNatClampNeg x1)) - (1 : Int32)) S) (fun r1 S2 => (if r1 = 0 then some ((2 : Int32), S2) else some ((0 : Int32), S2)))) else some ((3 : Int32), S)))))
set_option maxHeartbeats 4000000 in
set_option maxRecDepth 100000 in
theorem tX9_lacks (G : Gd) (l : Launch) (D : Nat) (x1 : Int32) (x2 : Int32) (x3 : Int32) (S : Sg) : Ct LM G l rI yX9_lacks cX9_lacks 4 (some .int) (D + 1) [.ref (G.2.1 0), .int x1, .int x2, .int x3] S (fX9_lacks x1 x2 x3 S) := by
  refine Ct.of (by decide) (Nat.le_of_ble_eq_true rfl) (fun Z hZ X => ?_)
  subst hZ
  show Go LM G Z 4 rI 0 [(0, .ref (G.2.1 0)), (1, .int x1), (2, .int x2), (3, .int x3)] [] S (fX9_lacks x1 x2 x3 S) kz
  unfold fX9_lacks
  refine g_aload_n 1 X 0 dX9_lacks_0 rfl rfl rfl ?_
  refine g_getr 4 X 22 rfl flX9_73 rfl dX9_lacks_1 rfl ?_
  refine g_iload_n 5 X 1 dX9_lacks_4 rfl rfl rfl ?_
  refine g_zald 6 X rfl dX9_lacks_5 rfl ?_
  refine g_if_ne 13 9 X dX9_lacks_6 (by decide) rfl (fun _ => ?_) (fun _ => ?_)
  · refine g_aload_n 14 X 0 dX9_lacks_13 rfl rfl rfl ?_
    refine g_getr 17 X 23 rfl flX9_77 rfl dX9_lacks_14 rfl ?_
    refine g_iload_n 18 X 1 dX9_lacks_17 rfl rfl rfl ?_
    refine g_iald 19 X rfl dX9_lacks_18 rfl ?_
    refine g_iload_n 20 X 2 dX9_lacks_19 rfl rfl rfl ?_
    refine g_icmp_eq 27 23 X dX9_lacks_20 (by decide) rfl (fun _ => ?_) (fun _ => ?_)
    · refine g_iload_n 28 X 3 dX9_lacks_27 rfl rfl rfl ?_
      refine g_iconst 29 X dX9_lacks_28 rfl ci_0 ?_
      refine g_aload_n 30 X 0 dX9_lacks_29 rfl rfl rfl ?_
      refine g_getr 33 X 24 rfl flX9_80 rfl dX9_lacks_30 rfl ?_
      refine g_iload_n 34 X 1 dX9_lacks_33 rfl rfl rfl ?_
      refine g_iald 35 X rfl dX9_lacks_34 rfl ?_
      refine g_iconst 36 X dX9_lacks_35 rfl ci_1 ?_
      refine g_isub 37 X dX9_lacks_36 rfl ?_
      refine g_cSi3 40 X (tX9_in _ _ (D) _ _ _ _) mfX9_in msX9_in lkX9_95 (Nat.le_of_ble_eq_true rfl) dX9_lacks_37 rfl (fun r1 S2 => ?_)
      refine g_if_eq 47 43 X dX9_lacks_40 (by decide) rfl (fun _ => ?_) (fun _ => ?_)
      · refine g_iconst 48 X dX9_lacks_47 rfl ci_2 ?_
        exact g_iret X dX9_lacks_48 rfl
      · refine g_iconst 44 X dX9_lacks_43 rfl ci_0 ?_
        refine g_goto 48 X dX9_lacks_44 (by decide) ?_
        exact g_iret X dX9_lacks_48 rfl
    · refine g_iconst 24 X dX9_lacks_23 rfl ci_3 ?_
      refine g_goto 48 X dX9_lacks_24 (by decide) ?_
      exact g_iret X dX9_lacks_48 rfl
  · refine g_iconst 10 X dX9_lacks_9 rfl ci_1 ?_
    refine g_goto 48 X dX9_lacks_10 (by decide) ?_
    exact g_iret X dX9_lacks_48 rfl
def fX9_keep (x1 : Int32) (x2 : Int32) (x3 : Int32) (S : Sg) : Option (Unit × Sg) :=
  gd (ix x1 4) (bd ((if (S.1 23 (Int32.toNatClampNeg x1)) = 0 then some ((Int8.toInt32 (Int32.toInt8 x3)), S) else gd (ix x1 4) ((if (S.1 23 (Int32.toNatClampNeg x1)) = (1 : Int32) then some ((Int16.toInt32 (Int32.toInt16 x3)), S) else some (x3, S))))) (fun (t1 : Int32) S2 => gd (ix (((60 : Int32) * x1) + x2) 240) (some ((), (sI S2 25 (Int32.toNatClampNeg (((60 : Int32) * x1) + x2)) t1)))))
set_option maxHeartbeats 4000000 in
set_option maxRecDepth 100000 in
theorem tX9_keep (G : Gd) (l : Launch) (D : Nat) (x1 : Int32) (x2 : Int32) (x3 : Int32) (S : Sg) : Ct LM G l rV yX9_keep cX9_keep 4 none (D + 0) [.ref (G.2.1 0), .int x1, .int x2, .int x3] S (fX9_keep x1 x2 x3 S) := by
  refine Ct.of (by decide) (Nat.le_of_ble_eq_true rfl) (fun Z hZ X => ?_)
  subst hZ
  show Go LM G Z 4 rV 0 [(0, .ref (G.2.1 0)), (1, .int x1), (2, .int x2), (3, .int x3)] [] S (fX9_keep x1 x2 x3 S) kz
  unfold fX9_keep
  refine g_aload_n 1 X 0 dX9_keep_0 rfl rfl rfl ?_
  refine g_getr 4 X 25 rfl flX9_83 rfl dX9_keep_1 rfl ?_
  refine g_bipush 6 X dX9_keep_4 rfl cb_60 ?_
  refine g_iload_n 7 X 1 dX9_keep_6 rfl rfl rfl ?_
  refine g_imul 8 X dX9_keep_7 rfl ?_
  refine g_iload_n 9 X 2 dX9_keep_8 rfl rfl rfl ?_
  refine g_iadd 10 X dX9_keep_9 rfl ?_
  refine g_aload_n 11 X 0 dX9_keep_10 rfl rfl rfl ?_
  refine g_getr 14 X 23 rfl flX9_77 rfl dX9_keep_11 rfl ?_
  refine g_iload_n 15 X 1 dX9_keep_14 rfl rfl rfl ?_
  refine g_iald 16 X rfl dX9_keep_15 rfl ?_
  refine g_joinK 40 (fun (t1 : Int32) => []) (fun (t1 : Int32) => [.int t1, .int (((60 : Int32) * x1) + x2), .ref (G.2.1 25)]) (fun t1 S2 => ?_) (fun J3 => ?_)
  · refine g_iast 41 X rfl dX9_keep_40 rfl ?_
    exact g_vret X dX9_keep_41 rfl
  · refine g_if_ne 24 19 X dX9_keep_16 (by decide) rfl (fun _ => ?_) (fun _ => ?_)
    · refine g_aload_n 25 X 0 dX9_keep_24 rfl rfl rfl ?_
      refine g_getr 28 X 23 rfl flX9_77 rfl dX9_keep_25 rfl ?_
      refine g_iload_n 29 X 1 dX9_keep_28 rfl rfl rfl ?_
      refine g_iald 30 X rfl dX9_keep_29 rfl ?_
      refine g_iconst 31 X dX9_keep_30 rfl ci_1 ?_
      refine g_icmp_ne 39 34 X dX9_keep_31 (by decide) rfl (fun _ => ?_) (fun _ => ?_)
      · refine g_iload_n 40 X 3 dX9_keep_39 rfl rfl rfl ?_
        exact g_sub [] rfl (J3 x3 _)
      · refine g_iload_n 35 X 3 dX9_keep_34 rfl rfl rfl ?_
        refine g_i2s 36 X dX9_keep_35 rfl ?_
        refine g_goto 40 X dX9_keep_36 (by decide) ?_
        exact g_sub [] rfl (J3 (Int16.toInt32 (Int32.toInt16 x3)) _)
    · refine g_iload_n 20 X 3 dX9_keep_19 rfl rfl rfl ?_
      refine g_i2b 21 X dX9_keep_20 rfl ?_
      refine g_goto 40 X dX9_keep_21 (by decide) ?_
      exact g_sub [] rfl (J3 (Int8.toInt32 (Int32.toInt8 x3)) _)
def fX9_put (x1 : Int32) (x2 : Int32) (x3 : Int32) (x4 : Int32) (S : Sg) : Option (Int32 × Sg) :=
  bd (fX9_isSheet x1 S) (fun r1 S2 => (if r1 = 0 then some ((-2 : Int32), S2) else bd (fX9_in x2 (0 : Int32) (2 : Int32) S2) (fun r3 S4 => (if r3 = 0 then some ((-2 : Int32), S4) else bd (fX9_lacks x1 x2 x3 S4) (fun r5 S6 => (if r5 ≤ 0 then bd (fX9_keep x1 x3 x4 S6) (fun r7 S8 => some ((1 : Int32), S8)) else bd (fX9_meets r5 S6) (fun r9 S10 => some (r9, S10))))))))
set_option maxHeartbeats 4000000 in
set_option maxRecDepth 100000 in
theorem tX9_put (G : Gd) (l : Launch) (D : Nat) (x1 : Int32) (x2 : Int32) (x3 : Int32) (x4 : Int32) (S : Sg) : Ct LM G l rI yX9_put cX9_put 6 (some .int) (D + 2) [.ref (G.2.1 0), .int x1, .int x2, .int x3, .int x4] S (fX9_put x1 x2 x3 x4 S) := by
  refine Ct.of (by decide) (Nat.le_of_ble_eq_true rfl) (fun Z hZ X => ?_)
  subst hZ
  show Go LM G Z 6 rI 0 [(0, .ref (G.2.1 0)), (1, .int x1), (2, .int x2), (3, .int x3), (4, .int x4)] [] S (fX9_put x1 x2 x3 x4 S) kz
  unfold fX9_put
  refine g_iload_n 1 X 1 dX9_put_0 rfl rfl rfl ?_
  refine g_cSi1 4 X (tX9_isSheet _ _ (D) _ _) mfX9_isSheet msX9_isSheet lkX9_152 (Nat.le_of_ble_eq_true rfl) dX9_put_1 rfl (fun r1 S2 => ?_)
  refine g_if_eq 16 7 X dX9_put_4 (by decide) rfl (fun _ => ?_) (fun _ => ?_)
  · refine g_bipush 18 X dX9_put_16 rfl cb_m2 ?_
    exact g_iret X dX9_put_18 rfl
  · refine g_iload_n 8 X 2 dX9_put_7 rfl rfl rfl ?_
    refine g_iconst 9 X dX9_put_8 rfl ci_0 ?_
    refine g_iconst 10 X dX9_put_9 rfl ci_2 ?_
    refine g_cSi3 13 X (tX9_in _ _ (D + 1) _ _ _ _) mfX9_in msX9_in lkX9_95 (Nat.le_of_ble_eq_true rfl) dX9_put_10 rfl (fun r3 S4 => ?_)
    refine g_if_ne 19 16 X dX9_put_13 (by decide) rfl (fun _ => ?_) (fun _ => ?_)
    · refine g_aload_n 20 X 0 dX9_put_19 rfl rfl rfl ?_
      refine g_iload_n 21 X 1 dX9_put_20 rfl rfl rfl ?_
      refine g_iload_n 22 X 2 dX9_put_21 rfl rfl rfl ?_
      refine g_iload_n 23 X 3 dX9_put_22 rfl rfl rfl ?_
      refine g_cVi3 26 X (tX9_lacks _ _ (D) _ _ _ _) mfX9_lacks miX9_lacks lkX9_285 rfl rfl rfl (Nat.le_of_ble_eq_true rfl) dX9_put_23 rfl (fun r5 S6 => ?_)
      refine g_istore 28 X [(5, _), (0, _), (1, _), (2, _), (3, _), (4, _)] dX9_put_26 rfl (Nat.le_of_ble_eq_true rfl) rfl ?_
      refine g_iload 30 X 0 dX9_put_28 rfl rfl ?_
      refine g_if_le 40 33 X dX9_put_30 (by decide) rfl (fun _ => ?_) (fun _ => ?_)
      · refine g_aload_n 41 X 1 dX9_put_40 rfl rfl rfl ?_
        refine g_iload_n 42 X 2 dX9_put_41 rfl rfl rfl ?_
        refine g_iload_n 43 X 4 dX9_put_42 rfl rfl rfl ?_
        refine g_iload 45 X 5 dX9_put_43 rfl rfl ?_
        refine g_cVv3 48 X (tX9_keep _ _ (D + 1) _ _ _ _) mfX9_keep miX9_keep lkX9_288 rfl rfl rfl (Nat.le_of_ble_eq_true rfl) dX9_put_45 rfl (fun r7 S8 => ?_)
        refine g_iconst 49 X dX9_put_48 rfl ci_1 ?_
        exact g_iret X dX9_put_49 rfl
      · refine g_aload_n 34 X 1 dX9_put_33 rfl rfl rfl ?_
        refine g_iload 36 X 0 dX9_put_34 rfl rfl ?_
        refine g_cVi1 39 X (tX9_meets _ _ (D + 1) _ _) mfX9_meets miX9_meets lkX9_155 rfl rfl rfl (Nat.le_of_ble_eq_true rfl) dX9_put_36 rfl (fun r9 S10 => ?_)
        exact g_iret X dX9_put_39 rfl
    · refine g_bipush 18 X dX9_put_16 rfl cb_m2 ?_
      exact g_iret X dX9_put_18 rfl
def fX9_get (x1 : Int32) (x2 : Int32) (x3 : Int32) (S : Sg) : Option (Int32 × Sg) :=
  bd (fX9_isSheet x1 S) (fun r1 S2 => (if r1 = 0 then some ((-2147483648 : Int32), S2) else bd (fX9_in x2 (0 : Int32) (2 : Int32) S2) (fun r3 S4 => (if r3 = 0 then some ((-2147483648 : Int32), S4) else bd (fX9_lacks x1 x2 x3 S4) (fun r5 S6 => (if r5 ≤ 0 then gd (ix (((60 : Int32) * x1) + x3) 240) (some ((S6.1 25 (Int32.toNatClampNeg (((60 : Int32) * x1) + x3))), S6)) else some ((-2147483648 : Int32), (sI S6 0 35 r5))))))))
set_option maxHeartbeats 4000000 in
set_option maxRecDepth 100000 in
theorem tX9_get (G : Gd) (l : Launch) (D : Nat) (x1 : Int32) (x2 : Int32) (x3 : Int32) (S : Sg) : Ct LM G l rI yX9_get cX9_get 5 (some .int) (D + 2) [.ref (G.2.1 0), .int x1, .int x2, .int x3] S (fX9_get x1 x2 x3 S) := by
  refine Ct.of (by decide) (Nat.le_of_ble_eq_true rfl) (fun Z hZ X => ?_)
  subst hZ
  show Go LM G Z 5 rI 0 [(0, .ref (G.2.1 0)), (1, .int x1), (2, .int x2), (3, .int x3)] [] S (fX9_get x1 x2 x3 S) kz
  unfold fX9_get
  refine g_iload_n 1 X 1 dX9_get_0 rfl rfl rfl ?_
  refine g_cSi1 4 X (tX9_isSheet _ _ (D) _ _) mfX9_isSheet msX9_isSheet lkX9_152 (Nat.le_of_ble_eq_true rfl) dX9_get_1 rfl (fun r1 S2 => ?_)
  refine g_if_eq 16 7 X dX9_get_4 (by decide) rfl (fun _ => ?_) (fun _ => ?_)
  · refine g_ldcw 19 X dX9_get_16 rfl conX9_292 ?_
    exact g_iret X dX9_get_19 rfl
  · refine g_iload_n 8 X 2 dX9_get_7 rfl rfl rfl ?_
    refine g_iconst 9 X dX9_get_8 rfl ci_0 ?_
    refine g_iconst 10 X dX9_get_9 rfl ci_2 ?_
    refine g_cSi3 13 X (tX9_in _ _ (D + 1) _ _ _ _) mfX9_in msX9_in lkX9_95 (Nat.le_of_ble_eq_true rfl) dX9_get_10 rfl (fun r3 S4 => ?_)
    refine g_if_ne 20 16 X dX9_get_13 (by decide) rfl (fun _ => ?_) (fun _ => ?_)
    · refine g_aload_n 21 X 0 dX9_get_20 rfl rfl rfl ?_
      refine g_iload_n 22 X 1 dX9_get_21 rfl rfl rfl ?_
      refine g_iload_n 23 X 2 dX9_get_22 rfl rfl rfl ?_
      refine g_iload_n 24 X 3 dX9_get_23 rfl rfl rfl ?_
      refine g_cVi3 27 X (tX9_lacks _ _ (D) _ _ _ _) mfX9_lacks miX9_lacks lkX9_285 rfl rfl rfl (Nat.le_of_ble_eq_true rfl) dX9_get_24 rfl (fun r5 S6 => ?_)
      refine g_istore 29 X [(4, _), (0, _), (1, _), (2, _), (3, _)] dX9_get_27 rfl (Nat.le_of_ble_eq_true rfl) rfl ?_
      refine g_iload 31 X 0 dX9_get_29 rfl rfl ?_
      refine g_if_le 44 34 X dX9_get_31 (by decide) rfl (fun _ => ?_) (fun _ => ?_)
      · refine g_aload_n 45 X 1 dX9_get_44 rfl rfl rfl ?_
        refine g_getr 48 X 25 rfl flX9_83 rfl dX9_get_45 rfl ?_
        refine g_bipush 50 X dX9_get_48 rfl cb_60 ?_
        refine g_iload_n 51 X 2 dX9_get_50 rfl rfl rfl ?_
        refine g_imul 52 X dX9_get_51 rfl ?_
        refine g_iload_n 53 X 4 dX9_get_52 rfl rfl rfl ?_
        refine g_iadd 54 X dX9_get_53 rfl ?_
        refine g_iald 55 X rfl dX9_get_54 rfl ?_
        exact g_iret X dX9_get_55 rfl
      · refine g_aload_n 35 X 1 dX9_get_34 rfl rfl rfl ?_
        refine g_iload 37 X 0 dX9_get_35 rfl rfl ?_
        refine g_puti 40 X rfl flX9_282 fp_9_35 rfl dX9_get_37 rfl ?_
        refine g_ldcw 43 X dX9_get_40 rfl conX9_292 ?_
        exact g_iret X dX9_get_43 rfl
    · refine g_ldcw 19 X dX9_get_16 rfl conX9_292 ?_
      exact g_iret X dX9_get_19 rfl
def bX9_copy_120 (c1 : Int32) (c2 : Int32) (c5 : Int32) (rec : Int32 → Sg → Option ((Int32) × Sg)) (a15 : Int32) (S16 : Sg) : Option ((Int32) × Sg) :=
  (if c5 ≤ a15 then some (a15, S16) else gd (ix ((((60 : Int32) * c1) + c2) + a15) 240) (gd (ix a15 60) (rec (a15 + (1 : Int32)) (sI S16 26 (Int32.toNatClampNeg a15) (S16.1 25 (Int32.toNatClampNeg ((((60 : Int32) * c1) + c2) + a15)))))))
def bX9_copy_157 (c3 : Int32) (c4 : Int32) (c5 : Int32) (rec : Int32 → Sg → Option ((Int32) × Sg)) (a22 : Int32) (S23 : Sg) : Option ((Int32) × Sg) :=
  (if c5 ≤ a22 then some (a22, S23) else gd (ix a22 60) (gd (ix ((((60 : Int32) * c3) + c4) + a22) 240) (rec (a22 + (1 : Int32)) (sI S23 25 (Int32.toNatClampNeg ((((60 : Int32) * c3) + c4) + a22)) (S23.1 26 (Int32.toNatClampNeg a22))))))
def fX9_copy (x1 : Int32) (x2 : Int32) (x3 : Int32) (x4 : Int32) (x5 : Int32) (S : Sg) : Option (Int32 × Sg) :=
  bd (fX9_isSheet x1 S) (fun r1 S2 => (if r1 = 0 then some ((-2 : Int32), S2) else bd (fX9_isSheet x3 S2) (fun r3 S4 => (if r3 = 0 then some ((-2 : Int32), S4) else gd (ix x1 4) ((if (S4.1 22 (Int32.toNatClampNeg x1)) = 0 then bd (fX9_meets (1 : Int32) S4) (fun r5 S6 => some (r5, S6)) else gd (ix x3 4) ((if (S4.1 22 (Int32.toNatClampNeg x3)) = 0 then bd (fX9_meets (1 : Int32) S4) (fun r33 S34 => some (r33, S34)) else gd (ix x1 4) (gd (ix x3 4) ((if (S4.1 23 (Int32.toNatClampNeg x1)) = (S4.1 23 (Int32.toNatClampNeg x3)) then (if x2 < 0 then bd (fX9_meets (2 : Int32) S4) (fun r7 S8 => some (r7, S8)) else (if x4 < 0 then bd (fX9_meets (2 : Int32) S4) (fun r9 S10 => some (r9, S10)) else (if x5 < 0 then bd (fX9_meets (2 : Int32) S4) (fun r11 S12 => some (r11, S12)) else gd (ix x1 4) ((if 0 < (lg_cmp ((Int32.toInt64 x2) + (Int32.toInt64 x5)) (Int32.toInt64 (S4.1 24 (Int32.toNatClampNeg x1)))) then bd (fX9_meets (2 : Int32) S4) (fun r13 S14 => some (r13, S14)) else gd (ix x3 4) ((if (lg_cmp ((Int32.toInt64 x4) + (Int32.toInt64 x5)) (Int32.toInt64 (S4.1 24 (Int32.toNatClampNeg x3)))) ≤ 0 then bd (lp (bX9_copy_120 x1 x2 x5) fl (0 : Int32) S4) (fun (a20 : Int32) S21 => bd (lp (bX9_copy_157 x3 x4 x5) fl (0 : Int32) S21) (fun (a27 : Int32) S28 => some ((1 : Int32), S28))) else bd (fX9_meets (2 : Int32) S4) (fun r29 S30 => some (r29, S30))))))))) else bd (fX9_meets (4 : Int32) S4) (fun r31 S32 => some (r31, S32)))))))))))))
set_option maxHeartbeats 4000000 in
set_option maxRecDepth 100000 in
theorem tX9_copy (G : Gd) (l : Launch) (D : Nat) (x1 : Int32) (x2 : Int32) (x3 : Int32) (x4 : Int32) (x5 : Int32) (S : Sg) : Ct LM G l rI yX9_copy cX9_copy 7 (some .int) (D + 2) [.ref (G.2.1 0), .int x1, .int x2, .int x3, .int x4, .int x5] S (fX9_copy x1 x2 x3 x4 x5 S) := by
  refine Ct.of (by decide) (Nat.le_of_ble_eq_true rfl) (fun Z hZ X => ?_)
  subst hZ
  show Go LM G Z 7 rI 0 [(0, .ref (G.2.1 0)), (1, .int x1), (2, .int x2), (3, .int x3), (4, .int x4), (5, .int x5)] [] S (fX9_copy x1 x2 x3 x4 x5 S) kz
  unfold fX9_copy
  refine g_iload_n 1 X 1 dX9_copy_0 rfl rfl rfl ?_
  refine g_cSi1 4 X (tX9_isSheet _ _ (D) _ _) mfX9_isSheet msX9_isSheet lkX9_152 (Nat.le_of_ble_eq_true rfl) dX9_copy_1 rfl (fun r1 S2 => ?_)
  refine g_if_eq 14 7 X dX9_copy_4 (by decide) rfl (fun _ => ?_) (fun _ => ?_)
  · refine g_bipush 16 X dX9_copy_14 rfl cb_m2 ?_
    exact g_iret X dX9_copy_16 rfl
  · refine g_iload_n 8 X 3 dX9_copy_7 rfl rfl rfl ?_
    refine g_cSi1 11 X (tX9_isSheet _ _ (D) _ _) mfX9_isSheet msX9_isSheet lkX9_152 (Nat.le_of_ble_eq_true rfl) dX9_copy_8 rfl (fun r3 S4 => ?_)
    refine g_if_ne 17 14 X dX9_copy_11 (by decide) rfl (fun _ => ?_) (fun _ => ?_)
    · refine g_aload_n 18 X 0 dX9_copy_17 rfl rfl rfl ?_
      refine g_getr 21 X 22 rfl flX9_73 rfl dX9_copy_18 rfl ?_
      refine g_iload_n 22 X 1 dX9_copy_21 rfl rfl rfl ?_
      refine g_zald 23 X rfl dX9_copy_22 rfl ?_
      refine g_if_eq 35 26 X dX9_copy_23 (by decide) rfl (fun _ => ?_) (fun _ => ?_)
      · refine g_aload_n 36 X 0 dX9_copy_35 rfl rfl rfl ?_
        refine g_iconst 37 X dX9_copy_36 rfl ci_1 ?_
        refine g_cVi1 40 X (tX9_meets _ _ (D + 1) _ _) mfX9_meets miX9_meets lkX9_155 rfl rfl rfl (Nat.le_of_ble_eq_true rfl) dX9_copy_37 rfl (fun r5 S6 => ?_)
        exact g_iret X dX9_copy_40 rfl
      · refine g_aload_n 27 X 0 dX9_copy_26 rfl rfl rfl ?_
        refine g_getr 30 X 22 rfl flX9_73 rfl dX9_copy_27 rfl ?_
        refine g_iload_n 31 X 3 dX9_copy_30 rfl rfl rfl ?_
        refine g_zald 32 X rfl dX9_copy_31 rfl ?_
        refine g_if_ne 41 35 X dX9_copy_32 (by decide) rfl (fun _ => ?_) (fun _ => ?_)
        · refine g_aload_n 42 X 0 dX9_copy_41 rfl rfl rfl ?_
          refine g_getr 45 X 23 rfl flX9_77 rfl dX9_copy_42 rfl ?_
          refine g_iload_n 46 X 1 dX9_copy_45 rfl rfl rfl ?_
          refine g_iald 47 X rfl dX9_copy_46 rfl ?_
          refine g_aload_n 48 X 0 dX9_copy_47 rfl rfl rfl ?_
          refine g_getr 51 X 23 rfl flX9_77 rfl dX9_copy_48 rfl ?_
          refine g_iload_n 52 X 3 dX9_copy_51 rfl rfl rfl ?_
          refine g_iald 53 X rfl dX9_copy_52 rfl ?_
          refine g_icmp_eq 62 56 X dX9_copy_53 (by decide) rfl (fun _ => ?_) (fun _ => ?_)
          · refine g_iload_n 63 X 2 dX9_copy_62 rfl rfl rfl ?_
            refine g_if_lt 111 66 X dX9_copy_63 (by decide) rfl (fun _ => ?_) (fun _ => ?_)
            · refine g_aload_n 112 X 0 dX9_copy_111 rfl rfl rfl ?_
              refine g_iconst 113 X dX9_copy_112 rfl ci_2 ?_
              refine g_cVi1 116 X (tX9_meets _ _ (D + 1) _ _) mfX9_meets miX9_meets lkX9_155 rfl rfl rfl (Nat.le_of_ble_eq_true rfl) dX9_copy_113 rfl (fun r7 S8 => ?_)
              exact g_iret X dX9_copy_116 rfl
            · refine g_iload 68 X 4 dX9_copy_66 rfl rfl ?_
              refine g_if_lt 111 71 X dX9_copy_68 (by decide) rfl (fun _ => ?_) (fun _ => ?_)
              · refine g_aload_n 112 X 0 dX9_copy_111 rfl rfl rfl ?_
                refine g_iconst 113 X dX9_copy_112 rfl ci_2 ?_
                refine g_cVi1 116 X (tX9_meets _ _ (D + 1) _ _) mfX9_meets miX9_meets lkX9_155 rfl rfl rfl (Nat.le_of_ble_eq_true rfl) dX9_copy_113 rfl (fun r9 S10 => ?_)
                exact g_iret X dX9_copy_116 rfl
              · refine g_iload 73 X 5 dX9_copy_71 rfl rfl ?_
                refine g_if_lt 111 76 X dX9_copy_73 (by decide) rfl (fun _ => ?_) (fun _ => ?_)
                · refine g_aload_n 112 X 0 dX9_copy_111 rfl rfl rfl ?_
                  refine g_iconst 113 X dX9_copy_112 rfl ci_2 ?_
                  refine g_cVi1 116 X (tX9_meets _ _ (D + 1) _ _) mfX9_meets miX9_meets lkX9_155 rfl rfl rfl (Nat.le_of_ble_eq_true rfl) dX9_copy_113 rfl (fun r11 S12 => ?_)
                  exact g_iret X dX9_copy_116 rfl
                · refine g_iload_n 77 X 2 dX9_copy_76 rfl rfl rfl ?_
                  refine g_i2l 78 X dX9_copy_77 rfl ?_
                  refine g_iload 80 X 5 dX9_copy_78 rfl rfl ?_
                  refine g_i2l 81 X dX9_copy_80 rfl ?_
                  refine g_ladd 82 X dX9_copy_81 rfl ?_
                  refine g_aload_n 83 X 0 dX9_copy_82 rfl rfl rfl ?_
                  refine g_getr 86 X 24 rfl flX9_80 rfl dX9_copy_83 rfl ?_
                  refine g_iload_n 87 X 1 dX9_copy_86 rfl rfl rfl ?_
                  refine g_iald 88 X rfl dX9_copy_87 rfl ?_
                  refine g_i2l 89 X dX9_copy_88 rfl ?_
                  refine g_lcmp 90 X dX9_copy_89 rfl ?_
                  refine g_if_gt 111 93 X dX9_copy_90 (by decide) rfl (fun _ => ?_) (fun _ => ?_)
                  · refine g_aload_n 112 X 0 dX9_copy_111 rfl rfl rfl ?_
                    refine g_iconst 113 X dX9_copy_112 rfl ci_2 ?_
                    refine g_cVi1 116 X (tX9_meets _ _ (D + 1) _ _) mfX9_meets miX9_meets lkX9_155 rfl rfl rfl (Nat.le_of_ble_eq_true rfl) dX9_copy_113 rfl (fun r13 S14 => ?_)
                    exact g_iret X dX9_copy_116 rfl
                  · refine g_iload 95 X 4 dX9_copy_93 rfl rfl ?_
                    refine g_i2l 96 X dX9_copy_95 rfl ?_
                    refine g_iload 98 X 5 dX9_copy_96 rfl rfl ?_
                    refine g_i2l 99 X dX9_copy_98 rfl ?_
                    refine g_ladd 100 X dX9_copy_99 rfl ?_
                    refine g_aload_n 101 X 0 dX9_copy_100 rfl rfl rfl ?_
                    refine g_getr 104 X 24 rfl flX9_80 rfl dX9_copy_101 rfl ?_
                    refine g_iload_n 105 X 3 dX9_copy_104 rfl rfl rfl ?_
                    refine g_iald 106 X rfl dX9_copy_105 rfl ?_
                    refine g_i2l 107 X dX9_copy_106 rfl ?_
                    refine g_lcmp 108 X dX9_copy_107 rfl ?_
                    refine g_if_le 117 111 X dX9_copy_108 (by decide) rfl (fun _ => ?_) (fun _ => ?_)
                    · refine g_iconst 118 X dX9_copy_117 rfl ci_0 ?_
                      refine g_istore 120 X [(6, _), (0, _), (1, _), (2, _), (3, _), (4, _), (5, _)] dX9_copy_118 rfl (Nat.le_of_ble_eq_true rfl) rfl ?_
                      refine g_joinK 154 (fun (a20 : Int32) => [(0, .ref (G.2.1 0)), (3, .int x3), (4, .int x4), (5, .int x5)]) (fun (a20 : Int32) => []) (fun a20 S21 => ?_) (fun J17 => ?_)
                      · refine g_iconst 155 X dX9_copy_154 rfl ci_0 ?_
                        refine g_istore 157 X [(6, _), (0, _), (3, _), (4, _), (5, _)] dX9_copy_155 rfl (Nat.le_of_ble_eq_true rfl) rfl ?_
                        refine g_joinK 192 (fun (a27 : Int32) => []) (fun (a27 : Int32) => []) (fun a27 S28 => ?_) (fun J24 => ?_)
                        · refine g_iconst 193 X dX9_copy_192 rfl ci_1 ?_
                          exact g_iret X dX9_copy_193 rfl
                        · refine g_sub [1, 2, 3, 4, 0] rfl (g_lp (fun (a22 : Int32) => [(0, .ref (G.2.1 0)), (3, .int x3), (4, .int x4), (5, .int x5), (6, .int a22)]) (fun rec26 ih25 a22 S23 => ?_) fl (0 : Int32) _)
                          unfold bX9_copy_157
                          refine g_iload 159 X 4 dX9_copy_157 rfl rfl ?_
                          refine g_iload 161 X 3 dX9_copy_159 rfl rfl ?_
                          refine g_icmp_ge 192 164 X dX9_copy_161 (by decide) rfl (fun _ => ?_) (fun _ => ?_)
                          · exact g_sub [] rfl (J24 a22 _)
                          · refine g_aload_n 165 X 0 dX9_copy_164 rfl rfl rfl ?_
                            refine g_getr 168 X 25 rfl flX9_83 rfl dX9_copy_165 rfl ?_
                            refine g_bipush 170 X dX9_copy_168 rfl cb_60 ?_
                            refine g_iload_n 171 X 1 dX9_copy_170 rfl rfl rfl ?_
                            refine g_imul 172 X dX9_copy_171 rfl ?_
                            refine g_iload 174 X 2 dX9_copy_172 rfl rfl ?_
                            refine g_iadd 175 X dX9_copy_174 rfl ?_
                            refine g_iload 177 X 4 dX9_copy_175 rfl rfl ?_
                            refine g_iadd 178 X dX9_copy_177 rfl ?_
                            refine g_aload_n 179 X 0 dX9_copy_178 rfl rfl rfl ?_
                            refine g_getr 182 X 26 rfl flX9_86 rfl dX9_copy_179 rfl ?_
                            refine g_iload 184 X 4 dX9_copy_182 rfl rfl ?_
                            refine g_iald 185 X rfl dX9_copy_184 rfl ?_
                            refine g_iast 186 X rfl dX9_copy_185 rfl ?_
                            refine g_iinc 189 X 4 [(6, _), (0, _), (3, _), (4, _), (5, _)] dX9_copy_186 rfl rfl (ii_1 _) (Nat.le_of_ble_eq_true rfl) rfl ?_
                            refine g_goto 157 X dX9_copy_189 (by decide) ?_
                            exact g_sub [1, 2, 3, 4, 0] rfl (ih25 (a22 + (1 : Int32)) _)
                      · refine g_sub [1, 2, 3, 4, 5, 6, 0] rfl (g_lp (fun (a15 : Int32) => [(0, .ref (G.2.1 0)), (1, .int x1), (2, .int x2), (3, .int x3), (4, .int x4), (5, .int x5), (6, .int a15)]) (fun rec19 ih18 a15 S16 => ?_) fl (0 : Int32) _)
                        unfold bX9_copy_120
                        refine g_iload 122 X 6 dX9_copy_120 rfl rfl ?_
                        refine g_iload 124 X 5 dX9_copy_122 rfl rfl ?_
                        refine g_icmp_ge 154 127 X dX9_copy_124 (by decide) rfl (fun _ => ?_) (fun _ => ?_)
                        · exact g_sub [0, 3, 4, 5] rfl (J17 a15 _)
                        · refine g_aload_n 128 X 0 dX9_copy_127 rfl rfl rfl ?_
                          refine g_getr 131 X 26 rfl flX9_86 rfl dX9_copy_128 rfl ?_
                          refine g_iload 133 X 6 dX9_copy_131 rfl rfl ?_
                          refine g_aload_n 134 X 0 dX9_copy_133 rfl rfl rfl ?_
                          refine g_getr 137 X 25 rfl flX9_83 rfl dX9_copy_134 rfl ?_
                          refine g_bipush 139 X dX9_copy_137 rfl cb_60 ?_
                          refine g_iload_n 140 X 1 dX9_copy_139 rfl rfl rfl ?_
                          refine g_imul 141 X dX9_copy_140 rfl ?_
                          refine g_iload_n 142 X 2 dX9_copy_141 rfl rfl rfl ?_
                          refine g_iadd 143 X dX9_copy_142 rfl ?_
                          refine g_iload 145 X 6 dX9_copy_143 rfl rfl ?_
                          refine g_iadd 146 X dX9_copy_145 rfl ?_
                          refine g_iald 147 X rfl dX9_copy_146 rfl ?_
                          refine g_iast 148 X rfl dX9_copy_147 rfl ?_
                          refine g_iinc 151 X 6 [(6, _), (0, _), (1, _), (2, _), (3, _), (4, _), (5, _)] dX9_copy_148 rfl rfl (ii_1 _) (Nat.le_of_ble_eq_true rfl) rfl ?_
                          refine g_goto 120 X dX9_copy_151 (by decide) ?_
                          exact g_sub [1, 2, 3, 4, 5, 6, 0] rfl (ih18 (a15 + (1 : Int32)) _)
                    · refine g_aload_n 112 X 0 dX9_copy_111 rfl rfl rfl ?_
                      refine g_iconst 113 X dX9_copy_112 rfl ci_2 ?_
                      refine g_cVi1 116 X (tX9_meets _ _ (D + 1) _ _) mfX9_meets miX9_meets lkX9_155 rfl rfl rfl (Nat.le_of_ble_eq_true rfl) dX9_copy_113 rfl (fun r29 S30 => ?_)
                      exact g_iret X dX9_copy_116 rfl
          · refine g_aload_n 57 X 0 dX9_copy_56 rfl rfl rfl ?_
            refine g_iconst 58 X dX9_copy_57 rfl ci_4 ?_
            refine g_cVi1 61 X (tX9_meets _ _ (D + 1) _ _) mfX9_meets miX9_meets lkX9_155 rfl rfl rfl (Nat.le_of_ble_eq_true rfl) dX9_copy_58 rfl (fun r31 S32 => ?_)
            exact g_iret X dX9_copy_61 rfl
        · refine g_aload_n 36 X 0 dX9_copy_35 rfl rfl rfl ?_
          refine g_iconst 37 X dX9_copy_36 rfl ci_1 ?_
          refine g_cVi1 40 X (tX9_meets _ _ (D + 1) _ _) mfX9_meets miX9_meets lkX9_155 rfl rfl rfl (Nat.le_of_ble_eq_true rfl) dX9_copy_37 rfl (fun r33 S34 => ?_)
          exact g_iret X dX9_copy_40 rfl
    · refine g_bipush 16 X dX9_copy_14 rfl cb_m2 ?_
      exact g_iret X dX9_copy_16 rfl
def bX9_write_38 (c1 : Int32) (c2 : Int32) (rec : Int32 → Sg → Option ((Int32) × Sg)) (a7 : Int32) (S8 : Sg) : Option ((Int32) × Sg) :=
  gd (ix c2 4) ((if (S8.1 24 (Int32.toNatClampNeg c2)) ≤ a7 then some (a7, S8) else (if (36 : Int32) ≤ a7 then some (a7, S8) else bd (fX9_standsNow c1 a7 S8) (fun r9 S10 => bd (fX9_keep c2 a7 r9 S10) (fun r11 S12 => rec (a7 + (1 : Int32)) S12)))))
def fX9_write (x1 : Int32) (x2 : Int32) (S : Sg) : Option (Int32 × Sg) :=
  bd (fX9_isDay x1 S) (fun r1 S2 => (if r1 = 0 then some ((-2 : Int32), S2) else bd (fX9_isSheet x2 S2) (fun r3 S4 => (if r3 = 0 then some ((-2 : Int32), S4) else gd (ix x2 4) ((if (S4.1 22 (Int32.toNatClampNeg x2)) = 0 then bd (fX9_meets (1 : Int32) S4) (fun r18 S19 => some (r18, S19)) else bd (fX9_runsTold S4) (fun r5 S6 => bd (lp (bX9_write_38 x1 x2) fl (0 : Int32) S6) (fun (a16 : Int32) S17 => some (a16, S17)))))))))
set_option maxHeartbeats 4000000 in
set_option maxRecDepth 100000 in
theorem tX9_write (G : Gd) (l : Launch) (D : Nat) (x1 : Int32) (x2 : Int32) (S : Sg) : Ct LM G l rI yX9_write cX9_write 4 (some .int) (D + 8) [.ref (G.2.1 0), .int x1, .int x2] S (fX9_write x1 x2 S) := by
  refine Ct.of (by decide) (Nat.le_of_ble_eq_true rfl) (fun Z hZ X => ?_)
  subst hZ
  show Go LM G Z 4 rI 0 [(0, .ref (G.2.1 0)), (1, .int x1), (2, .int x2)] [] S (fX9_write x1 x2 S) kz
  unfold fX9_write
  refine g_iload_n 1 X 1 dX9_write_0 rfl rfl rfl ?_
  refine g_cSi1 4 X (tX9_isDay _ _ (D + 6) _ _) mfX9_isDay msX9_isDay lkX9_134 (Nat.le_of_ble_eq_true rfl) dX9_write_1 rfl (fun r1 S2 => ?_)
  refine g_if_eq 14 7 X dX9_write_4 (by decide) rfl (fun _ => ?_) (fun _ => ?_)
  · refine g_bipush 16 X dX9_write_14 rfl cb_m2 ?_
    exact g_iret X dX9_write_16 rfl
  · refine g_iload_n 8 X 2 dX9_write_7 rfl rfl rfl ?_
    refine g_cSi1 11 X (tX9_isSheet _ _ (D + 6) _ _) mfX9_isSheet msX9_isSheet lkX9_152 (Nat.le_of_ble_eq_true rfl) dX9_write_8 rfl (fun r3 S4 => ?_)
    refine g_if_ne 17 14 X dX9_write_11 (by decide) rfl (fun _ => ?_) (fun _ => ?_)
    · refine g_aload_n 18 X 0 dX9_write_17 rfl rfl rfl ?_
      refine g_getr 21 X 22 rfl flX9_73 rfl dX9_write_18 rfl ?_
      refine g_iload_n 22 X 2 dX9_write_21 rfl rfl rfl ?_
      refine g_zald 23 X rfl dX9_write_22 rfl ?_
      refine g_if_ne 32 26 X dX9_write_23 (by decide) rfl (fun _ => ?_) (fun _ => ?_)
      · refine g_aload_n 33 X 0 dX9_write_32 rfl rfl rfl ?_
        refine g_cVv0 36 X (tX9_runsTold _ _ (D)  _) mfX9_runsTold miX9_runsTold lkX9_192 rfl rfl rfl (Nat.le_of_ble_eq_true rfl) dX9_write_33 rfl (fun r5 S6 => ?_)
        refine g_iconst 37 X dX9_write_36 rfl ci_0 ?_
        refine g_istore_n 38 X [(3, _), (0, _), (1, _), (2, _)] dX9_write_37 rfl rfl (Nat.le_of_ble_eq_true rfl) rfl ?_
        refine g_joinK 72 (fun (a16 : Int32) => [(3, .int a16)]) (fun (a16 : Int32) => []) (fun a16 S17 => ?_) (fun J9 => ?_)
        · refine g_iload_n 73 X 0 dX9_write_72 rfl rfl rfl ?_
          exact g_iret X dX9_write_73 rfl
        · refine g_sub [1, 2, 3, 0] rfl (g_lp (fun (a7 : Int32) => [(0, .ref (G.2.1 0)), (1, .int x1), (2, .int x2), (3, .int a7)]) (fun rec11 ih10 a7 S8 => ?_) fl (0 : Int32) _)
          unfold bX9_write_38
          refine g_iload_n 39 X 3 dX9_write_38 rfl rfl rfl ?_
          refine g_aload_n 40 X 0 dX9_write_39 rfl rfl rfl ?_
          refine g_getr 43 X 24 rfl flX9_80 rfl dX9_write_40 rfl ?_
          refine g_iload_n 44 X 2 dX9_write_43 rfl rfl rfl ?_
          refine g_iald 45 X rfl dX9_write_44 rfl ?_
          refine g_icmp_ge 72 48 X dX9_write_45 (by decide) rfl (fun _ => ?_) (fun _ => ?_)
          · exact g_sub [3] rfl (J9 a7 _)
          · refine g_iload_n 49 X 3 dX9_write_48 rfl rfl rfl ?_
            refine g_bipush 51 X dX9_write_49 rfl cb_36 ?_
            refine g_icmp_ge 72 54 X dX9_write_51 (by decide) rfl (fun _ => ?_) (fun _ => ?_)
            · exact g_sub [3] rfl (J9 a7 _)
            · refine g_aload_n 55 X 0 dX9_write_54 rfl rfl rfl ?_
              refine g_iload_n 56 X 2 dX9_write_55 rfl rfl rfl ?_
              refine g_iload_n 57 X 3 dX9_write_56 rfl rfl rfl ?_
              refine g_aload_n 58 X 0 dX9_write_57 rfl rfl rfl ?_
              refine g_iload_n 59 X 1 dX9_write_58 rfl rfl rfl ?_
              refine g_iload_n 60 X 3 dX9_write_59 rfl rfl rfl ?_
              refine g_cVi2 63 X (tX9_standsNow _ _ (D + 7) _ _ _) mfX9_standsNow miX9_standsNow lkX9_195 rfl rfl rfl (Nat.le_of_ble_eq_true rfl) dX9_write_60 rfl (fun r12 S13 => ?_)
              refine g_cVv3 66 X (tX9_keep _ _ (D + 7) _ _ _ _) mfX9_keep miX9_keep lkX9_288 rfl rfl rfl (Nat.le_of_ble_eq_true rfl) dX9_write_63 rfl (fun r14 S15 => ?_)
              refine g_iinc 69 X 3 [(3, _), (0, _), (1, _), (2, _)] dX9_write_66 rfl rfl (ii_1 _) (Nat.le_of_ble_eq_true rfl) rfl ?_
              refine g_goto 38 X dX9_write_69 (by decide) ?_
              exact g_sub [1, 2, 3, 0] rfl (ih10 (a7 + (1 : Int32)) _)
      · refine g_aload_n 27 X 0 dX9_write_26 rfl rfl rfl ?_
        refine g_iconst 28 X dX9_write_27 rfl ci_1 ?_
        refine g_cVi1 31 X (tX9_meets _ _ (D + 7) _ _) mfX9_meets miX9_meets lkX9_155 rfl rfl rfl (Nat.le_of_ble_eq_true rfl) dX9_write_28 rfl (fun r18 S19 => ?_)
        exact g_iret X dX9_write_31 rfl
    · refine g_bipush 16 X dX9_write_14 rfl cb_m2 ?_
      exact g_iret X dX9_write_16 rfl
def fX9_sumOf (x1 : Int32) (S : Sg) : Option (Int32 × Sg) :=
  bd (fX9_runsTold S) (fun r1 S2 => (if x1 = 0 then some ((S2.1 0 2), S2) else (if x1 = (1 : Int32) then some ((S2.1 0 4), S2) else bd (fX9_allUp S2) (fun r3 S4 => some (r3, S4)))))
set_option maxHeartbeats 4000000 in
set_option maxRecDepth 100000 in
theorem tX9_sumOf (G : Gd) (l : Launch) (D : Nat) (x1 : Int32) (S : Sg) : Ct LM G l rI yX9_sumOf cX9_sumOf 2 (some .int) (D + 8) [.ref (G.2.1 0), .int x1] S (fX9_sumOf x1 S) := by
  refine Ct.of (by decide) (Nat.le_of_ble_eq_true rfl) (fun Z hZ X => ?_)
  subst hZ
  show Go LM G Z 2 rI 0 [(0, .ref (G.2.1 0)), (1, .int x1)] [] S (fX9_sumOf x1 S) kz
  unfold fX9_sumOf
  refine g_aload_n 1 X 0 dX9_sumOf_0 rfl rfl rfl ?_
  refine g_cVv0 4 X (tX9_runsTold _ _ (D)  _) mfX9_runsTold miX9_runsTold lkX9_192 rfl rfl rfl (Nat.le_of_ble_eq_true rfl) dX9_sumOf_1 rfl (fun r1 S2 => ?_)
  refine g_iload_n 5 X 1 dX9_sumOf_4 rfl rfl rfl ?_
  refine g_if_ne 15 8 X dX9_sumOf_5 (by decide) rfl (fun _ => ?_) (fun _ => ?_)
  · refine g_iload_n 16 X 1 dX9_sumOf_15 rfl rfl rfl ?_
    refine g_iconst 17 X dX9_sumOf_16 rfl ci_1 ?_
    refine g_icmp_ne 27 20 X dX9_sumOf_17 (by decide) rfl (fun _ => ?_) (fun _ => ?_)
    · refine g_aload_n 28 X 0 dX9_sumOf_27 rfl rfl rfl ?_
      refine g_cVi0 31 X (tX9_allUp _ _ (D + 6)  _) mfX9_allUp miX9_allUp lkX9_232 rfl rfl rfl (Nat.le_of_ble_eq_true rfl) dX9_sumOf_28 rfl (fun r3 S4 => ?_)
      exact g_iret X dX9_sumOf_31 rfl
    · refine g_aload_n 21 X 0 dX9_sumOf_20 rfl rfl rfl ?_
      refine g_geti 24 X rfl flX9_114 rfl dX9_sumOf_21 rfl ?_
      refine g_goto 31 X dX9_sumOf_24 (by decide) ?_
      exact g_iret X dX9_sumOf_31 rfl
  · refine g_aload_n 9 X 0 dX9_sumOf_8 rfl rfl rfl ?_
    refine g_geti 12 X rfl flX9_103 rfl dX9_sumOf_9 rfl ?_
    refine g_goto 31 X dX9_sumOf_12 (by decide) ?_
    exact g_iret X dX9_sumOf_31 rfl
def fX9_count (x1 : Int32) (S : Sg) : Option (Int32 × Sg) :=
  (if x1 = (0 : Int32) then bd (fX9_sumOf x1 S) (fun r10 S11 => some (r10, S11)) else (if x1 = (1 : Int32) then bd (fX9_sumOf x1 S) (fun r12 S13 => some (r12, S13)) else (if x1 = (2 : Int32) then gd (ix (x1 - (2 : Int32)) 2) (some ((S.1 1 (Int32.toNatClampNeg (x1 - (2 : Int32)))), S)) else (if x1 = (3 : Int32) then gd (ix (x1 - (2 : Int32)) 2) (some ((S.1 1 (Int32.toNatClampNeg (x1 - (2 : Int32)))), S)) else (if x1 = (4 : Int32) then some ((S.1 0 10), S) else (if x1 = (5 : Int32) then some ((S.1 0 13), S) else (if x1 = (6 : Int32) then bd (fX9_sumOf x1 S) (fun r14 S15 => some (r14, S15)) else (if x1 = (7 : Int32) then some ((S.1 0 25), S) else (if x1 = (8 : Int32) then some ((S.1 0 35), S) else some ((-2 : Int32), S))))))))))
set_option maxHeartbeats 4000000 in
set_option maxRecDepth 100000 in
theorem tX9_count (G : Gd) (l : Launch) (D : Nat) (x1 : Int32) (S : Sg) : Ct LM G l rI yX9_count cX9_count 2 (some .int) (D + 9) [.ref (G.2.1 0), .int x1] S (fX9_count x1 S) := by
  refine Ct.of (by decide) (Nat.le_of_ble_eq_true rfl) (fun Z hZ X => ?_)
  subst hZ
  show Go LM G Z 2 rI 0 [(0, .ref (G.2.1 0)), (1, .int x1)] [] S (fX9_count x1 S) kz
  unfold fX9_count
  refine g_iload_n 1 X 1 dX9_count_0 rfl rfl rfl ?_
  refine g_ite (fun hc1 => ?_) (fun hc1 => ?_)
  · refine g_tin 52 X (0 : Int32) hc1 dX9_count_1 (by decide) (by decide) rfl (by decide) ?_
    refine g_aload_n 53 X 0 dX9_count_52 rfl rfl rfl ?_
    refine g_iload_n 54 X 1 dX9_count_53 rfl rfl rfl ?_
    refine g_cVi1 57 X (tX9_sumOf _ _ (D) _ _) mfX9_sumOf miX9_sumOf lkX9_293 rfl rfl rfl (Nat.le_of_ble_eq_true rfl) dX9_count_54 rfl (fun r10 S11 => ?_)
    exact g_iret X dX9_count_57 rfl
  refine g_ite (fun hc2 => ?_) (fun hc2 => ?_)
  · refine g_tin 52 X (1 : Int32) hc2 dX9_count_1 (by decide) (by decide) rfl (by decide) ?_
    refine g_aload_n 53 X 0 dX9_count_52 rfl rfl rfl ?_
    refine g_iload_n 54 X 1 dX9_count_53 rfl rfl rfl ?_
    refine g_cVi1 57 X (tX9_sumOf _ _ (D) _ _) mfX9_sumOf miX9_sumOf lkX9_293 rfl rfl rfl (Nat.le_of_ble_eq_true rfl) dX9_count_54 rfl (fun r12 S13 => ?_)
    exact g_iret X dX9_count_57 rfl
  refine g_ite (fun hc3 => ?_) (fun hc3 => ?_)
  · refine g_tin 58 X (2 : Int32) hc3 dX9_count_1 (by decide) (by decide) rfl (by decide) ?_
    refine g_aload_n 59 X 0 dX9_count_58 rfl rfl rfl ?_
    refine g_getr 62 X 1 rfl flX9_7 rfl dX9_count_59 rfl ?_
    refine g_iload_n 63 X 1 dX9_count_62 rfl rfl rfl ?_
    refine g_iconst 64 X dX9_count_63 rfl ci_2 ?_
    refine g_isub 65 X dX9_count_64 rfl ?_
    refine g_iald 66 X rfl dX9_count_65 rfl ?_
    exact g_iret X dX9_count_66 rfl
  refine g_ite (fun hc4 => ?_) (fun hc4 => ?_)
  · refine g_tin 58 X (3 : Int32) hc4 dX9_count_1 (by decide) (by decide) rfl (by decide) ?_
    refine g_aload_n 59 X 0 dX9_count_58 rfl rfl rfl ?_
    refine g_getr 62 X 1 rfl flX9_7 rfl dX9_count_59 rfl ?_
    refine g_iload_n 63 X 1 dX9_count_62 rfl rfl rfl ?_
    refine g_iconst 64 X dX9_count_63 rfl ci_2 ?_
    refine g_isub 65 X dX9_count_64 rfl ?_
    refine g_iald 66 X rfl dX9_count_65 rfl ?_
    exact g_iret X dX9_count_66 rfl
  refine g_ite (fun hc5 => ?_) (fun hc5 => ?_)
  · refine g_tin 67 X (4 : Int32) hc5 dX9_count_1 (by decide) (by decide) rfl (by decide) ?_
    refine g_aload_n 68 X 0 dX9_count_67 rfl rfl rfl ?_
    refine g_geti 71 X rfl flX9_146 rfl dX9_count_68 rfl ?_
    exact g_iret X dX9_count_71 rfl
  refine g_ite (fun hc6 => ?_) (fun hc6 => ?_)
  · refine g_tin 72 X (5 : Int32) hc6 dX9_count_1 (by decide) (by decide) rfl (by decide) ?_
    refine g_aload_n 73 X 0 dX9_count_72 rfl rfl rfl ?_
    refine g_geti 76 X rfl flX9_149 rfl dX9_count_73 rfl ?_
    exact g_iret X dX9_count_76 rfl
  refine g_ite (fun hc7 => ?_) (fun hc7 => ?_)
  · refine g_tin 52 X (6 : Int32) hc7 dX9_count_1 (by decide) (by decide) rfl (by decide) ?_
    refine g_aload_n 53 X 0 dX9_count_52 rfl rfl rfl ?_
    refine g_iload_n 54 X 1 dX9_count_53 rfl rfl rfl ?_
    refine g_cVi1 57 X (tX9_sumOf _ _ (D) _ _) mfX9_sumOf miX9_sumOf lkX9_293 rfl rfl rfl (Nat.le_of_ble_eq_true rfl) dX9_count_54 rfl (fun r14 S15 => ?_)
    exact g_iret X dX9_count_57 rfl
  refine g_ite (fun hc8 => ?_) (fun hc8 => ?_)
  · refine g_tin 77 X (7 : Int32) hc8 dX9_count_1 (by decide) (by decide) rfl (by decide) ?_
    refine g_aload_n 78 X 0 dX9_count_77 rfl rfl rfl ?_
    refine g_geti 81 X rfl flX9_247 rfl dX9_count_78 rfl ?_
    exact g_iret X dX9_count_81 rfl
  refine g_ite (fun hc9 => ?_) (fun hc9 => ?_)
  · refine g_tin 82 X (8 : Int32) hc9 dX9_count_1 (by decide) (by decide) rfl (by decide) ?_
    refine g_aload_n 83 X 0 dX9_count_82 rfl rfl rfl ?_
    refine g_geti 86 X rfl flX9_282 rfl dX9_count_83 rfl ?_
    exact g_iret X dX9_count_86 rfl
  refine g_tout 87 X dX9_count_1 (sw_out (fun k hk => ?_)) (by decide) ?_
  · have hk2 : k = 0 ∨ k = 1 ∨ k = 2 ∨ k = 3 ∨ k = 4 ∨ k = 5 ∨ k = 6 ∨ k = 7 ∨ k = 8 := by omega
    rcases hk2 with rfl | rfl | rfl | rfl | rfl | rfl | rfl | rfl | rfl
    · exact fun hq => hc1 (Int32.toInt_inj.mp (by rw [hq]; rfl))
    · exact fun hq => hc2 (Int32.toInt_inj.mp (by rw [hq]; rfl))
    · exact fun hq => hc3 (Int32.toInt_inj.mp (by rw [hq]; rfl))
    · exact fun hq => hc4 (Int32.toInt_inj.mp (by rw [hq]; rfl))
    · exact fun hq => hc5 (Int32.toInt_inj.mp (by rw [hq]; rfl))
    · exact fun hq => hc6 (Int32.toInt_inj.mp (by rw [hq]; rfl))
    · exact fun hq => hc7 (Int32.toInt_inj.mp (by rw [hq]; rfl))
    · exact fun hq => hc8 (Int32.toInt_inj.mp (by rw [hq]; rfl))
    · exact fun hq => hc9 (Int32.toInt_inj.mp (by rw [hq]; rfl))
  · refine g_bipush 89 X dX9_count_87 rfl cb_m2 ?_
    exact g_iret X dX9_count_89 rfl
def bX9_dayDigest_47 (c3 : Int32) (rec : (Int64 × Int32) → Sg → Option ((Int64 × Int32) × Sg)) (a7 : Int64 × Int32) (S8 : Sg) : Option ((Int64 × Int32) × Sg) :=
  (if (36 : Int32) ≤ a7.2 then some ((a7.1, a7.2), S8) else bd (fX9_standsOf c3 a7.2 S8) (fun r9 S10 => rec ((((31 : Int64) * a7.1) + (Int32.toInt64 r9)), (a7.2 + (1 : Int32))) S10))
def fX9_dayDigest (x1 : Int64) (x3 : Int32) (S : Sg) : Option (Int64 × Sg) :=
  bd (fX9_dampOf x3 S) (fun r1 S2 => bd (fX9_throughOf x3 S2) (fun r3 S4 => bd (fX9_deepOf x3 S4) (fun r5 S6 => bd (lp (bX9_dayDigest_47 x3) fl ((((31 : Int64) * (((31 : Int64) * (((31 : Int64) * x1) + (Int32.toInt64 r1))) + (Int32.toInt64 r3))) + (Int32.toInt64 r5)), (0 : Int32)) S6) (fun (a14 : Int64 × Int32) S15 => some (a14.1, S15)))))
set_option maxHeartbeats 4000000 in
set_option maxRecDepth 100000 in
theorem tX9_dayDigest (G : Gd) (l : Launch) (D : Nat) (x1 : Int64) (x3 : Int32) (S : Sg) : Ct LM G l rL yX9_dayDigest cX9_dayDigest 7 (some .long) (D + 9) [.ref (G.2.1 0), .long x1, .int x3] S (fX9_dayDigest x1 x3 S) := by
  refine Ct.of (by decide) (Nat.le_of_ble_eq_true rfl) (fun Z hZ X => ?_)
  subst hZ
  show Go LM G Z 7 rL 0 [(0, .ref (G.2.1 0)), (1, .long x1), (3, .int x3)] [] S (fX9_dayDigest x1 x3 S) kz
  unfold fX9_dayDigest
  refine g_ldc2 3 X dX9_dayDigest_0 rfl conX9_296 ?_
  refine g_lload_n 4 X 1 dX9_dayDigest_3 rfl rfl rfl ?_
  refine g_lmul 5 X dX9_dayDigest_4 rfl ?_
  refine g_aload_n 6 X 0 dX9_dayDigest_5 rfl rfl rfl ?_
  refine g_iload_n 7 X 2 dX9_dayDigest_6 rfl rfl rfl ?_
  refine g_cVi1 10 X (tX9_dampOf _ _ (D + 2) _ _) mfX9_dampOf miX9_dampOf lkX9_137 rfl rfl rfl (Nat.le_of_ble_eq_true rfl) dX9_dayDigest_7 rfl (fun r1 S2 => ?_)
  refine g_i2l 11 X dX9_dayDigest_10 rfl ?_
  refine g_ladd 12 X dX9_dayDigest_11 rfl ?_
  refine g_lstore 14 X [(4, _), (0, _), (1, _), (3, _)] dX9_dayDigest_12 rfl (Nat.le_of_ble_eq_true rfl) rfl ?_
  refine g_ldc2 17 X dX9_dayDigest_14 rfl conX9_296 ?_
  refine g_lload 19 X 0 dX9_dayDigest_17 rfl rfl ?_
  refine g_lmul 20 X dX9_dayDigest_19 rfl ?_
  refine g_aload_n 21 X 1 dX9_dayDigest_20 rfl rfl rfl ?_
  refine g_iload_n 22 X 3 dX9_dayDigest_21 rfl rfl rfl ?_
  refine g_cVi1 25 X (tX9_throughOf _ _ (D) _ _) mfX9_throughOf miX9_throughOf lkX9_217 rfl rfl rfl (Nat.le_of_ble_eq_true rfl) dX9_dayDigest_22 rfl (fun r3 S4 => ?_)
  refine g_i2l 26 X dX9_dayDigest_25 rfl ?_
  refine g_ladd 27 X dX9_dayDigest_26 rfl ?_
  refine g_lstore 29 X [(4, _), (0, _), (1, _), (3, _)] dX9_dayDigest_27 rfl (Nat.le_of_ble_eq_true rfl) rfl ?_
  refine g_ldc2 32 X dX9_dayDigest_29 rfl conX9_296 ?_
  refine g_lload 34 X 0 dX9_dayDigest_32 rfl rfl ?_
  refine g_lmul 35 X dX9_dayDigest_34 rfl ?_
  refine g_aload_n 36 X 1 dX9_dayDigest_35 rfl rfl rfl ?_
  refine g_iload_n 37 X 3 dX9_dayDigest_36 rfl rfl rfl ?_
  refine g_cVi1 40 X (tX9_deepOf _ _ (D) _ _) mfX9_deepOf miX9_deepOf lkX9_229 rfl rfl rfl (Nat.le_of_ble_eq_true rfl) dX9_dayDigest_37 rfl (fun r5 S6 => ?_)
  refine g_i2l 41 X dX9_dayDigest_40 rfl ?_
  refine g_ladd 42 X dX9_dayDigest_41 rfl ?_
  refine g_lstore 44 X [(4, _), (0, _), (1, _), (3, _)] dX9_dayDigest_42 rfl (Nat.le_of_ble_eq_true rfl) rfl ?_
  refine g_iconst 45 X dX9_dayDigest_44 rfl ci_0 ?_
  refine g_istore 47 X [(6, _), (4, _), (0, _), (1, _), (3, _)] dX9_dayDigest_45 rfl (Nat.le_of_ble_eq_true rfl) rfl ?_
  refine g_joinK 77 (fun (a14 : Int64 × Int32) => [(4, .long a14.1)]) (fun (a14 : Int64 × Int32) => []) (fun a14 S15 => ?_) (fun J9 => ?_)
  · refine g_lload 79 X 0 dX9_dayDigest_77 rfl rfl ?_
    exact g_lret X dX9_dayDigest_79 rfl
  · refine g_sub [2, 4, 1, 0] rfl (g_lp (fun (a7 : Int64 × Int32) => [(0, .ref (G.2.1 0)), (3, .int x3), (4, .long a7.1), (6, .int a7.2)]) (fun rec11 ih10 a7 S8 => ?_) fl ((((31 : Int64) * (((31 : Int64) * (((31 : Int64) * x1) + (Int32.toInt64 r1))) + (Int32.toInt64 r3))) + (Int32.toInt64 r5)), (0 : Int32)) _)
    unfold bX9_dayDigest_47
    refine g_iload 49 X 3 dX9_dayDigest_47 rfl rfl ?_
    refine g_bipush 51 X dX9_dayDigest_49 rfl cb_36 ?_
    refine g_icmp_ge 77 54 X dX9_dayDigest_51 (by decide) rfl (fun _ => ?_) (fun _ => ?_)
    · exact g_sub [2] rfl (J9 (a7.1, a7.2) _)
    · refine g_ldc2 57 X dX9_dayDigest_54 rfl conX9_296 ?_
      refine g_lload 59 X 2 dX9_dayDigest_57 rfl rfl ?_
      refine g_lmul 60 X dX9_dayDigest_59 rfl ?_
      refine g_aload_n 61 X 0 dX9_dayDigest_60 rfl rfl rfl ?_
      refine g_iload_n 62 X 1 dX9_dayDigest_61 rfl rfl rfl ?_
      refine g_iload 64 X 3 dX9_dayDigest_62 rfl rfl ?_
      refine g_cVi2 67 X (tX9_standsOf _ _ (D) _ _ _) mfX9_standsOf miX9_standsOf lkX9_201 rfl rfl rfl (Nat.le_of_ble_eq_true rfl) dX9_dayDigest_64 rfl (fun r12 S13 => ?_)
      refine g_i2l 68 X dX9_dayDigest_67 rfl ?_
      refine g_ladd 69 X dX9_dayDigest_68 rfl ?_
      refine g_lstore 71 X [(4, _), (0, _), (3, _), (6, _)] dX9_dayDigest_69 rfl (Nat.le_of_ble_eq_true rfl) rfl ?_
      refine g_iinc 74 X 3 [(6, _), (4, _), (0, _), (3, _)] dX9_dayDigest_71 rfl rfl (ii_1 _) (Nat.le_of_ble_eq_true rfl) rfl ?_
      refine g_goto 47 X dX9_dayDigest_74 (by decide) ?_
      exact g_sub [2, 3, 1, 0] rfl (ih10 ((((31 : Int64) * a7.1) + (Int32.toInt64 r12)), (a7.2 + (1 : Int32))) _)
def bX9_strokeDigest_6 (c3 : Int32) (rec : (Int64 × Int32) → Sg → Option ((Int64 × Int32) × Sg)) (a1 : Int64 × Int32) (S2 : Sg) : Option ((Int64 × Int32) × Sg) :=
  (if (4 : Int32) ≤ a1.2 then some ((a1.1, a1.2), S2) else bd (fX9_strokeOf c3 a1.2 S2) (fun r3 S4 => rec ((((31 : Int64) * a1.1) + (Int32.toInt64 r3)), (a1.2 + (1 : Int32))) S4))
def fX9_strokeDigest (x1 : Int64) (x3 : Int32) (S : Sg) : Option (Int64 × Sg) :=
  bd (lp (bX9_strokeDigest_6 x3) fl (x1, (0 : Int32)) S) (fun (a8 : Int64 × Int32) S9 => bd (fX9_stateOf (9 : Int32) x3 (0 : Int32) S9) (fun r10 S11 => bd (fX9_stateOf (9 : Int32) x3 (1 : Int32) S11) (fun r12 S13 => bd (fX9_stateOf (19 : Int32) x3 (0 : Int32) S13) (fun r14 S15 => bd (fX9_stateOf (19 : Int32) x3 (1 : Int32) S15) (fun r16 S17 => bd (fX9_upOf x3 S17) (fun r18 S19 => bd (fX9_whenOf x3 (0 : Int32) S19) (fun r20 S21 => bd (fX9_whenOf x3 (1 : Int32) S21) (fun r22 S23 => bd (fX9_placeOf x3 (0 : Int32) S23) (fun r24 S25 => bd (fX9_placeOf x3 (1 : Int32) S25) (fun r26 S27 => bd (fX9_signOf x3 S27) (fun r28 S29 => bd (fX9_chalkOf x3 S29) (fun r30 S31 => some ((((31 : Int64) * (((31 : Int64) * (((31 : Int64) * (((31 : Int64) * (((31 : Int64) * (((31 : Int64) * (((31 : Int64) * (((31 : Int64) * (((31 : Int64) * (((31 : Int64) * (((31 : Int64) * a8.1) + (Int32.toInt64 r10))) + (Int32.toInt64 r12))) + (Int32.toInt64 r14))) + (Int32.toInt64 r16))) + (Int32.toInt64 r18))) + (Int32.toInt64 r20))) + (Int32.toInt64 r22))) + (Int32.toInt64 r24))) + (Int32.toInt64 r26))) + (Int32.toInt64 r28))) + (Int32.toInt64 r30)), S31)))))))))))))
set_option maxHeartbeats 4000000 in
set_option maxRecDepth 100000 in
theorem tX9_strokeDigest (G : Gd) (l : Launch) (D : Nat) (x1 : Int64) (x3 : Int32) (S : Sg) : Ct LM G l rL yX9_strokeDigest cX9_strokeDigest 7 (some .long) (D + 9) [.ref (G.2.1 0), .long x1, .int x3] S (fX9_strokeDigest x1 x3 S) := by
  refine Ct.of (by decide) (Nat.le_of_ble_eq_true rfl) (fun Z hZ X => ?_)
  subst hZ
  show Go LM G Z 7 rL 0 [(0, .ref (G.2.1 0)), (1, .long x1), (3, .int x3)] [] S (fX9_strokeDigest x1 x3 S) kz
  unfold fX9_strokeDigest
  refine g_lload_n 1 X 1 dX9_strokeDigest_0 rfl rfl rfl ?_
  refine g_lstore 3 X [(4, _), (0, _), (1, _), (3, _)] dX9_strokeDigest_1 rfl (Nat.le_of_ble_eq_true rfl) rfl ?_
  refine g_iconst 4 X dX9_strokeDigest_3 rfl ci_0 ?_
  refine g_istore 6 X [(6, _), (4, _), (0, _), (1, _), (3, _)] dX9_strokeDigest_4 rfl (Nat.le_of_ble_eq_true rfl) rfl ?_
  refine g_joinK 35 (fun (a8 : Int64 × Int32) => [(0, .ref (G.2.1 0)), (3, .int x3), (4, .long a8.1)]) (fun (a8 : Int64 × Int32) => []) (fun a8 S9 => ?_) (fun J3 => ?_)
  · refine g_ldc2 38 X dX9_strokeDigest_35 rfl conX9_296 ?_
    refine g_lload 40 X 2 dX9_strokeDigest_38 rfl rfl ?_
    refine g_lmul 41 X dX9_strokeDigest_40 rfl ?_
    refine g_aload_n 42 X 0 dX9_strokeDigest_41 rfl rfl rfl ?_
    refine g_bipush 44 X dX9_strokeDigest_42 rfl cb_9 ?_
    refine g_iload_n 45 X 1 dX9_strokeDigest_44 rfl rfl rfl ?_
    refine g_iconst 46 X dX9_strokeDigest_45 rfl ci_0 ?_
    refine g_cVi3 49 X (tX9_stateOf _ _ (D) _ _ _ _) mfX9_stateOf miX9_stateOf lkX9_204 rfl rfl rfl (Nat.le_of_ble_eq_true rfl) dX9_strokeDigest_46 rfl (fun r10 S11 => ?_)
    refine g_i2l 50 X dX9_strokeDigest_49 rfl ?_
    refine g_ladd 51 X dX9_strokeDigest_50 rfl ?_
    refine g_lstore 53 X [(4, _), (0, _), (3, _)] dX9_strokeDigest_51 rfl (Nat.le_of_ble_eq_true rfl) rfl ?_
    refine g_ldc2 56 X dX9_strokeDigest_53 rfl conX9_296 ?_
    refine g_lload 58 X 0 dX9_strokeDigest_56 rfl rfl ?_
    refine g_lmul 59 X dX9_strokeDigest_58 rfl ?_
    refine g_aload_n 60 X 1 dX9_strokeDigest_59 rfl rfl rfl ?_
    refine g_bipush 62 X dX9_strokeDigest_60 rfl cb_9 ?_
    refine g_iload_n 63 X 2 dX9_strokeDigest_62 rfl rfl rfl ?_
    refine g_iconst 64 X dX9_strokeDigest_63 rfl ci_1 ?_
    refine g_cVi3 67 X (tX9_stateOf _ _ (D) _ _ _ _) mfX9_stateOf miX9_stateOf lkX9_204 rfl rfl rfl (Nat.le_of_ble_eq_true rfl) dX9_strokeDigest_64 rfl (fun r12 S13 => ?_)
    refine g_i2l 68 X dX9_strokeDigest_67 rfl ?_
    refine g_ladd 69 X dX9_strokeDigest_68 rfl ?_
    refine g_lstore 71 X [(4, _), (0, _), (3, _)] dX9_strokeDigest_69 rfl (Nat.le_of_ble_eq_true rfl) rfl ?_
    refine g_ldc2 74 X dX9_strokeDigest_71 rfl conX9_296 ?_
    refine g_lload 76 X 0 dX9_strokeDigest_74 rfl rfl ?_
    refine g_lmul 77 X dX9_strokeDigest_76 rfl ?_
    refine g_aload_n 78 X 1 dX9_strokeDigest_77 rfl rfl rfl ?_
    refine g_bipush 80 X dX9_strokeDigest_78 rfl cb_19 ?_
    refine g_iload_n 81 X 2 dX9_strokeDigest_80 rfl rfl rfl ?_
    refine g_iconst 82 X dX9_strokeDigest_81 rfl ci_0 ?_
    refine g_cVi3 85 X (tX9_stateOf _ _ (D) _ _ _ _) mfX9_stateOf miX9_stateOf lkX9_204 rfl rfl rfl (Nat.le_of_ble_eq_true rfl) dX9_strokeDigest_82 rfl (fun r14 S15 => ?_)
    refine g_i2l 86 X dX9_strokeDigest_85 rfl ?_
    refine g_ladd 87 X dX9_strokeDigest_86 rfl ?_
    refine g_lstore 89 X [(4, _), (0, _), (3, _)] dX9_strokeDigest_87 rfl (Nat.le_of_ble_eq_true rfl) rfl ?_
    refine g_ldc2 92 X dX9_strokeDigest_89 rfl conX9_296 ?_
    refine g_lload 94 X 0 dX9_strokeDigest_92 rfl rfl ?_
    refine g_lmul 95 X dX9_strokeDigest_94 rfl ?_
    refine g_aload_n 96 X 1 dX9_strokeDigest_95 rfl rfl rfl ?_
    refine g_bipush 98 X dX9_strokeDigest_96 rfl cb_19 ?_
    refine g_iload_n 99 X 2 dX9_strokeDigest_98 rfl rfl rfl ?_
    refine g_iconst 100 X dX9_strokeDigest_99 rfl ci_1 ?_
    refine g_cVi3 103 X (tX9_stateOf _ _ (D) _ _ _ _) mfX9_stateOf miX9_stateOf lkX9_204 rfl rfl rfl (Nat.le_of_ble_eq_true rfl) dX9_strokeDigest_100 rfl (fun r16 S17 => ?_)
    refine g_i2l 104 X dX9_strokeDigest_103 rfl ?_
    refine g_ladd 105 X dX9_strokeDigest_104 rfl ?_
    refine g_lstore 107 X [(4, _), (0, _), (3, _)] dX9_strokeDigest_105 rfl (Nat.le_of_ble_eq_true rfl) rfl ?_
    refine g_ldc2 110 X dX9_strokeDigest_107 rfl conX9_296 ?_
    refine g_lload 112 X 0 dX9_strokeDigest_110 rfl rfl ?_
    refine g_lmul 113 X dX9_strokeDigest_112 rfl ?_
    refine g_aload_n 114 X 1 dX9_strokeDigest_113 rfl rfl rfl ?_
    refine g_iload_n 115 X 2 dX9_strokeDigest_114 rfl rfl rfl ?_
    refine g_cVi1 118 X (tX9_upOf _ _ (D) _ _) mfX9_upOf miX9_upOf lkX9_211 rfl rfl rfl (Nat.le_of_ble_eq_true rfl) dX9_strokeDigest_115 rfl (fun r18 S19 => ?_)
    refine g_i2l 119 X dX9_strokeDigest_118 rfl ?_
    refine g_ladd 120 X dX9_strokeDigest_119 rfl ?_
    refine g_lstore 122 X [(4, _), (0, _), (3, _)] dX9_strokeDigest_120 rfl (Nat.le_of_ble_eq_true rfl) rfl ?_
    refine g_ldc2 125 X dX9_strokeDigest_122 rfl conX9_296 ?_
    refine g_lload 127 X 0 dX9_strokeDigest_125 rfl rfl ?_
    refine g_lmul 128 X dX9_strokeDigest_127 rfl ?_
    refine g_aload_n 129 X 1 dX9_strokeDigest_128 rfl rfl rfl ?_
    refine g_iload_n 130 X 2 dX9_strokeDigest_129 rfl rfl rfl ?_
    refine g_iconst 131 X dX9_strokeDigest_130 rfl ci_0 ?_
    refine g_cVi2 134 X (tX9_whenOf _ _ (D + 1) _ _ _) mfX9_whenOf miX9_whenOf lkX9_238 rfl rfl rfl (Nat.le_of_ble_eq_true rfl) dX9_strokeDigest_131 rfl (fun r20 S21 => ?_)
    refine g_i2l 135 X dX9_strokeDigest_134 rfl ?_
    refine g_ladd 136 X dX9_strokeDigest_135 rfl ?_
    refine g_lstore 138 X [(4, _), (0, _), (3, _)] dX9_strokeDigest_136 rfl (Nat.le_of_ble_eq_true rfl) rfl ?_
    refine g_ldc2 141 X dX9_strokeDigest_138 rfl conX9_296 ?_
    refine g_lload 143 X 0 dX9_strokeDigest_141 rfl rfl ?_
    refine g_lmul 144 X dX9_strokeDigest_143 rfl ?_
    refine g_aload_n 145 X 1 dX9_strokeDigest_144 rfl rfl rfl ?_
    refine g_iload_n 146 X 2 dX9_strokeDigest_145 rfl rfl rfl ?_
    refine g_iconst 147 X dX9_strokeDigest_146 rfl ci_1 ?_
    refine g_cVi2 150 X (tX9_whenOf _ _ (D + 1) _ _ _) mfX9_whenOf miX9_whenOf lkX9_238 rfl rfl rfl (Nat.le_of_ble_eq_true rfl) dX9_strokeDigest_147 rfl (fun r22 S23 => ?_)
    refine g_i2l 151 X dX9_strokeDigest_150 rfl ?_
    refine g_ladd 152 X dX9_strokeDigest_151 rfl ?_
    refine g_lstore 154 X [(4, _), (0, _), (3, _)] dX9_strokeDigest_152 rfl (Nat.le_of_ble_eq_true rfl) rfl ?_
    refine g_ldc2 157 X dX9_strokeDigest_154 rfl conX9_296 ?_
    refine g_lload 159 X 0 dX9_strokeDigest_157 rfl rfl ?_
    refine g_lmul 160 X dX9_strokeDigest_159 rfl ?_
    refine g_aload_n 161 X 1 dX9_strokeDigest_160 rfl rfl rfl ?_
    refine g_iload_n 162 X 2 dX9_strokeDigest_161 rfl rfl rfl ?_
    refine g_iconst 163 X dX9_strokeDigest_162 rfl ci_0 ?_
    refine g_cVi2 166 X (tX9_placeOf _ _ (D + 1) _ _ _) mfX9_placeOf miX9_placeOf lkX9_241 rfl rfl rfl (Nat.le_of_ble_eq_true rfl) dX9_strokeDigest_163 rfl (fun r24 S25 => ?_)
    refine g_i2l 167 X dX9_strokeDigest_166 rfl ?_
    refine g_ladd 168 X dX9_strokeDigest_167 rfl ?_
    refine g_lstore 170 X [(4, _), (0, _), (3, _)] dX9_strokeDigest_168 rfl (Nat.le_of_ble_eq_true rfl) rfl ?_
    refine g_ldc2 173 X dX9_strokeDigest_170 rfl conX9_296 ?_
    refine g_lload 175 X 0 dX9_strokeDigest_173 rfl rfl ?_
    refine g_lmul 176 X dX9_strokeDigest_175 rfl ?_
    refine g_aload_n 177 X 1 dX9_strokeDigest_176 rfl rfl rfl ?_
    refine g_iload_n 178 X 2 dX9_strokeDigest_177 rfl rfl rfl ?_
    refine g_iconst 179 X dX9_strokeDigest_178 rfl ci_1 ?_
    refine g_cVi2 182 X (tX9_placeOf _ _ (D + 1) _ _ _) mfX9_placeOf miX9_placeOf lkX9_241 rfl rfl rfl (Nat.le_of_ble_eq_true rfl) dX9_strokeDigest_179 rfl (fun r26 S27 => ?_)
    refine g_i2l 183 X dX9_strokeDigest_182 rfl ?_
    refine g_ladd 184 X dX9_strokeDigest_183 rfl ?_
    refine g_lstore 186 X [(4, _), (0, _), (3, _)] dX9_strokeDigest_184 rfl (Nat.le_of_ble_eq_true rfl) rfl ?_
    refine g_ldc2 189 X dX9_strokeDigest_186 rfl conX9_296 ?_
    refine g_lload 191 X 0 dX9_strokeDigest_189 rfl rfl ?_
    refine g_lmul 192 X dX9_strokeDigest_191 rfl ?_
    refine g_aload_n 193 X 1 dX9_strokeDigest_192 rfl rfl rfl ?_
    refine g_iload_n 194 X 2 dX9_strokeDigest_193 rfl rfl rfl ?_
    refine g_cVi1 197 X (tX9_signOf _ _ (D + 1) _ _) mfX9_signOf miX9_signOf lkX9_257 rfl rfl rfl (Nat.le_of_ble_eq_true rfl) dX9_strokeDigest_194 rfl (fun r28 S29 => ?_)
    refine g_i2l 198 X dX9_strokeDigest_197 rfl ?_
    refine g_ladd 199 X dX9_strokeDigest_198 rfl ?_
    refine g_lstore 201 X [(4, _), (0, _), (3, _)] dX9_strokeDigest_199 rfl (Nat.le_of_ble_eq_true rfl) rfl ?_
    refine g_ldc2 204 X dX9_strokeDigest_201 rfl conX9_296 ?_
    refine g_lload 206 X 0 dX9_strokeDigest_204 rfl rfl ?_
    refine g_lmul 207 X dX9_strokeDigest_206 rfl ?_
    refine g_aload_n 208 X 1 dX9_strokeDigest_207 rfl rfl rfl ?_
    refine g_iload_n 209 X 2 dX9_strokeDigest_208 rfl rfl rfl ?_
    refine g_cVi1 212 X (tX9_chalkOf _ _ (D + 1) _ _) mfX9_chalkOf miX9_chalkOf lkX9_260 rfl rfl rfl (Nat.le_of_ble_eq_true rfl) dX9_strokeDigest_209 rfl (fun r30 S31 => ?_)
    refine g_i2l 213 X dX9_strokeDigest_212 rfl ?_
    refine g_ladd 214 X dX9_strokeDigest_213 rfl ?_
    exact g_lret X dX9_strokeDigest_214 rfl
  · refine g_sub [2, 4, 1, 0] rfl (g_lp (fun (a1 : Int64 × Int32) => [(0, .ref (G.2.1 0)), (3, .int x3), (4, .long a1.1), (6, .int a1.2)]) (fun rec5 ih4 a1 S2 => ?_) fl (x1, (0 : Int32)) _)
    unfold bX9_strokeDigest_6
    refine g_iload 8 X 3 dX9_strokeDigest_6 rfl rfl ?_
    refine g_iconst 9 X dX9_strokeDigest_8 rfl ci_4 ?_
    refine g_icmp_ge 35 12 X dX9_strokeDigest_9 (by decide) rfl (fun _ => ?_) (fun _ => ?_)
    · exact g_sub [0, 1, 2] rfl (J3 (a1.1, a1.2) _)
    · refine g_ldc2 15 X dX9_strokeDigest_12 rfl conX9_296 ?_
      refine g_lload 17 X 2 dX9_strokeDigest_15 rfl rfl ?_
      refine g_lmul 18 X dX9_strokeDigest_17 rfl ?_
      refine g_aload_n 19 X 0 dX9_strokeDigest_18 rfl rfl rfl ?_
      refine g_iload_n 20 X 1 dX9_strokeDigest_19 rfl rfl rfl ?_
      refine g_iload 22 X 3 dX9_strokeDigest_20 rfl rfl ?_
      refine g_cVi2 25 X (tX9_strokeOf _ _ (D + 8) _ _ _) mfX9_strokeOf miX9_strokeOf lkX9_143 rfl rfl rfl (Nat.le_of_ble_eq_true rfl) dX9_strokeDigest_22 rfl (fun r6 S7 => ?_)
      refine g_i2l 26 X dX9_strokeDigest_25 rfl ?_
      refine g_ladd 27 X dX9_strokeDigest_26 rfl ?_
      refine g_lstore 29 X [(4, _), (0, _), (3, _), (6, _)] dX9_strokeDigest_27 rfl (Nat.le_of_ble_eq_true rfl) rfl ?_
      refine g_iinc 32 X 3 [(6, _), (4, _), (0, _), (3, _)] dX9_strokeDigest_29 rfl rfl (ii_1 _) (Nat.le_of_ble_eq_true rfl) rfl ?_
      refine g_goto 6 X dX9_strokeDigest_32 (by decide) ?_
      exact g_sub [2, 3, 1, 0] rfl (ih4 ((((31 : Int64) * a1.1) + (Int32.toInt64 r6)), (a1.2 + (1 : Int32))) _)
def bX9_digest_6 (rec : (Int64 × Int32) → Sg → Option ((Int64 × Int32) × Sg)) (a1 : Int64 × Int32) (S2 : Sg) : Option ((Int64 × Int32) × Sg) :=
  (if (8 : Int32) ≤ a1.2 then some ((a1.1, a1.2), S2) else bd (fX9_count a1.2 S2) (fun r3 S4 => rec ((((31 : Int64) * a1.1) + (Int32.toInt64 r3)), (a1.2 + (1 : Int32))) S4))
def bX9_digest_89 (rec : (Int64 × Int32) → Sg → Option ((Int64 × Int32) × Sg)) (a22 : Int64 × Int32) (S23 : Sg) : Option ((Int64 × Int32) × Sg) :=
  (if (S23.1 0 4) ≤ a22.2 then some ((a22.1, a22.2), S23) else bd (fX9_strokeDigest a22.1 a22.2 S23) (fun r24 S25 => rec (r24, (a22.2 + (1 : Int32))) S25))
def fX9_digest  (S : Sg) : Option (Int64 × Sg) :=
  bd (lp (bX9_digest_6) fl ((17 : Int64), (0 : Int32)) S) (fun (a8 : Int64 × Int32) S9 => bd (fX9_faultOf (0 : Int32) S9) (fun r10 S11 => bd (fX9_faultOf (1 : Int32) S11) (fun r12 S13 => bd (fX9_dayDigest (((31 : Int64) * (((31 : Int64) * a8.1) + (Int32.toInt64 r10))) + (Int32.toInt64 r12)) (0 : Int32) S13) (fun r14 S15 => bd (fX9_dayDigest r14 (4 : Int32) S15) (fun r16 S17 => bd (fX9_dayDigest r16 (9 : Int32) S17) (fun r18 S19 => bd (fX9_dayDigest r18 (19 : Int32) S19) (fun r20 S21 => bd (lp (bX9_digest_89) fl (r20, (0 : Int32)) S21) (fun (a29 : Int64 × Int32) S30 => bd (fX9_misreadOf (0 : Int32) S30) (fun r31 S32 => bd (fX9_misreadOf (1 : Int32) S32) (fun r33 S34 => bd (fX9_mostNow S34) (fun r35 S36 => bd (fX9_oilOf (0 : Int32) S36) (fun r37 S38 => bd (fX9_oilOf (1 : Int32) S38) (fun r39 S40 => bd (fX9_dryOf (0 : Int32) S40) (fun r41 S42 => bd (fX9_dryOf (1 : Int32) S42) (fun r43 S44 => bd (fX9_neverNow S44) (fun r45 S46 => bd (fX9_askOf (0 : Int32) S46) (fun r47 S48 => bd (fX9_askOf (7 : Int32) S48) (fun r49 S50 => bd (fX9_drynessOf (5 : Int32) (7 : Int32) (9 : Int32) (0 : Int32) S50) (fun r51 S52 => bd (fX9_drynessOf (5 : Int32) (7 : Int32) (9 : Int32) (1 : Int32) S52) (fun r53 S54 => bd (fX9_weatherOf (7 : Int32) (15 : Int32) (0 : Int32) S54) (fun r55 S56 => bd (fX9_weatherOf (7 : Int32) (15 : Int32) (1 : Int32) S56) (fun r57 S58 => some ((((31 : Int64) * (((31 : Int64) * (((31 : Int64) * (((31 : Int64) * (((31 : Int64) * (((31 : Int64) * (((31 : Int64) * (((31 : Int64) * (((31 : Int64) * (((31 : Int64) * (((31 : Int64) * (((31 : Int64) * (((31 : Int64) * (((31 : Int64) * a29.1) + (Int32.toInt64 r31))) + (Int32.toInt64 r33))) + (Int32.toInt64 r35))) + (Int32.toInt64 r37))) + (Int32.toInt64 r39))) + (Int32.toInt64 r41))) + (Int32.toInt64 r43))) + (Int32.toInt64 r45))) + (Int32.toInt64 r47))) + (Int32.toInt64 r49))) + r51)) + r53)) + (Int32.toInt64 r55))) + (Int32.toInt64 r57)), S58)))))))))))))))))))))))
set_option maxHeartbeats 4000000 in
set_option maxRecDepth 100000 in
theorem tX9_digest (G : Gd) (l : Launch) (D : Nat)  (S : Sg) : Ct LM G l rL yX9_digest cX9_digest 4 (some .long) (D + 10) [.ref (G.2.1 0)] S (fX9_digest  S) := by
  refine Ct.of (by decide) (Nat.le_of_ble_eq_true rfl) (fun Z hZ X => ?_)
  subst hZ
  show Go LM G Z 4 rL 0 [(0, .ref (G.2.1 0))] [] S (fX9_digest  S) kz
  unfold fX9_digest
  refine g_ldc2 3 X dX9_digest_0 rfl conX9_298 ?_
  refine g_lstore_n 4 X [(1, _), (0, _)] dX9_digest_3 rfl rfl (Nat.le_of_ble_eq_true rfl) rfl ?_
  refine g_iconst 5 X dX9_digest_4 rfl ci_0 ?_
  refine g_istore_n 6 X [(3, _), (1, _), (0, _)] dX9_digest_5 rfl rfl (Nat.le_of_ble_eq_true rfl) rfl ?_
  refine g_joinK 31 (fun (a8 : Int64 × Int32) => [(0, .ref (G.2.1 0)), (1, .long a8.1)]) (fun (a8 : Int64 × Int32) => []) (fun a8 S9 => ?_) (fun J3 => ?_)
  · refine g_ldc2 34 X dX9_digest_31 rfl conX9_296 ?_
    refine g_lload_n 35 X 1 dX9_digest_34 rfl rfl rfl ?_
    refine g_lmul 36 X dX9_digest_35 rfl ?_
    refine g_aload_n 37 X 0 dX9_digest_36 rfl rfl rfl ?_
    refine g_iconst 38 X dX9_digest_37 rfl ci_0 ?_
    refine g_cVi1 41 X (tX9_faultOf _ _ (D + 5) _ _) mfX9_faultOf miX9_faultOf lkX9_128 rfl rfl rfl (Nat.le_of_ble_eq_true rfl) dX9_digest_38 rfl (fun r10 S11 => ?_)
    refine g_i2l 42 X dX9_digest_41 rfl ?_
    refine g_ladd 43 X dX9_digest_42 rfl ?_
    refine g_lstore_n 44 X [(1, _), (0, _)] dX9_digest_43 rfl rfl (Nat.le_of_ble_eq_true rfl) rfl ?_
    refine g_ldc2 47 X dX9_digest_44 rfl conX9_296 ?_
    refine g_lload_n 48 X 0 dX9_digest_47 rfl rfl rfl ?_
    refine g_lmul 49 X dX9_digest_48 rfl ?_
    refine g_aload_n 50 X 1 dX9_digest_49 rfl rfl rfl ?_
    refine g_iconst 51 X dX9_digest_50 rfl ci_1 ?_
    refine g_cVi1 54 X (tX9_faultOf _ _ (D + 5) _ _) mfX9_faultOf miX9_faultOf lkX9_128 rfl rfl rfl (Nat.le_of_ble_eq_true rfl) dX9_digest_51 rfl (fun r12 S13 => ?_)
    refine g_i2l 55 X dX9_digest_54 rfl ?_
    refine g_ladd 56 X dX9_digest_55 rfl ?_
    refine g_lstore_n 57 X [(1, _), (0, _)] dX9_digest_56 rfl rfl (Nat.le_of_ble_eq_true rfl) rfl ?_
    refine g_aload_n 58 X 1 dX9_digest_57 rfl rfl rfl ?_
    refine g_lload_n 59 X 0 dX9_digest_58 rfl rfl rfl ?_
    refine g_iconst 60 X dX9_digest_59 rfl ci_0 ?_
    refine g_cVl2 63 X (tX9_dayDigest _ _ (D) _ _ _) mfX9_dayDigest miX9_dayDigest lkX9_303 rfl rfl rfl (Nat.le_of_ble_eq_true rfl) dX9_digest_60 rfl (fun r14 S15 => ?_)
    refine g_lstore_n 64 X [(1, _), (0, _)] dX9_digest_63 rfl rfl (Nat.le_of_ble_eq_true rfl) rfl ?_
    refine g_aload_n 65 X 1 dX9_digest_64 rfl rfl rfl ?_
    refine g_lload_n 66 X 0 dX9_digest_65 rfl rfl rfl ?_
    refine g_iconst 67 X dX9_digest_66 rfl ci_4 ?_
    refine g_cVl2 70 X (tX9_dayDigest _ _ (D) _ _ _) mfX9_dayDigest miX9_dayDigest lkX9_303 rfl rfl rfl (Nat.le_of_ble_eq_true rfl) dX9_digest_67 rfl (fun r16 S17 => ?_)
    refine g_lstore_n 71 X [(1, _), (0, _)] dX9_digest_70 rfl rfl (Nat.le_of_ble_eq_true rfl) rfl ?_
    refine g_aload_n 72 X 1 dX9_digest_71 rfl rfl rfl ?_
    refine g_lload_n 73 X 0 dX9_digest_72 rfl rfl rfl ?_
    refine g_bipush 75 X dX9_digest_73 rfl cb_9 ?_
    refine g_cVl2 78 X (tX9_dayDigest _ _ (D) _ _ _) mfX9_dayDigest miX9_dayDigest lkX9_303 rfl rfl rfl (Nat.le_of_ble_eq_true rfl) dX9_digest_75 rfl (fun r18 S19 => ?_)
    refine g_lstore_n 79 X [(1, _), (0, _)] dX9_digest_78 rfl rfl (Nat.le_of_ble_eq_true rfl) rfl ?_
    refine g_aload_n 80 X 1 dX9_digest_79 rfl rfl rfl ?_
    refine g_lload_n 81 X 0 dX9_digest_80 rfl rfl rfl ?_
    refine g_bipush 83 X dX9_digest_81 rfl cb_19 ?_
    refine g_cVl2 86 X (tX9_dayDigest _ _ (D) _ _ _) mfX9_dayDigest miX9_dayDigest lkX9_303 rfl rfl rfl (Nat.le_of_ble_eq_true rfl) dX9_digest_83 rfl (fun r20 S21 => ?_)
    refine g_lstore_n 87 X [(1, _), (0, _)] dX9_digest_86 rfl rfl (Nat.le_of_ble_eq_true rfl) rfl ?_
    refine g_iconst 88 X dX9_digest_87 rfl ci_0 ?_
    refine g_istore_n 89 X [(3, _), (1, _), (0, _)] dX9_digest_88 rfl rfl (Nat.le_of_ble_eq_true rfl) rfl ?_
    refine g_joinK 110 (fun (a29 : Int64 × Int32) => [(0, .ref (G.2.1 0)), (1, .long a29.1)]) (fun (a29 : Int64 × Int32) => []) (fun a29 S30 => ?_) (fun J24 => ?_)
    · refine g_ldc2 113 X dX9_digest_110 rfl conX9_296 ?_
      refine g_lload_n 114 X 1 dX9_digest_113 rfl rfl rfl ?_
      refine g_lmul 115 X dX9_digest_114 rfl ?_
      refine g_aload_n 116 X 0 dX9_digest_115 rfl rfl rfl ?_
      refine g_iconst 117 X dX9_digest_116 rfl ci_0 ?_
      refine g_cVi1 120 X (tX9_misreadOf _ _ (D + 1) _ _) mfX9_misreadOf miX9_misreadOf lkX9_223 rfl rfl rfl (Nat.le_of_ble_eq_true rfl) dX9_digest_117 rfl (fun r31 S32 => ?_)
      refine g_i2l 121 X dX9_digest_120 rfl ?_
      refine g_ladd 122 X dX9_digest_121 rfl ?_
      refine g_lstore_n 123 X [(1, _), (0, _)] dX9_digest_122 rfl rfl (Nat.le_of_ble_eq_true rfl) rfl ?_
      refine g_ldc2 126 X dX9_digest_123 rfl conX9_296 ?_
      refine g_lload_n 127 X 0 dX9_digest_126 rfl rfl rfl ?_
      refine g_lmul 128 X dX9_digest_127 rfl ?_
      refine g_aload_n 129 X 1 dX9_digest_128 rfl rfl rfl ?_
      refine g_iconst 130 X dX9_digest_129 rfl ci_1 ?_
      refine g_cVi1 133 X (tX9_misreadOf _ _ (D + 1) _ _) mfX9_misreadOf miX9_misreadOf lkX9_223 rfl rfl rfl (Nat.le_of_ble_eq_true rfl) dX9_digest_130 rfl (fun r33 S34 => ?_)
      refine g_i2l 134 X dX9_digest_133 rfl ?_
      refine g_ladd 135 X dX9_digest_134 rfl ?_
      refine g_lstore_n 136 X [(1, _), (0, _)] dX9_digest_135 rfl rfl (Nat.le_of_ble_eq_true rfl) rfl ?_
      refine g_ldc2 139 X dX9_digest_136 rfl conX9_296 ?_
      refine g_lload_n 140 X 0 dX9_digest_139 rfl rfl rfl ?_
      refine g_lmul 141 X dX9_digest_140 rfl ?_
      refine g_aload_n 142 X 1 dX9_digest_141 rfl rfl rfl ?_
      refine g_cVi0 145 X (tX9_mostNow _ _ (D + 1)  _) mfX9_mostNow miX9_mostNow lkX9_226 rfl rfl rfl (Nat.le_of_ble_eq_true rfl) dX9_digest_142 rfl (fun r35 S36 => ?_)
      refine g_i2l 146 X dX9_digest_145 rfl ?_
      refine g_ladd 147 X dX9_digest_146 rfl ?_
      refine g_lstore_n 148 X [(1, _), (0, _)] dX9_digest_147 rfl rfl (Nat.le_of_ble_eq_true rfl) rfl ?_
      refine g_ldc2 151 X dX9_digest_148 rfl conX9_296 ?_
      refine g_lload_n 152 X 0 dX9_digest_151 rfl rfl rfl ?_
      refine g_lmul 153 X dX9_digest_152 rfl ?_
      refine g_aload_n 154 X 1 dX9_digest_153 rfl rfl rfl ?_
      refine g_iconst 155 X dX9_digest_154 rfl ci_0 ?_
      refine g_cVi1 158 X (tX9_oilOf _ _ (D + 2) _ _) mfX9_oilOf miX9_oilOf lkX9_235 rfl rfl rfl (Nat.le_of_ble_eq_true rfl) dX9_digest_155 rfl (fun r37 S38 => ?_)
      refine g_i2l 159 X dX9_digest_158 rfl ?_
      refine g_ladd 160 X dX9_digest_159 rfl ?_
      refine g_lstore_n 161 X [(1, _), (0, _)] dX9_digest_160 rfl rfl (Nat.le_of_ble_eq_true rfl) rfl ?_
      refine g_ldc2 164 X dX9_digest_161 rfl conX9_296 ?_
      refine g_lload_n 165 X 0 dX9_digest_164 rfl rfl rfl ?_
      refine g_lmul 166 X dX9_digest_165 rfl ?_
      refine g_aload_n 167 X 1 dX9_digest_166 rfl rfl rfl ?_
      refine g_iconst 168 X dX9_digest_167 rfl ci_1 ?_
      refine g_cVi1 171 X (tX9_oilOf _ _ (D + 2) _ _) mfX9_oilOf miX9_oilOf lkX9_235 rfl rfl rfl (Nat.le_of_ble_eq_true rfl) dX9_digest_168 rfl (fun r39 S40 => ?_)
      refine g_i2l 172 X dX9_digest_171 rfl ?_
      refine g_ladd 173 X dX9_digest_172 rfl ?_
      refine g_lstore_n 174 X [(1, _), (0, _)] dX9_digest_173 rfl rfl (Nat.le_of_ble_eq_true rfl) rfl ?_
      refine g_ldc2 177 X dX9_digest_174 rfl conX9_296 ?_
      refine g_lload_n 178 X 0 dX9_digest_177 rfl rfl rfl ?_
      refine g_lmul 179 X dX9_digest_178 rfl ?_
      refine g_aload_n 180 X 1 dX9_digest_179 rfl rfl rfl ?_
      refine g_iconst 181 X dX9_digest_180 rfl ci_0 ?_
      refine g_cVi1 184 X (tX9_dryOf _ _ (D + 2) _ _) mfX9_dryOf miX9_dryOf lkX9_244 rfl rfl rfl (Nat.le_of_ble_eq_true rfl) dX9_digest_181 rfl (fun r41 S42 => ?_)
      refine g_i2l 185 X dX9_digest_184 rfl ?_
      refine g_ladd 186 X dX9_digest_185 rfl ?_
      refine g_lstore_n 187 X [(1, _), (0, _)] dX9_digest_186 rfl rfl (Nat.le_of_ble_eq_true rfl) rfl ?_
      refine g_ldc2 190 X dX9_digest_187 rfl conX9_296 ?_
      refine g_lload_n 191 X 0 dX9_digest_190 rfl rfl rfl ?_
      refine g_lmul 192 X dX9_digest_191 rfl ?_
      refine g_aload_n 193 X 1 dX9_digest_192 rfl rfl rfl ?_
      refine g_iconst 194 X dX9_digest_193 rfl ci_1 ?_
      refine g_cVi1 197 X (tX9_dryOf _ _ (D + 2) _ _) mfX9_dryOf miX9_dryOf lkX9_244 rfl rfl rfl (Nat.le_of_ble_eq_true rfl) dX9_digest_194 rfl (fun r43 S44 => ?_)
      refine g_i2l 198 X dX9_digest_197 rfl ?_
      refine g_ladd 199 X dX9_digest_198 rfl ?_
      refine g_lstore_n 200 X [(1, _), (0, _)] dX9_digest_199 rfl rfl (Nat.le_of_ble_eq_true rfl) rfl ?_
      refine g_ldc2 203 X dX9_digest_200 rfl conX9_296 ?_
      refine g_lload_n 204 X 0 dX9_digest_203 rfl rfl rfl ?_
      refine g_lmul 205 X dX9_digest_204 rfl ?_
      refine g_aload_n 206 X 1 dX9_digest_205 rfl rfl rfl ?_
      refine g_cVi0 209 X (tX9_neverNow _ _ (D + 2)  _) mfX9_neverNow miX9_neverNow lkX9_254 rfl rfl rfl (Nat.le_of_ble_eq_true rfl) dX9_digest_206 rfl (fun r45 S46 => ?_)
      refine g_i2l 210 X dX9_digest_209 rfl ?_
      refine g_ladd 211 X dX9_digest_210 rfl ?_
      refine g_lstore_n 212 X [(1, _), (0, _)] dX9_digest_211 rfl rfl (Nat.le_of_ble_eq_true rfl) rfl ?_
      refine g_ldc2 215 X dX9_digest_212 rfl conX9_296 ?_
      refine g_lload_n 216 X 0 dX9_digest_215 rfl rfl rfl ?_
      refine g_lmul 217 X dX9_digest_216 rfl ?_
      refine g_aload_n 218 X 1 dX9_digest_217 rfl rfl rfl ?_
      refine g_iconst 219 X dX9_digest_218 rfl ci_0 ?_
      refine g_cVi1 222 X (tX9_askOf _ _ (D + 1) _ _) mfX9_askOf miX9_askOf lkX9_263 rfl rfl rfl (Nat.le_of_ble_eq_true rfl) dX9_digest_219 rfl (fun r47 S48 => ?_)
      refine g_i2l 223 X dX9_digest_222 rfl ?_
      refine g_ladd 224 X dX9_digest_223 rfl ?_
      refine g_lstore_n 225 X [(1, _), (0, _)] dX9_digest_224 rfl rfl (Nat.le_of_ble_eq_true rfl) rfl ?_
      refine g_ldc2 228 X dX9_digest_225 rfl conX9_296 ?_
      refine g_lload_n 229 X 0 dX9_digest_228 rfl rfl rfl ?_
      refine g_lmul 230 X dX9_digest_229 rfl ?_
      refine g_aload_n 231 X 1 dX9_digest_230 rfl rfl rfl ?_
      refine g_bipush 233 X dX9_digest_231 rfl cb_7 ?_
      refine g_cVi1 236 X (tX9_askOf _ _ (D + 1) _ _) mfX9_askOf miX9_askOf lkX9_263 rfl rfl rfl (Nat.le_of_ble_eq_true rfl) dX9_digest_233 rfl (fun r49 S50 => ?_)
      refine g_i2l 237 X dX9_digest_236 rfl ?_
      refine g_ladd 238 X dX9_digest_237 rfl ?_
      refine g_lstore_n 239 X [(1, _), (0, _)] dX9_digest_238 rfl rfl (Nat.le_of_ble_eq_true rfl) rfl ?_
      refine g_ldc2 242 X dX9_digest_239 rfl conX9_296 ?_
      refine g_lload_n 243 X 0 dX9_digest_242 rfl rfl rfl ?_
      refine g_lmul 244 X dX9_digest_243 rfl ?_
      refine g_aload_n 245 X 1 dX9_digest_244 rfl rfl rfl ?_
      refine g_iconst 246 X dX9_digest_245 rfl ci_5 ?_
      refine g_bipush 248 X dX9_digest_246 rfl cb_7 ?_
      refine g_bipush 250 X dX9_digest_248 rfl cb_9 ?_
      refine g_iconst 251 X dX9_digest_250 rfl ci_0 ?_
      refine g_cVl4 254 X (tX9_drynessOf _ _ (D + 2) _ _ _ _ _) mfX9_drynessOf miX9_drynessOf lkX9_270 rfl rfl rfl (Nat.le_of_ble_eq_true rfl) dX9_digest_251 rfl (fun r51 S52 => ?_)
      refine g_ladd 255 X dX9_digest_254 rfl ?_
      refine g_lstore_n 256 X [(1, _), (0, _)] dX9_digest_255 rfl rfl (Nat.le_of_ble_eq_true rfl) rfl ?_
      refine g_ldc2 259 X dX9_digest_256 rfl conX9_296 ?_
      refine g_lload_n 260 X 0 dX9_digest_259 rfl rfl rfl ?_
      refine g_lmul 261 X dX9_digest_260 rfl ?_
      refine g_aload_n 262 X 1 dX9_digest_261 rfl rfl rfl ?_
      refine g_iconst 263 X dX9_digest_262 rfl ci_5 ?_
      refine g_bipush 265 X dX9_digest_263 rfl cb_7 ?_
      refine g_bipush 267 X dX9_digest_265 rfl cb_9 ?_
      refine g_iconst 268 X dX9_digest_267 rfl ci_1 ?_
      refine g_cVl4 271 X (tX9_drynessOf _ _ (D + 2) _ _ _ _ _) mfX9_drynessOf miX9_drynessOf lkX9_270 rfl rfl rfl (Nat.le_of_ble_eq_true rfl) dX9_digest_268 rfl (fun r53 S54 => ?_)
      refine g_ladd 272 X dX9_digest_271 rfl ?_
      refine g_lstore_n 273 X [(1, _), (0, _)] dX9_digest_272 rfl rfl (Nat.le_of_ble_eq_true rfl) rfl ?_
      refine g_ldc2 276 X dX9_digest_273 rfl conX9_296 ?_
      refine g_lload_n 277 X 0 dX9_digest_276 rfl rfl rfl ?_
      refine g_lmul 278 X dX9_digest_277 rfl ?_
      refine g_aload_n 279 X 1 dX9_digest_278 rfl rfl rfl ?_
      refine g_bipush 281 X dX9_digest_279 rfl cb_7 ?_
      refine g_bipush 283 X dX9_digest_281 rfl cb_15 ?_
      refine g_iconst 284 X dX9_digest_283 rfl ci_0 ?_
      refine g_cVi3 287 X (tX9_weatherOf _ _ (D + 2) _ _ _ _) mfX9_weatherOf miX9_weatherOf lkX9_279 rfl rfl rfl (Nat.le_of_ble_eq_true rfl) dX9_digest_284 rfl (fun r55 S56 => ?_)
      refine g_i2l 288 X dX9_digest_287 rfl ?_
      refine g_ladd 289 X dX9_digest_288 rfl ?_
      refine g_lstore_n 290 X [(1, _), (0, _)] dX9_digest_289 rfl rfl (Nat.le_of_ble_eq_true rfl) rfl ?_
      refine g_ldc2 293 X dX9_digest_290 rfl conX9_296 ?_
      refine g_lload_n 294 X 0 dX9_digest_293 rfl rfl rfl ?_
      refine g_lmul 295 X dX9_digest_294 rfl ?_
      refine g_aload_n 296 X 1 dX9_digest_295 rfl rfl rfl ?_
      refine g_bipush 298 X dX9_digest_296 rfl cb_7 ?_
      refine g_bipush 300 X dX9_digest_298 rfl cb_15 ?_
      refine g_iconst 301 X dX9_digest_300 rfl ci_1 ?_
      refine g_cVi3 304 X (tX9_weatherOf _ _ (D + 2) _ _ _ _) mfX9_weatherOf miX9_weatherOf lkX9_279 rfl rfl rfl (Nat.le_of_ble_eq_true rfl) dX9_digest_301 rfl (fun r57 S58 => ?_)
      refine g_i2l 305 X dX9_digest_304 rfl ?_
      refine g_ladd 306 X dX9_digest_305 rfl ?_
      exact g_lret X dX9_digest_306 rfl
    · refine g_sub [2, 1, 0] rfl (g_lp (fun (a22 : Int64 × Int32) => [(0, .ref (G.2.1 0)), (1, .long a22.1), (3, .int a22.2)]) (fun rec26 ih25 a22 S23 => ?_) fl (r20, (0 : Int32)) _)
      unfold bX9_digest_89
      refine g_iload_n 90 X 2 dX9_digest_89 rfl rfl rfl ?_
      refine g_aload_n 91 X 0 dX9_digest_90 rfl rfl rfl ?_
      refine g_geti 94 X rfl flX9_114 rfl dX9_digest_91 rfl ?_
      refine g_icmp_ge 110 97 X dX9_digest_94 (by decide) rfl (fun _ => ?_) (fun _ => ?_)
      · exact g_sub [0, 1] rfl (J24 (a22.1, a22.2) _)
      · refine g_aload_n 98 X 0 dX9_digest_97 rfl rfl rfl ?_
        refine g_lload_n 99 X 1 dX9_digest_98 rfl rfl rfl ?_
        refine g_iload_n 100 X 2 dX9_digest_99 rfl rfl rfl ?_
        refine g_cVl2 103 X (tX9_strokeDigest _ _ (D) _ _ _) mfX9_strokeDigest miX9_strokeDigest lkX9_307 rfl rfl rfl (Nat.le_of_ble_eq_true rfl) dX9_digest_100 rfl (fun r27 S28 => ?_)
        refine g_lstore_n 104 X [(1, _), (0, _), (3, _)] dX9_digest_103 rfl rfl (Nat.le_of_ble_eq_true rfl) rfl ?_
        refine g_iinc 107 X 2 [(3, _), (1, _), (0, _)] dX9_digest_104 rfl rfl (ii_1 _) (Nat.le_of_ble_eq_true rfl) rfl ?_
        refine g_goto 89 X dX9_digest_107 (by decide) ?_
        exact g_sub [2, 1, 0] rfl (ih25 (r27, (a22.2 + (1 : Int32))) _)
  · refine g_sub [2, 1, 0] rfl (g_lp (fun (a1 : Int64 × Int32) => [(0, .ref (G.2.1 0)), (1, .long a1.1), (3, .int a1.2)]) (fun rec5 ih4 a1 S2 => ?_) fl ((17 : Int64), (0 : Int32)) _)
    unfold bX9_digest_6
    refine g_iload_n 7 X 2 dX9_digest_6 rfl rfl rfl ?_
    refine g_bipush 9 X dX9_digest_7 rfl cb_8 ?_
    refine g_icmp_ge 31 12 X dX9_digest_9 (by decide) rfl (fun _ => ?_) (fun _ => ?_)
    · exact g_sub [0, 1] rfl (J3 (a1.1, a1.2) _)
    · refine g_ldc2 15 X dX9_digest_12 rfl conX9_296 ?_
      refine g_lload_n 16 X 1 dX9_digest_15 rfl rfl rfl ?_
      refine g_lmul 17 X dX9_digest_16 rfl ?_
      refine g_aload_n 18 X 0 dX9_digest_17 rfl rfl rfl ?_
      refine g_iload_n 19 X 2 dX9_digest_18 rfl rfl rfl ?_
      refine g_cVi1 22 X (tX9_count _ _ (D) _ _) mfX9_count miX9_count lkX9_300 rfl rfl rfl (Nat.le_of_ble_eq_true rfl) dX9_digest_19 rfl (fun r6 S7 => ?_)
      refine g_i2l 23 X dX9_digest_22 rfl ?_
      refine g_ladd 24 X dX9_digest_23 rfl ?_
      refine g_lstore_n 25 X [(1, _), (0, _), (3, _)] dX9_digest_24 rfl rfl (Nat.le_of_ble_eq_true rfl) rfl ?_
      refine g_iinc 28 X 2 [(3, _), (1, _), (0, _)] dX9_digest_25 rfl rfl (ii_1 _) (Nat.le_of_ble_eq_true rfl) rfl ?_
      refine g_goto 6 X dX9_digest_28 (by decide) ?_
      exact g_sub [2, 1, 0] rfl (ih4 ((((31 : Int64) * a1.1) + (Int32.toInt64 r6)), (a1.2 + (1 : Int32))) _)
