def fX0_takeStrokes (t : Nat) (t1 : Nat) (S : Sg) : Option (Unit × Sg) :=
  gd (cpok (0 : Int32) (0 : Int32) (8 : Int32) 8 8) (gd (cpok (0 : Int32) (0 : Int32) (8 : Int32) 8 8) (gd (cpok (0 : Int32) (0 : Int32) (8 : Int32) 8 8) (gd (cpok (0 : Int32) (0 : Int32) (8 : Int32) 8 8) (some ((), (sC (sC (sC (sC (sI S t 0 (S.1 t1 0)) (t + 1) (va_cpy ((sI S t 0 (S.1 t1 0)).1 (t1 + 1)) ((sI S t 0 (S.1 t1 0)).1 (t + 1)) (Int32.toNatClampNeg (0 : Int32)) (Int32.toNatClampNeg (0 : Int32)) (Int32.toNatClampNeg (8 : Int32)))) (t + 2) (va_cpy ((sC (sI S t 0 (S.1 t1 0)) (t + 1) (va_cpy ((sI S t 0 (S.1 t1 0)).1 (t1 + 1)) ((sI S t 0 (S.1 t1 0)).1 (t + 1)) (Int32.toNatClampNeg (0 : Int32)) (Int32.toNatClampNeg (0 : Int32)) (Int32.toNatClampNeg (8 : Int32)))).1 (t1 + 2)) ((sC (sI S t 0 (S.1 t1 0)) (t + 1) (va_cpy ((sI S t 0 (S.1 t1 0)).1 (t1 + 1)) ((sI S t 0 (S.1 t1 0)).1 (t + 1)) (Int32.toNatClampNeg (0 : Int32)) (Int32.toNatClampNeg (0 : Int32)) (Int32.toNatClampNeg (8 : Int32)))).1 (t + 2)) (Int32.toNatClampNeg (0 : Int32)) (Int32.toNatClampNeg (0 : Int32)) (Int32.toNatClampNeg (8 : Int32)))) (t + 3) (va_cpy ((sC (sC (sI S t 0 (S.1 t1 0)) (t + 1) (va_cpy ((sI S t 0 (S.1 t1 0)).1 (t1 + 1)) ((sI S t 0 (S.1 t1 0)).1 (t + 1)) (Int32.toNatClampNeg (0 : Int32)) (Int32.toNatClampNeg (0 : Int32)) (Int32.toNatClampNeg (8 : Int32)))) (t + 2) (va_cpy ((sC (sI S t 0 (S.1 t1 0)) (t + 1) (va_cpy ((sI S t 0 (S.1 t1 0)).1 (t1 + 1)) ((sI S t 0 (S.1 t1 0)).1 (t + 1)) (Int32.toNatClampNeg (0 : Int32)) (Int32.toNatClampNeg (0 : Int32)) (Int32.toNatClampNeg (8 : Int32)))).1 (t1 + 2)) ((sC (sI S t 0 (S.1 t1 0)) (t + 1) (va_cpy ((sI S t 0 (S.1 t1 0)).1 (t1 + 1)) ((sI S t 0 (S.1 t1 0)).1 (t + 1)) (Int32.toNatClampNeg (0 : Int32)) (Int32.toNatClampNeg (0 : Int32)) (Int32.toNatClampNeg (8 : Int32)))).1 (t + 2)) (Int32.toNatClampNeg (0 : Int32)) (Int32.toNatClampNeg (0 : Int32)) (Int32.toNatClampNeg (8 : Int32)))).1 (t1 + 3)) ((sC (sC (sI S t 0 (S.1 t1 0)) (t + 1) (va_cpy ((sI S t 0 (S.1 t1 0)).1 (t1 + 1)) ((sI S t 0 (S.1 t1 0)).1 (t + 1)) (Int32.toNatClampNeg (0 : Int32)) (Int32.toNatClampNeg (0 : Int32)) (Int32.toNatClampNeg (8 : Int32)))) (t + 2) (va_cpy ((sC (sI S t 0 (S.1 t1 0)) (t + 1) (va_cpy ((sI S t 0 (S.1 t1 0)).1 (t1 + 1)) ((sI S t 0 (S.1 t1 0)).1 (t + 1)) (Int32.toNatClampNeg (0 : Int32)) (Int32.toNatClampNeg (0 : Int32)) (Int32.toNatClampNeg (8 : Int32)))).1 (t1 + 2)) ((sC (sI S t 0 (S.1 t1 0)) (t + 1) (va_cpy ((sI S t 0 (S.1 t1 0)).1 (t1 + 1)) ((sI S t 0 (S.1 t1 0)).1 (t + 1)) (Int32.toNatClampNeg (0 : Int32)) (Int32.toNatClampNeg (0 : Int32)) (Int32.toNatClampNeg (8 : Int32)))).1 (t + 2)) (Int32.toNatClampNeg (0 : Int32)) (Int32.toNatClampNeg (0 : Int32)) (Int32.toNatClampNeg (8 : Int32)))).1 (t + 3)) (Int32.toNatClampNeg (0 : Int32)) (Int32.toNatClampNeg (0 : Int32)) (Int32.toNatClampNeg (8 : Int32)))) (t + 4) (va_cpy ((sC (sC (sC (sI S t 0 (S.1 t1 0)) (t + 1) (va_cpy ((sI S t 0 (S.1 t1 0)).1 (t1 + 1)) ((sI S t 0 (S.1 t1 0)).1 (t + 1)) (Int32.toNatClampNeg (0 : Int32)) (Int32.toNatClampNeg (0 : Int32)) (Int32.toNatClampNeg (8 : Int32)))) (t + 2) (va_cpy ((sC (sI S t 0 (S.1 t1 0)) (t + 1) (va_cpy ((sI S t 0 (S.1 t1 0)).1 (t1 + 1)) ((sI S t 0 (S.1 t1 0)).1 (t + 1)) (Int32.toNatClampNeg (0 : Int32)) (Int32.toNatClampNeg (0 : Int32)) (Int32.toNatClampNeg (8 : Int32)))).1 (t1 + 2)) ((sC (sI S t 0 (S.1 t1 0)) (t + 1) (va_cpy ((sI S t 0 (S.1 t1 0)).1 (t1 + 1)) ((sI S t 0 (S.1 t1 0)).1 (t + 1)) (Int32.toNatClampNeg (0 : Int32)) (Int32.toNatClampNeg (0 : Int32)) (Int32.toNatClampNeg (8 : Int32)))).1 (t + 2)) (Int32.toNatClampNeg (0 : Int32)) (Int32.toNatClampNeg (0 : Int32)) (Int32.toNatClampNeg (8 : Int32)))) (t + 3) (va_cpy ((sC (sC (sI S t 0 (S.1 t1 0)) (t + 1) (va_cpy ((sI S t 0 (S.1 t1 0)).1 (t1 + 1)) ((sI S t 0 (S.1 t1 0)).1 (t + 1)) (Int32.toNatClampNeg (0 : Int32)) (Int32.toNatClampNeg (0 : Int32)) (Int32.toNatClampNeg (8 : Int32)))) (t + 2) (va_cpy ((sC (sI S t 0 (S.1 t1 0)) (t + 1) (va_cpy ((sI S t 0 (S.1 t1 0)).1 (t1 + 1)) ((sI S t 0 (S.1 t1 0)).1 (t + 1)) (Int32.toNatClampNeg (0 : Int32)) (Int32.toNatClampNeg (0 : Int32)) (Int32.toNatClampNeg (8 : Int32)))).1 (t1 + 2)) ((sC (sI S t 0 (S.1 t1 0)) (t + 1) (va_cpy ((sI S t 0 (S.1 t1 0)).1 (t1 + 1)) ((sI S t 0 (S.1 t1 0)).1 (t + 1)) (Int32.toNatClampNeg (0 : Int32)) (Int32.toNatClampNeg (0 : Int32)) (Int32.toNatClampNeg (8 : Int32)))).1 (t + 2)) (Int32.toNatClampNeg (0 : Int32)) (Int32.toNatClampNeg (0 : Int32)) (Int32.toNatClampNeg (8 : Int32)))).1 (t1 + 3)) ((sC (sC (sI S t 0 (S.1 t1 0)) (t + 1) (va_cpy ((sI S t 0 (S.1 t1 0)).1 (t1 + 1)) ((sI S t 0 (S.1 t1 0)).1 (t + 1)) (Int32.toNatClampNeg (0 : Int32)) (Int32.toNatClampNeg (0 : Int32)) (Int32.toNatClampNeg (8 : Int32)))) (t + 2) (va_cpy ((sC (sI S t 0 (S.1 t1 0)) (t + 1) (va_cpy ((sI S t 0 (S.1 t1 0)).1 (t1 + 1)) ((sI S t 0 (S.1 t1 0)).1 (t + 1)) (Int32.toNatClampNeg (0 : Int32)) (Int32.toNatClampNeg (0 : Int32)) (Int32.toNatClampNeg (8 : Int32)))).1 (t1 + 2)) ((sC (sI S t 0 (S.1 t1 0)) (t + 1) (va_cpy ((sI S t 0 (S.1 t1 0)).1 (t1 + 1)) ((sI S t 0 (S.1 t1 0)).1 (t + 1)) (Int32.toNatClampNeg (0 : Int32)) (Int32.toNatClampNeg (0 : Int32)) (Int32.toNatClampNeg (8 : Int32)))).1 (t + 2)) (Int32.toNatClampNeg (0 : Int32)) (Int32.toNatClampNeg (0 : Int32)) (Int32.toNatClampNeg (8 : Int32)))).1 (t + 3)) (Int32.toNatClampNeg (0 : Int32)) (Int32.toNatClampNeg (0 : Int32)) (Int32.toNatClampNeg (8 : Int32)))).1 (t1 + 4)) ((sC (sC (sC (sI S t 0 (S.1 t1 0)) (t + 1) (va_cpy ((sI S t 0 (S.1 t1 0)).1 (t1 + 1)) ((sI S t 0 (S.1 t1 0)).1 (t + 1)) (Int32.toNatClampNeg (0 : Int32)) (Int32.toNatClampNeg (0 : Int32)) (Int32.toNatClampNeg (8 : Int32)))) (t + 2) (va_cpy ((sC (sI S t 0 (S.1 t1 0)) (t + 1) (va_cpy ((sI S t 0 (S.1 t1 0)).1 (t1 + 1)) ((sI S t 0 (S.1 t1 0)).1 (t + 1)) (Int32.toNatClampNeg (0 : Int32)) (Int32.toNatClampNeg (0 : Int32)) (Int32.toNatClampNeg (8 : Int32)))).1 (t1 + 2)) ((sC (sI S t 0 (S.1 t1 0)) (t + 1) (va_cpy ((sI S t 0 (S.1 t1 0)).1 (t1 + 1)) ((sI S t 0 (S.1 t1 0)).1 (t + 1)) (Int32.toNatClampNeg (0 : Int32)) (Int32.toNatClampNeg (0 : Int32)) (Int32.toNatClampNeg (8 : Int32)))).1 (t + 2)) (Int32.toNatClampNeg (0 : Int32)) (Int32.toNatClampNeg (0 : Int32)) (Int32.toNatClampNeg (8 : Int32)))) (t + 3) (va_cpy ((sC (sC (sI S t 0 (S.1 t1 0)) (t + 1) (va_cpy ((sI S t 0 (S.1 t1 0)).1 (t1 + 1)) ((sI S t 0 (S.1 t1 0)).1 (t + 1)) (Int32.toNatClampNeg (0 : Int32)) (Int32.toNatClampNeg (0 : Int32)) (Int32.toNatClampNeg (8 : Int32)))) (t + 2) (va_cpy ((sC (sI S t 0 (S.1 t1 0)) (t + 1) (va_cpy ((sI S t 0 (S.1 t1 0)).1 (t1 + 1)) ((sI S t 0 (S.1 t1 0)).1 (t + 1)) (Int32.toNatClampNeg (0 : Int32)) (Int32.toNatClampNeg (0 : Int32)) (Int32.toNatClampNeg (8 : Int32)))).1 (t1 + 2)) ((sC (sI S t 0 (S.1 t1 0)) (t + 1) (va_cpy ((sI S t 0 (S.1 t1 0)).1 (t1 + 1)) ((sI S t 0 (S.1 t1 0)).1 (t + 1)) (Int32.toNatClampNeg (0 : Int32)) (Int32.toNatClampNeg (0 : Int32)) (Int32.toNatClampNeg (8 : Int32)))).1 (t + 2)) (Int32.toNatClampNeg (0 : Int32)) (Int32.toNatClampNeg (0 : Int32)) (Int32.toNatClampNeg (8 : Int32)))).1 (t1 + 3)) ((sC (sC (sI S t 0 (S.1 t1 0)) (t + 1) (va_cpy ((sI S t 0 (S.1 t1 0)).1 (t1 + 1)) ((sI S t 0 (S.1 t1 0)).1 (t + 1)) (Int32.toNatClampNeg (0 : Int32)) (Int32.toNatClampNeg (0 : Int32)) (Int32.toNatClampNeg (8 : Int32)))) (t + 2) (va_cpy ((sC (sI S t 0 (S.1 t1 0)) (t + 1) (va_cpy ((sI S t 0 (S.1 t1 0)).1 (t1 + 1)) ((sI S t 0 (S.1 t1 0)).1 (t + 1)) (Int32.toNatClampNeg (0 : Int32)) (Int32.toNatClampNeg (0 : Int32)) (Int32.toNatClampNeg (8 : Int32)))).1 (t1 + 2)) ((sC (sI S t 0 (S.1 t1 0)) (t + 1) (va_cpy ((sI S t 0 (S.1 t1 0)).1 (t1 + 1)) ((sI S t 0 (S.1 t1 0)).1 (t + 1)) (Int32.toNatClampNeg (0 : Int32)) (Int32.toNatClampNeg (0 : Int32)) (Int32.toNatClampNeg (8 : Int32)))).1 (t + 2)) (Int32.toNatClampNeg (0 : Int32)) (Int32.toNatClampNeg (0 : Int32)) (Int32.toNatClampNeg (8 : Int32)))).1 (t + 3)) (Int32.toNatClampNeg (0 : Int32)) (Int32.toNatClampNeg (0 : Int32)) (Int32.toNatClampNeg (8 : Int32)))).1 (t + 4)) (Int32.toNatClampNeg (0 : Int32)) (Int32.toNatClampNeg (0 : Int32)) (Int32.toNatClampNeg (8 : Int32)))))))))
set_option maxHeartbeats 4000000 in
set_option maxRecDepth 100000 in
theorem tX0_takeStrokes (G : Gd) (l : Launch) (D : Nat) (t : Nat) (ht : isBoard t) (t1 : Nat) (ht1 : isBoard t1) (S : Sg) : Ct LC G l rV yX0_takeStrokes cX0_takeStrokes 2 none (D + 1) [.ref (G.2.1 t), .ref (G.2.1 t1)] S (fX0_takeStrokes t t1 S) := by
  refine Ct.of (by decide) (Nat.le_of_ble_eq_true rfl) (fun Z hZ X => ?_)
  subst hZ
  show Go LC G Z 2 rV 0 [(0, .ref (G.2.1 t)), (1, .ref (G.2.1 t1))] [] S (fX0_takeStrokes t t1 S) kz
  unfold fX0_takeStrokes
  refine g_aload_n 1 X 0 dX0_takeStrokes_0 rfl rfl rfl ?_
  refine g_aload_n 2 X 1 dX0_takeStrokes_1 rfl rfl rfl ?_
  refine g_geti 5 X (sBoard ht1) flX0_9 rfl dX0_takeStrokes_2 rfl ?_
  refine g_puti 8 X (sBoard ht) flX0_9 fp_0_0 rfl dX0_takeStrokes_5 rfl ?_
  refine g_aload_n 9 X 1 dX0_takeStrokes_8 rfl rfl rfl ?_
  refine g_getr 12 X (t1 + 1) (sBoard ht1) flX0_15 rfl dX0_takeStrokes_9 rfl ?_
  refine g_iconst 13 X dX0_takeStrokes_12 rfl ci_0 ?_
  refine g_aload_n 14 X 0 dX0_takeStrokes_13 rfl rfl rfl ?_
  refine g_getr 17 X (t + 1) (sBoard ht) flX0_15 rfl dX0_takeStrokes_14 rfl ?_
  refine g_iconst 18 X dX0_takeStrokes_17 rfl ci_0 ?_
  refine g_bipush 20 X dX0_takeStrokes_18 rfl cb_8 ?_
  refine g_copy 23 X (sB8 ht1 1 ⟨by decide, by decide⟩) (sB8 ht 1 ⟨by decide, by decide⟩) lkX0_40 ac_nat ac_stat ac_ini (Nat.le_of_ble_eq_true rfl) dX0_takeStrokes_20 rfl ?_
  refine g_aload_n 24 X 1 dX0_takeStrokes_23 rfl rfl rfl ?_
  refine g_getr 27 X (t1 + 2) (sBoard ht1) flX0_19 rfl dX0_takeStrokes_24 rfl ?_
  refine g_iconst 28 X dX0_takeStrokes_27 rfl ci_0 ?_
  refine g_aload_n 29 X 0 dX0_takeStrokes_28 rfl rfl rfl ?_
  refine g_getr 32 X (t + 2) (sBoard ht) flX0_19 rfl dX0_takeStrokes_29 rfl ?_
  refine g_iconst 33 X dX0_takeStrokes_32 rfl ci_0 ?_
  refine g_bipush 35 X dX0_takeStrokes_33 rfl cb_8 ?_
  refine g_copy 38 X (sB8 ht1 2 ⟨by decide, by decide⟩) (sB8 ht 2 ⟨by decide, by decide⟩) lkX0_40 ac_nat ac_stat ac_ini (Nat.le_of_ble_eq_true rfl) dX0_takeStrokes_35 rfl ?_
  refine g_aload_n 39 X 1 dX0_takeStrokes_38 rfl rfl rfl ?_
  refine g_getr 42 X (t1 + 3) (sBoard ht1) flX0_22 rfl dX0_takeStrokes_39 rfl ?_
  refine g_iconst 43 X dX0_takeStrokes_42 rfl ci_0 ?_
  refine g_aload_n 44 X 0 dX0_takeStrokes_43 rfl rfl rfl ?_
  refine g_getr 47 X (t + 3) (sBoard ht) flX0_22 rfl dX0_takeStrokes_44 rfl ?_
  refine g_iconst 48 X dX0_takeStrokes_47 rfl ci_0 ?_
  refine g_bipush 50 X dX0_takeStrokes_48 rfl cb_8 ?_
  refine g_copy 53 X (sB8 ht1 3 ⟨by decide, by decide⟩) (sB8 ht 3 ⟨by decide, by decide⟩) lkX0_40 ac_nat ac_stat ac_ini (Nat.le_of_ble_eq_true rfl) dX0_takeStrokes_50 rfl ?_
  refine g_aload_n 54 X 1 dX0_takeStrokes_53 rfl rfl rfl ?_
  refine g_getr 57 X (t1 + 4) (sBoard ht1) flX0_25 rfl dX0_takeStrokes_54 rfl ?_
  refine g_iconst 58 X dX0_takeStrokes_57 rfl ci_0 ?_
  refine g_aload_n 59 X 0 dX0_takeStrokes_58 rfl rfl rfl ?_
  refine g_getr 62 X (t + 4) (sBoard ht) flX0_25 rfl dX0_takeStrokes_59 rfl ?_
  refine g_iconst 63 X dX0_takeStrokes_62 rfl ci_0 ?_
  refine g_bipush 65 X dX0_takeStrokes_63 rfl cb_8 ?_
  refine g_copy 68 X (sB8 ht1 4 ⟨by decide, by decide⟩) (sB8 ht 4 ⟨by decide, by decide⟩) lkX0_40 ac_nat ac_stat ac_ini (Nat.le_of_ble_eq_true rfl) dX0_takeStrokes_65 rfl ?_
  exact g_vret X dX0_takeStrokes_68 rfl
def fX8_only (x0 : Int32) (S : Sg) : Option (Int32 × Sg) :=
  some (((1 : Int32) <<< (((4 : Int32) * x0) &&& 31)), S)
set_option maxHeartbeats 4000000 in
set_option maxRecDepth 100000 in
theorem tX8_only (G : Gd) (l : Launch) (D : Nat) (x0 : Int32) (S : Sg) : Ct LC G l rI yX8_only cX8_only 1 (some .int) (D + 0) [.int x0] S (fX8_only x0 S) := by
  refine Ct.of (by decide) (Nat.le_of_ble_eq_true rfl) (fun Z hZ X => ?_)
  subst hZ
  show Go LC G Z 1 rI 0 [(0, .int x0)] [] S (fX8_only x0 S) kz
  unfold fX8_only
  refine g_iconst 1 X dX8_only_0 rfl ci_1 ?_
  refine g_iconst 2 X dX8_only_1 rfl ci_4 ?_
  refine g_iload_n 3 X 0 dX8_only_2 rfl rfl rfl ?_
  refine g_imul 4 X dX8_only_3 rfl ?_
  refine g_ishl 5 X dX8_only_4 rfl ?_
  exact g_iret X dX8_only_5 rfl
def bX0_everyone_4 (c0 : Nat) (rec : (Int32 × Int32) → Sg → Option ((Int32 × Int32) × Sg)) (a1 : Int32 × Int32) (S2 : Sg) : Option ((Int32 × Int32) × Sg) :=
  (if (S2.1 c0 0) ≤ a1.2 then some ((a1.1, a1.2), S2) else bd (fX8_only a1.2 S2) (fun r3 S4 => rec ((a1.1 ||| r3), (a1.2 + (1 : Int32))) S4))
def fX0_everyone (t : Nat) (S : Sg) : Option (Int32 × Sg) :=
  bd (lp (bX0_everyone_4 t) fl ((0 : Int32), (0 : Int32)) S) (fun (a8 : Int32 × Int32) S9 => some (a8.1, S9))
set_option maxHeartbeats 4000000 in
set_option maxRecDepth 100000 in
theorem tX0_everyone (G : Gd) (l : Launch) (D : Nat) (t : Nat) (ht : isBoard t) (S : Sg) : Ct LC G l rI yX0_everyone cX0_everyone 3 (some .int) (D + 1) [.ref (G.2.1 t)] S (fX0_everyone t S) := by
  refine Ct.of (by decide) (Nat.le_of_ble_eq_true rfl) (fun Z hZ X => ?_)
  subst hZ
  show Go LC G Z 3 rI 0 [(0, .ref (G.2.1 t))] [] S (fX0_everyone t S) kz
  unfold fX0_everyone
  refine g_iconst 1 X dX0_everyone_0 rfl ci_0 ?_
  refine g_istore_n 2 X [(1, _), (0, _)] dX0_everyone_1 rfl rfl (Nat.le_of_ble_eq_true rfl) rfl ?_
  refine g_iconst 3 X dX0_everyone_2 rfl ci_0 ?_
  refine g_istore_n 4 X [(2, _), (1, _), (0, _)] dX0_everyone_3 rfl rfl (Nat.le_of_ble_eq_true rfl) rfl ?_
  refine g_joinK 25 (fun (a8 : Int32 × Int32) => [(1, .int a8.1)]) (fun (a8 : Int32 × Int32) => []) (fun a8 S9 => ?_) (fun J3 => ?_)
  · refine g_iload_n 26 X 0 dX0_everyone_25 rfl rfl rfl ?_
    exact g_iret X dX0_everyone_26 rfl
  · refine g_sub [2, 1, 0] rfl (g_lp (fun (a1 : Int32 × Int32) => [(0, .ref (G.2.1 t)), (1, .int a1.1), (2, .int a1.2)]) (fun rec5 ih4 a1 S2 => ?_) fl ((0 : Int32), (0 : Int32)) _)
    unfold bX0_everyone_4
    refine g_iload_n 5 X 2 dX0_everyone_4 rfl rfl rfl ?_
    refine g_aload_n 6 X 0 dX0_everyone_5 rfl rfl rfl ?_
    refine g_geti 9 X (sBoard ht) flX0_9 rfl dX0_everyone_6 rfl ?_
    refine g_icmp_ge 25 12 X dX0_everyone_9 (by decide) rfl (fun _ => ?_) (fun _ => ?_)
    · exact g_sub [1] rfl (J3 (a1.1, a1.2) _)
    · refine g_iload_n 13 X 1 dX0_everyone_12 rfl rfl rfl ?_
      refine g_iload_n 14 X 2 dX0_everyone_13 rfl rfl rfl ?_
      refine g_cSi1 17 X (tX8_only _ _ (D) _ _) mfX8_only msX8_only lkX0_46 (Nat.le_of_ble_eq_true rfl) dX0_everyone_14 rfl (fun r6 S7 => ?_)
      refine g_ior 18 X dX0_everyone_17 rfl ?_
      refine g_istore_n 19 X [(1, _), (0, _), (2, _)] dX0_everyone_18 rfl rfl (Nat.le_of_ble_eq_true rfl) rfl ?_
      refine g_iinc 22 X 2 [(2, _), (1, _), (0, _)] dX0_everyone_19 rfl rfl (ii_1 _) (Nat.le_of_ble_eq_true rfl) rfl ?_
      refine g_goto 4 X dX0_everyone_22 (by decide) ?_
      exact g_sub [2, 1, 0] rfl (ih4 ((a1.1 ||| r6), (a1.2 + (1 : Int32))) _)
def bX0_onCell_4 (c0 : Nat) (c1 : Int32) (rec : (Int32 × Int32) → Sg → Option ((Int32 × Int32) × Sg)) (a1 : Int32 × Int32) (S2 : Sg) : Option ((Int32 × Int32) × Sg) :=
  (if (S2.1 c0 0) ≤ a1.2 then some ((a1.1, a1.2), S2) else gd (ix a1.2 8) (bd ((if (S2.1 (c0 + 2) (Int32.toNatClampNeg a1.2)) = c1 then bd (fX8_only a1.2 S2) (fun r6 S7 => some ((a1.1 ||| r6), S7)) else some (a1.1, S2))) (fun (t3 : Int32) S4 => rec (t3, (a1.2 + (1 : Int32))) S4)))
def fX0_onCell (t : Nat) (x1 : Int32) (S : Sg) : Option (Int32 × Sg) :=
  bd (lp (bX0_onCell_4 t x1) fl ((0 : Int32), (0 : Int32)) S) (fun (a11 : Int32 × Int32) S12 => some (a11.1, S12))
set_option maxHeartbeats 4000000 in
set_option maxRecDepth 100000 in
theorem tX0_onCell (G : Gd) (l : Launch) (D : Nat) (t : Nat) (ht : isBoard t) (x1 : Int32) (S : Sg) : Ct LC G l rI yX0_onCell cX0_onCell 4 (some .int) (D + 1) [.ref (G.2.1 t), .int x1] S (fX0_onCell t x1 S) := by
  refine Ct.of (by decide) (Nat.le_of_ble_eq_true rfl) (fun Z hZ X => ?_)
  subst hZ
  show Go LC G Z 4 rI 0 [(0, .ref (G.2.1 t)), (1, .int x1)] [] S (fX0_onCell t x1 S) kz
  unfold fX0_onCell
  refine g_iconst 1 X dX0_onCell_0 rfl ci_0 ?_
  refine g_istore_n 2 X [(2, _), (0, _), (1, _)] dX0_onCell_1 rfl rfl (Nat.le_of_ble_eq_true rfl) rfl ?_
  refine g_iconst 3 X dX0_onCell_2 rfl ci_0 ?_
  refine g_istore_n 4 X [(3, _), (2, _), (0, _), (1, _)] dX0_onCell_3 rfl rfl (Nat.le_of_ble_eq_true rfl) rfl ?_
  refine g_joinK 35 (fun (a11 : Int32 × Int32) => [(2, .int a11.1)]) (fun (a11 : Int32 × Int32) => []) (fun a11 S12 => ?_) (fun J3 => ?_)
  · refine g_iload_n 36 X 0 dX0_onCell_35 rfl rfl rfl ?_
    exact g_iret X dX0_onCell_36 rfl
  · refine g_sub [2, 3, 1, 0] rfl (g_lp (fun (a1 : Int32 × Int32) => [(0, .ref (G.2.1 t)), (1, .int x1), (2, .int a1.1), (3, .int a1.2)]) (fun rec5 ih4 a1 S2 => ?_) fl ((0 : Int32), (0 : Int32)) _)
    unfold bX0_onCell_4
    refine g_iload_n 5 X 3 dX0_onCell_4 rfl rfl rfl ?_
    refine g_aload_n 6 X 0 dX0_onCell_5 rfl rfl rfl ?_
    refine g_geti 9 X (sBoard ht) flX0_9 rfl dX0_onCell_6 rfl ?_
    refine g_icmp_ge 35 12 X dX0_onCell_9 (by decide) rfl (fun _ => ?_) (fun _ => ?_)
    · exact g_sub [2] rfl (J3 (a1.1, a1.2) _)
    · refine g_aload_n 13 X 0 dX0_onCell_12 rfl rfl rfl ?_
      refine g_getr 16 X (t + 2) (sBoard ht) flX0_19 rfl dX0_onCell_13 rfl ?_
      refine g_iload_n 17 X 3 dX0_onCell_16 rfl rfl rfl ?_
      refine g_iald 18 X (sB8 ht 2 ⟨by decide, by decide⟩) dX0_onCell_17 rfl ?_
      refine g_iload_n 19 X 1 dX0_onCell_18 rfl rfl rfl ?_
      refine g_joinK 29 (fun (t6 : Int32) => [(0, .ref (G.2.1 t)), (1, .int x1), (2, .int t6), (3, .int a1.2)]) (fun (t6 : Int32) => []) (fun t6 S7 => ?_) (fun J8 => ?_)
      · refine g_iinc 32 X 3 [(3, _), (0, _), (1, _), (2, _)] dX0_onCell_29 rfl rfl (ii_1 _) (Nat.le_of_ble_eq_true rfl) rfl ?_
        refine g_goto 4 X dX0_onCell_32 (by decide) ?_
        exact g_sub [1, 2, 3, 0] rfl (ih4 (t6, (a1.2 + (1 : Int32))) _)
      · refine g_icmp_ne 29 22 X dX0_onCell_19 (by decide) rfl (fun _ => ?_) (fun _ => ?_)
        · exact g_sub [0, 1, 2, 3] rfl (J8 a1.1 _)
        · refine g_iload_n 23 X 2 dX0_onCell_22 rfl rfl rfl ?_
          refine g_iload_n 24 X 3 dX0_onCell_23 rfl rfl rfl ?_
          refine g_cSi1 27 X (tX8_only _ _ (D) _ _) mfX8_only msX8_only lkX0_46 (Nat.le_of_ble_eq_true rfl) dX0_onCell_24 rfl (fun r9 S10 => ?_)
          refine g_ior 28 X dX0_onCell_27 rfl ?_
          refine g_istore_n 29 X [(2, _), (0, _), (1, _), (3, _)] dX0_onCell_28 rfl rfl (Nat.le_of_ble_eq_true rfl) rfl ?_
          exact g_sub [1, 2, 0, 3] rfl (J8 (a1.1 ||| r9) _)
def fX8_has (x0 : Int32) (x1 : Int32) (S : Sg) : Option (Int32 × Sg) :=
  (if ((ush x0 ((4 : Int32) * x1)) &&& (1 : Int32)) = 0 then some ((0 : Int32), S) else some ((1 : Int32), S))
set_option maxHeartbeats 4000000 in
set_option maxRecDepth 100000 in
theorem tX8_has (G : Gd) (l : Launch) (D : Nat) (x0 : Int32) (x1 : Int32) (S : Sg) : Ct LC G l rI yX8_has cX8_has 2 (some .boolean) (D + 0) [.int x0, .int x1] S (fX8_has x0 x1 S) := by
  refine Ct.of (by decide) (Nat.le_of_ble_eq_true rfl) (fun Z hZ X => ?_)
  subst hZ
  show Go LC G Z 2 rI 0 [(0, .int x0), (1, .int x1)] [] S (fX8_has x0 x1 S) kz
  unfold fX8_has
  refine g_iload_n 1 X 0 dX8_has_0 rfl rfl rfl ?_
  refine g_iconst 2 X dX8_has_1 rfl ci_4 ?_
  refine g_iload_n 3 X 1 dX8_has_2 rfl rfl rfl ?_
  refine g_imul 4 X dX8_has_3 rfl ?_
  refine g_iushr 5 X dX8_has_4 rfl ?_
  refine g_iconst 6 X dX8_has_5 rfl ci_1 ?_
  refine g_iand 7 X dX8_has_6 rfl ?_
  refine g_if_eq 14 10 X dX8_has_7 (by decide) rfl (fun _ => ?_) (fun _ => ?_)
  · refine g_iconst 15 X dX8_has_14 rfl ci_0 ?_
    exact g_zret X dX8_has_15 rfl rfl
  · refine g_iconst 11 X dX8_has_10 rfl ci_1 ?_
    refine g_goto 15 X dX8_has_11 (by decide) ?_
    exact g_zret X dX8_has_15 rfl rfl
def bX0_withMates_4 (c0 : Nat) (c1 : Int32) (rec : (Int32 × Int32) → Sg → Option ((Int32 × Int32) × Sg)) (a1 : Int32 × Int32) (S2 : Sg) : Option ((Int32 × Int32) × Sg) :=
  (if (S2.1 c0 0) ≤ a1.2 then some ((a1.1, a1.2), S2) else bd (fX8_has c1 a1.2 S2) (fun r3 S4 => bd ((if r3 = 0 then some (a1.1, S4) else gd (ix a1.2 8) (some ((a1.1 ||| (S4.1 (c0 + 5) (Int32.toNatClampNeg a1.2))), S4)))) (fun (t5 : Int32) S6 => rec (t5, (a1.2 + (1 : Int32))) S6)))
def fX0_withMates (t : Nat) (x1 : Int32) (S : Sg) : Option (Int32 × Sg) :=
  bd (lp (bX0_withMates_4 t x1) fl ((0 : Int32), (0 : Int32)) S) (fun (a11 : Int32 × Int32) S12 => some (a11.1, S12))
set_option maxHeartbeats 4000000 in
set_option maxRecDepth 100000 in
theorem tX0_withMates (G : Gd) (l : Launch) (D : Nat) (t : Nat) (ht : isBoard t) (x1 : Int32) (S : Sg) : Ct LC G l rI yX0_withMates cX0_withMates 4 (some .int) (D + 1) [.ref (G.2.1 t), .int x1] S (fX0_withMates t x1 S) := by
  refine Ct.of (by decide) (Nat.le_of_ble_eq_true rfl) (fun Z hZ X => ?_)
  subst hZ
  show Go LC G Z 4 rI 0 [(0, .ref (G.2.1 t)), (1, .int x1)] [] S (fX0_withMates t x1 S) kz
  unfold fX0_withMates
  refine g_iconst 1 X dX0_withMates_0 rfl ci_0 ?_
  refine g_istore_n 2 X [(2, _), (0, _), (1, _)] dX0_withMates_1 rfl rfl (Nat.le_of_ble_eq_true rfl) rfl ?_
  refine g_iconst 3 X dX0_withMates_2 rfl ci_0 ?_
  refine g_istore_n 4 X [(3, _), (2, _), (0, _), (1, _)] dX0_withMates_3 rfl rfl (Nat.le_of_ble_eq_true rfl) rfl ?_
  refine g_joinK 35 (fun (a11 : Int32 × Int32) => [(2, .int a11.1)]) (fun (a11 : Int32 × Int32) => []) (fun a11 S12 => ?_) (fun J3 => ?_)
  · refine g_iload_n 36 X 0 dX0_withMates_35 rfl rfl rfl ?_
    exact g_iret X dX0_withMates_36 rfl
  · refine g_sub [2, 3, 1, 0] rfl (g_lp (fun (a1 : Int32 × Int32) => [(0, .ref (G.2.1 t)), (1, .int x1), (2, .int a1.1), (3, .int a1.2)]) (fun rec5 ih4 a1 S2 => ?_) fl ((0 : Int32), (0 : Int32)) _)
    unfold bX0_withMates_4
    refine g_iload_n 5 X 3 dX0_withMates_4 rfl rfl rfl ?_
    refine g_aload_n 6 X 0 dX0_withMates_5 rfl rfl rfl ?_
    refine g_geti 9 X (sBoard ht) flX0_9 rfl dX0_withMates_6 rfl ?_
    refine g_icmp_ge 35 12 X dX0_withMates_9 (by decide) rfl (fun _ => ?_) (fun _ => ?_)
    · exact g_sub [2] rfl (J3 (a1.1, a1.2) _)
    · refine g_iload_n 13 X 1 dX0_withMates_12 rfl rfl rfl ?_
      refine g_iload_n 14 X 3 dX0_withMates_13 rfl rfl rfl ?_
      refine g_cSi2 17 X (tX8_has _ _ (D) _ _ _) mfX8_has msX8_has lkX0_50 (Nat.le_of_ble_eq_true rfl) dX0_withMates_14 rfl (fun r6 S7 => ?_)
      refine g_joinK 29 (fun (t8 : Int32) => [(0, .ref (G.2.1 t)), (1, .int x1), (2, .int t8), (3, .int a1.2)]) (fun (t8 : Int32) => []) (fun t8 S9 => ?_) (fun J10 => ?_)
      · refine g_iinc 32 X 3 [(3, _), (0, _), (1, _), (2, _)] dX0_withMates_29 rfl rfl (ii_1 _) (Nat.le_of_ble_eq_true rfl) rfl ?_
        refine g_goto 4 X dX0_withMates_32 (by decide) ?_
        exact g_sub [1, 2, 3, 0] rfl (ih4 (t8, (a1.2 + (1 : Int32))) _)
      · refine g_if_eq 29 20 X dX0_withMates_17 (by decide) rfl (fun _ => ?_) (fun _ => ?_)
        · exact g_sub [0, 1, 2, 3] rfl (J10 a1.1 _)
        · refine g_iload_n 21 X 2 dX0_withMates_20 rfl rfl rfl ?_
          refine g_aload_n 22 X 0 dX0_withMates_21 rfl rfl rfl ?_
          refine g_getr 25 X (t + 5) (sBoard ht) flX0_28 rfl dX0_withMates_22 rfl ?_
          refine g_iload_n 26 X 3 dX0_withMates_25 rfl rfl rfl ?_
          refine g_iald 27 X (sB8 ht 5 ⟨by decide, by decide⟩) dX0_withMates_26 rfl ?_
          refine g_ior 28 X dX0_withMates_27 rfl ?_
          refine g_istore_n 29 X [(2, _), (0, _), (1, _), (3, _)] dX0_withMates_28 rfl rfl (Nat.le_of_ble_eq_true rfl) rfl ?_
          exact g_sub [1, 2, 0, 3] rfl (J10 (a1.1 ||| (S7.1 (t + 5) (Int32.toNatClampNeg a1.2))) _)
def bX1_wipedBehind_6 (c1 : Int32) (c2 : Int32) (rec : (Int32 × Int32) → Sg → Option ((Int32 × Int32) × Sg)) (a1 : Int32 × Int32) (S2 : Sg) : Option ((Int32 × Int32) × Sg) :=
  (if (S2.1 7 4) ≤ a1.2 then some ((a1.1, a1.2), S2) else gd (ix a1.2 8) (bd ((if (S2.1 9 (Int32.toNatClampNeg a1.2)) = c2 then gd (ix a1.2 8) ((if (S2.1 8 (Int32.toNatClampNeg a1.2)) ≤ c1 then some (a1.1, S2) else gd (ix a1.2 8) ((if a1.1 ≤ (S2.1 8 (Int32.toNatClampNeg a1.2)) then some (a1.1, S2) else gd (ix a1.2 8) (some ((S2.1 8 (Int32.toNatClampNeg a1.2)), S2)))))) else some (a1.1, S2))) (fun (t3 : Int32) S4 => rec (t3, (a1.2 + (1 : Int32))) S4)))
def fX1_wipedBehind (x1 : Int32) (x2 : Int32) (S : Sg) : Option (Int32 × Sg) :=
  bd (lp (bX1_wipedBehind_6 x1 x2) fl ((20 : Int32), (0 : Int32)) S) (fun (a9 : Int32 × Int32) S10 => some (a9.1, S10))
set_option maxHeartbeats 4000000 in
set_option maxRecDepth 100000 in
theorem tX1_wipedBehind (G : Gd) (l : Launch) (D : Nat) (x1 : Int32) (x2 : Int32) (S : Sg) : Ct LC G l rI yX1_wipedBehind cX1_wipedBehind 5 (some .int) (D + 0) [.ref (G.2.1 7), .int x1, .int x2] S (fX1_wipedBehind x1 x2 S) := by
  refine Ct.of (by decide) (Nat.le_of_ble_eq_true rfl) (fun Z hZ X => ?_)
  subst hZ
  show Go LC G Z 5 rI 0 [(0, .ref (G.2.1 7)), (1, .int x1), (2, .int x2)] [] S (fX1_wipedBehind x1 x2 S) kz
  unfold fX1_wipedBehind
  refine g_bipush 2 X dX1_wipedBehind_0 rfl cb_20 ?_
  refine g_istore_n 3 X [(3, _), (0, _), (1, _), (2, _)] dX1_wipedBehind_2 rfl rfl (Nat.le_of_ble_eq_true rfl) rfl ?_
  refine g_iconst 4 X dX1_wipedBehind_3 rfl ci_0 ?_
  refine g_istore 6 X [(4, _), (3, _), (0, _), (1, _), (2, _)] dX1_wipedBehind_4 rfl (Nat.le_of_ble_eq_true rfl) rfl ?_
  refine g_joinK 62 (fun (a9 : Int32 × Int32) => [(3, .int a9.1)]) (fun (a9 : Int32 × Int32) => []) (fun a9 S10 => ?_) (fun J3 => ?_)
  · refine g_iload_n 63 X 0 dX1_wipedBehind_62 rfl rfl rfl ?_
    exact g_iret X dX1_wipedBehind_63 rfl
  · refine g_sub [2, 3, 4, 1, 0] rfl (g_lp (fun (a1 : Int32 × Int32) => [(0, .ref (G.2.1 7)), (1, .int x1), (2, .int x2), (3, .int a1.1), (4, .int a1.2)]) (fun rec5 ih4 a1 S2 => ?_) fl ((20 : Int32), (0 : Int32)) _)
    unfold bX1_wipedBehind_6
    refine g_iload 8 X 4 dX1_wipedBehind_6 rfl rfl ?_
    refine g_aload_n 9 X 0 dX1_wipedBehind_8 rfl rfl rfl ?_
    refine g_geti 12 X rfl flX1_24 rfl dX1_wipedBehind_9 rfl ?_
    refine g_icmp_ge 62 15 X dX1_wipedBehind_12 (by decide) rfl (fun _ => ?_) (fun _ => ?_)
    · exact g_sub [3] rfl (J3 (a1.1, a1.2) _)
    · refine g_aload_n 16 X 0 dX1_wipedBehind_15 rfl rfl rfl ?_
      refine g_getr 19 X 9 rfl flX1_15 rfl dX1_wipedBehind_16 rfl ?_
      refine g_iload 21 X 4 dX1_wipedBehind_19 rfl rfl ?_
      refine g_iald 22 X rfl dX1_wipedBehind_21 rfl ?_
      refine g_iload_n 23 X 2 dX1_wipedBehind_22 rfl rfl rfl ?_
      refine g_joinK 56 (fun (t6 : Int32) => [(0, .ref (G.2.1 7)), (1, .int x1), (2, .int x2), (3, .int t6), (4, .int a1.2)]) (fun (t6 : Int32) => []) (fun t6 S7 => ?_) (fun J8 => ?_)
      · refine g_iinc 59 X 4 [(4, _), (0, _), (1, _), (2, _), (3, _)] dX1_wipedBehind_56 rfl rfl (ii_1 _) (Nat.le_of_ble_eq_true rfl) rfl ?_
        refine g_goto 6 X dX1_wipedBehind_59 (by decide) ?_
        exact g_sub [1, 2, 3, 4, 0] rfl (ih4 (t6, (a1.2 + (1 : Int32))) _)
      · refine g_icmp_ne 56 26 X dX1_wipedBehind_23 (by decide) rfl (fun _ => ?_) (fun _ => ?_)
        · exact g_sub [0, 1, 2, 3, 4] rfl (J8 a1.1 _)
        · refine g_aload_n 27 X 0 dX1_wipedBehind_26 rfl rfl rfl ?_
          refine g_getr 30 X 8 rfl flX1_9 rfl dX1_wipedBehind_27 rfl ?_
          refine g_iload 32 X 4 dX1_wipedBehind_30 rfl rfl ?_
          refine g_iald 33 X rfl dX1_wipedBehind_32 rfl ?_
          refine g_iload_n 34 X 1 dX1_wipedBehind_33 rfl rfl rfl ?_
          refine g_icmp_le 56 37 X dX1_wipedBehind_34 (by decide) rfl (fun _ => ?_) (fun _ => ?_)
          · exact g_sub [0, 1, 2, 3, 4] rfl (J8 a1.1 _)
          · refine g_aload_n 38 X 0 dX1_wipedBehind_37 rfl rfl rfl ?_
            refine g_getr 41 X 8 rfl flX1_9 rfl dX1_wipedBehind_38 rfl ?_
            refine g_iload 43 X 4 dX1_wipedBehind_41 rfl rfl ?_
            refine g_iald 44 X rfl dX1_wipedBehind_43 rfl ?_
            refine g_iload_n 45 X 3 dX1_wipedBehind_44 rfl rfl rfl ?_
            refine g_icmp_ge 56 48 X dX1_wipedBehind_45 (by decide) rfl (fun _ => ?_) (fun _ => ?_)
            · exact g_sub [0, 1, 2, 3, 4] rfl (J8 a1.1 _)
            · refine g_aload_n 49 X 0 dX1_wipedBehind_48 rfl rfl rfl ?_
              refine g_getr 52 X 8 rfl flX1_9 rfl dX1_wipedBehind_49 rfl ?_
              refine g_iload 54 X 4 dX1_wipedBehind_52 rfl rfl ?_
              refine g_iald 55 X rfl dX1_wipedBehind_54 rfl ?_
              refine g_istore_n 56 X [(3, _), (0, _), (1, _), (2, _), (4, _)] dX1_wipedBehind_55 rfl rfl (Nat.le_of_ble_eq_true rfl) rfl ?_
              exact g_sub [1, 2, 3, 0, 4] rfl (J8 (S2.1 8 (Int32.toNatClampNeg a1.2)) _)
def bX0_goesIn_23 (c0 : Nat) (c1 : Int32) (rec : (Int32 × Int32) → Sg → Option ((Int32 × Int32) × Sg)) (a3 : Int32 × Int32) (S4 : Sg) : Option ((Int32 × Int32) × Sg) :=
  (if (S4.1 c0 0) ≤ a3.2 then some ((a3.1, a3.2), S4) else gd (ix a3.2 8) (gd (ix c1 8) (bd ((if (S4.1 (c0 + 1) (Int32.toNatClampNeg c1)) < (S4.1 (c0 + 1) (Int32.toNatClampNeg a3.2)) then some ((1 : Int32), S4) else gd (ix a3.2 8) (gd (ix c1 8) ((if (S4.1 (c0 + 1) (Int32.toNatClampNeg a3.2)) = (S4.1 (c0 + 1) (Int32.toNatClampNeg c1)) then (if a3.2 ≤ c1 then some ((0 : Int32), S4) else some ((1 : Int32), S4)) else some ((0 : Int32), S4)))))) (fun (t5 : Int32) S6 => bd ((if t5 = 0 then some (a3.1, S6) else gd (ix c1 8) (bd (fX8_has (S6.1 (c0 + 5) (Int32.toNatClampNeg c1)) a3.2 S6) (fun r11 S12 => (if r11 = 0 then some (a3.1, S12) else gd (ix a3.2 8) (some ((if (S12.1 (c0 + 1) (Int32.toNatClampNeg a3.2)) < a3.1 then (S12.1 (c0 + 1) (Int32.toNatClampNeg a3.2)) else a3.1), S12))))))) (fun (t8 : Int32) S9 => rec (t8, (a3.2 + (1 : Int32))) S9)))))
def fX0_goesIn (t : Nat) (x1 : Int32) (S : Sg) : Option (Int32 × Sg) :=
  gd (ix x1 8) (gd (ix x1 8) (bd (fX1_wipedBehind (S.1 (t + 1) (Int32.toNatClampNeg x1)) ((S.1 (t + 2) (Int32.toNatClampNeg x1)) / (6 : Int32)) S) (fun r1 S2 => bd (lp (bX0_goesIn_23 t x1) fl (r1, (0 : Int32)) S2) (fun (a16 : Int32 × Int32) S17 => some (a16.1, S17)))))
set_option maxHeartbeats 4000000 in
set_option maxRecDepth 100000 in
theorem tX0_goesIn (G : Gd) (l : Launch) (D : Nat) (t : Nat) (ht : isBoard t) (x1 : Int32) (S : Sg) : Ct LC G l rI yX0_goesIn cX0_goesIn 6 (some .int) (D + 1) [.ref (G.2.1 t), .int x1, .ref (G.2.1 7)] S (fX0_goesIn t x1 S) := by
  refine Ct.of (by decide) (Nat.le_of_ble_eq_true rfl) (fun Z hZ X => ?_)
  subst hZ
  show Go LC G Z 6 rI 0 [(0, .ref (G.2.1 t)), (1, .int x1), (2, .ref (G.2.1 7))] [] S (fX0_goesIn t x1 S) kz
  unfold fX0_goesIn
  refine g_aload_n 1 X 2 dX0_goesIn_0 rfl rfl rfl ?_
  refine g_aload_n 2 X 0 dX0_goesIn_1 rfl rfl rfl ?_
  refine g_getr 5 X (t + 1) (sBoard ht) flX0_15 rfl dX0_goesIn_2 rfl ?_
  refine g_iload_n 6 X 1 dX0_goesIn_5 rfl rfl rfl ?_
  refine g_iald 7 X (sB8 ht 1 ⟨by decide, by decide⟩) dX0_goesIn_6 rfl ?_
  refine g_aload_n 8 X 0 dX0_goesIn_7 rfl rfl rfl ?_
  refine g_getr 11 X (t + 2) (sBoard ht) flX0_19 rfl dX0_goesIn_8 rfl ?_
  refine g_iload_n 12 X 1 dX0_goesIn_11 rfl rfl rfl ?_
  refine g_iald 13 X (sB8 ht 2 ⟨by decide, by decide⟩) dX0_goesIn_12 rfl ?_
  refine g_bipush 15 X dX0_goesIn_13 rfl cb_6 ?_
  refine g_idiv 16 X dX0_goesIn_15 rfl (by decide) ?_
  refine g_cVi2 19 X (tX1_wipedBehind _ _ (D) _ _ _) mfX1_wipedBehind miX1_wipedBehind lkX0_73 rfl rfl rfl (Nat.le_of_ble_eq_true rfl) dX0_goesIn_16 rfl (fun r1 S2 => ?_)
  refine g_istore_n 20 X [(3, _), (0, _), (1, _), (2, _)] dX0_goesIn_19 rfl rfl (Nat.le_of_ble_eq_true rfl) rfl ?_
  refine g_iconst 21 X dX0_goesIn_20 rfl ci_0 ?_
  refine g_istore 23 X [(4, _), (3, _), (0, _), (1, _), (2, _)] dX0_goesIn_21 rfl (Nat.le_of_ble_eq_true rfl) rfl ?_
  refine g_joinK 114 (fun (a16 : Int32 × Int32) => [(3, .int a16.1)]) (fun (a16 : Int32 × Int32) => []) (fun a16 S17 => ?_) (fun J5 => ?_)
  · refine g_iload_n 115 X 0 dX0_goesIn_114 rfl rfl rfl ?_
    exact g_iret X dX0_goesIn_115 rfl
  · refine g_sub [2, 3, 1, 0] rfl (g_lp (fun (a3 : Int32 × Int32) => [(0, .ref (G.2.1 t)), (1, .int x1), (3, .int a3.1), (4, .int a3.2)]) (fun rec7 ih6 a3 S4 => ?_) fl (r1, (0 : Int32)) _)
    unfold bX0_goesIn_23
    refine g_iload 25 X 3 dX0_goesIn_23 rfl rfl ?_
    refine g_aload_n 26 X 0 dX0_goesIn_25 rfl rfl rfl ?_
    refine g_geti 29 X (sBoard ht) flX0_9 rfl dX0_goesIn_26 rfl ?_
    refine g_icmp_ge 114 32 X dX0_goesIn_29 (by decide) rfl (fun _ => ?_) (fun _ => ?_)
    · exact g_sub [2] rfl (J5 (a3.1, a3.2) _)
    · refine g_aload_n 33 X 0 dX0_goesIn_32 rfl rfl rfl ?_
      refine g_getr 36 X (t + 1) (sBoard ht) flX0_15 rfl dX0_goesIn_33 rfl ?_
      refine g_iload 38 X 3 dX0_goesIn_36 rfl rfl ?_
      refine g_iald 39 X (sB8 ht 1 ⟨by decide, by decide⟩) dX0_goesIn_38 rfl ?_
      refine g_aload_n 40 X 0 dX0_goesIn_39 rfl rfl rfl ?_
      refine g_getr 43 X (t + 1) (sBoard ht) flX0_15 rfl dX0_goesIn_40 rfl ?_
      refine g_iload_n 44 X 1 dX0_goesIn_43 rfl rfl rfl ?_
      refine g_iald 45 X (sB8 ht 1 ⟨by decide, by decide⟩) dX0_goesIn_44 rfl ?_
      refine g_joinK 75 (fun (t8 : Int32) => [(0, .ref (G.2.1 t)), (1, .int x1), (3, .int a3.1), (4, .int a3.2)]) (fun (t8 : Int32) => [.int t8]) (fun t8 S9 => ?_) (fun J10 => ?_)
      · refine g_istore 77 X [(5, _), (0, _), (1, _), (3, _), (4, _)] dX0_goesIn_75 rfl (Nat.le_of_ble_eq_true rfl) rfl ?_
        refine g_iload 79 X 0 dX0_goesIn_77 rfl rfl ?_
        refine g_joinK 108 (fun (t11 : Int32) => [(0, .ref (G.2.1 t)), (1, .int x1), (3, .int t11), (4, .int a3.2)]) (fun (t11 : Int32) => []) (fun t11 S12 => ?_) (fun J13 => ?_)
        · refine g_iinc 111 X 3 [(4, _), (0, _), (1, _), (3, _)] dX0_goesIn_108 rfl rfl (ii_1 _) (Nat.le_of_ble_eq_true rfl) rfl ?_
          refine g_goto 23 X dX0_goesIn_111 (by decide) ?_
          exact g_sub [1, 2, 3, 0] rfl (ih6 (t11, (a3.2 + (1 : Int32))) _)
        · refine g_if_eq 108 82 X dX0_goesIn_79 (by decide) rfl (fun _ => ?_) (fun _ => ?_)
          · exact g_sub [1, 2, 3, 4] rfl (J13 a3.1 _)
          · refine g_aload_n 83 X 1 dX0_goesIn_82 rfl rfl rfl ?_
            refine g_getr 86 X (t + 5) (sBoard ht) flX0_28 rfl dX0_goesIn_83 rfl ?_
            refine g_iload_n 87 X 2 dX0_goesIn_86 rfl rfl rfl ?_
            refine g_iald 88 X (sB8 ht 5 ⟨by decide, by decide⟩) dX0_goesIn_87 rfl ?_
            refine g_iload 90 X 4 dX0_goesIn_88 rfl rfl ?_
            refine g_cSi2 93 X (tX8_has _ _ (D) _ _ _) mfX8_has msX8_has lkX0_50 (Nat.le_of_ble_eq_true rfl) dX0_goesIn_90 rfl (fun r14 S15 => ?_)
            refine g_if_eq 108 96 X dX0_goesIn_93 (by decide) rfl (fun _ => ?_) (fun _ => ?_)
            · exact g_sub [1, 2, 3, 4] rfl (J13 a3.1 _)
            · refine g_iload_n 97 X 3 dX0_goesIn_96 rfl rfl rfl ?_
              refine g_aload_n 98 X 1 dX0_goesIn_97 rfl rfl rfl ?_
              refine g_getr 101 X (t + 1) (sBoard ht) flX0_15 rfl dX0_goesIn_98 rfl ?_
              refine g_iload 103 X 4 dX0_goesIn_101 rfl rfl ?_
              refine g_iald 104 X (sB8 ht 1 ⟨by decide, by decide⟩) dX0_goesIn_103 rfl ?_
              refine g_mmin 107 X lkX0_77 mm_min.1 mm_min.2.1 mm_min.2.2 (Nat.le_of_ble_eq_true rfl) dX0_goesIn_104 rfl ?_
              refine g_istore_n 108 X [(3, _), (5, _), (0, _), (1, _), (4, _)] dX0_goesIn_107 rfl rfl (Nat.le_of_ble_eq_true rfl) rfl ?_
              exact g_sub [2, 3, 0, 4] rfl (J13 (if (S15.1 (t + 1) (Int32.toNatClampNeg a3.2)) < a3.1 then (S15.1 (t + 1) (Int32.toNatClampNeg a3.2)) else a3.1) _)
      · refine g_icmp_gt 70 48 X dX0_goesIn_45 (by decide) rfl (fun _ => ?_) (fun _ => ?_)
        · refine g_iconst 71 X dX0_goesIn_70 rfl ci_1 ?_
          refine g_goto 75 X dX0_goesIn_71 (by decide) ?_
          exact g_sub [0, 1, 2, 3] rfl (J10 (1 : Int32) _)
        · refine g_aload_n 49 X 0 dX0_goesIn_48 rfl rfl rfl ?_
          refine g_getr 52 X (t + 1) (sBoard ht) flX0_15 rfl dX0_goesIn_49 rfl ?_
          refine g_iload 54 X 3 dX0_goesIn_52 rfl rfl ?_
          refine g_iald 55 X (sB8 ht 1 ⟨by decide, by decide⟩) dX0_goesIn_54 rfl ?_
          refine g_aload_n 56 X 0 dX0_goesIn_55 rfl rfl rfl ?_
          refine g_getr 59 X (t + 1) (sBoard ht) flX0_15 rfl dX0_goesIn_56 rfl ?_
          refine g_iload_n 60 X 1 dX0_goesIn_59 rfl rfl rfl ?_
          refine g_iald 61 X (sB8 ht 1 ⟨by decide, by decide⟩) dX0_goesIn_60 rfl ?_
          refine g_icmp_ne 74 64 X dX0_goesIn_61 (by decide) rfl (fun _ => ?_) (fun _ => ?_)
          · refine g_iconst 75 X dX0_goesIn_74 rfl ci_0 ?_
            exact g_sub [0, 1, 2, 3] rfl (J10 (0 : Int32) _)
          · refine g_iload 66 X 3 dX0_goesIn_64 rfl rfl ?_
            refine g_iload_n 67 X 1 dX0_goesIn_66 rfl rfl rfl ?_
            refine g_icmp_le 74 70 X dX0_goesIn_67 (by decide) rfl (fun _ => ?_) (fun _ => ?_)
            · refine g_iconst 75 X dX0_goesIn_74 rfl ci_0 ?_
              exact g_sub [0, 1, 2, 3] rfl (J10 (0 : Int32) _)
            · refine g_iconst 71 X dX0_goesIn_70 rfl ci_1 ?_
              refine g_goto 75 X dX0_goesIn_71 (by decide) ?_
              exact g_sub [0, 1, 2, 3] rfl (J10 (1 : Int32) _)
def bX0_settleStroke_17 (c0 : Nat) (c2 : Int32) (c3 : Int32) (rec : Int32 → Sg → Option ((Int32) × Sg)) (a3 : Int32) (S4 : Sg) : Option ((Int32) × Sg) :=
  (if (20 : Int32) ≤ a3 then some (a3, S4) else bd ((if c2 ≤ a3 then gd (ix a3 20) (gd (ix a3 20) (some ((), (sI S4 (c0 + 7) (Int32.toNatClampNeg a3) ((S4.1 (c0 + 7) (Int32.toNatClampNeg a3)) ||| c3))))) else gd (ix a3 20) (gd (ix a3 20) (some ((), (sI S4 (c0 + 6) (Int32.toNatClampNeg a3) ((S4.1 (c0 + 6) (Int32.toNatClampNeg a3)) ||| c3))))))) (fun (t5 : Unit) S6 => rec (a3 + (1 : Int32)) S6))
def fX0_settleStroke (t : Nat) (x1 : Int32) (x2 : Int32) (S : Sg) : Option (Unit × Sg) :=
  bd (fX8_only x1 S) (fun r1 S2 => gd (ix x1 8) (bd (lp (bX0_settleStroke_17 t x2 r1) fl (if (0 : Int32) < (S2.1 (t + 1) (Int32.toNatClampNeg x1)) then (S2.1 (t + 1) (Int32.toNatClampNeg x1)) else (0 : Int32)) S2) (fun (a11 : Int32) S12 => some ((), S12))))
set_option maxHeartbeats 4000000 in
set_option maxRecDepth 100000 in
theorem tX0_settleStroke (G : Gd) (l : Launch) (D : Nat) (t : Nat) (ht : isBoard t) (x1 : Int32) (x2 : Int32) (S : Sg) : Ct LC G l rV yX0_settleStroke cX0_settleStroke 5 none (D + 1) [.ref (G.2.1 t), .int x1, .int x2] S (fX0_settleStroke t x1 x2 S) := by
  refine Ct.of (by decide) (Nat.le_of_ble_eq_true rfl) (fun Z hZ X => ?_)
  subst hZ
  show Go LC G Z 5 rV 0 [(0, .ref (G.2.1 t)), (1, .int x1), (2, .int x2)] [] S (fX0_settleStroke t x1 x2 S) kz
  unfold fX0_settleStroke
  refine g_iload_n 1 X 1 dX0_settleStroke_0 rfl rfl rfl ?_
  refine g_cSi1 4 X (tX8_only _ _ (D) _ _) mfX8_only msX8_only lkX0_46 (Nat.le_of_ble_eq_true rfl) dX0_settleStroke_1 rfl (fun r1 S2 => ?_)
  refine g_istore_n 5 X [(3, _), (0, _), (1, _), (2, _)] dX0_settleStroke_4 rfl rfl (Nat.le_of_ble_eq_true rfl) rfl ?_
  refine g_iconst 6 X dX0_settleStroke_5 rfl ci_0 ?_
  refine g_aload_n 7 X 1 dX0_settleStroke_6 rfl rfl rfl ?_
  refine g_getr 10 X (t + 1) (sBoard ht) flX0_15 rfl dX0_settleStroke_7 rfl ?_
  refine g_iload_n 11 X 2 dX0_settleStroke_10 rfl rfl rfl ?_
  refine g_iald 12 X (sB8 ht 1 ⟨by decide, by decide⟩) dX0_settleStroke_11 rfl ?_
  refine g_mmax 15 X lkX0_82 mm_max.1 mm_max.2.1 mm_max.2.2 (Nat.le_of_ble_eq_true rfl) dX0_settleStroke_12 rfl ?_
  refine g_istore 17 X [(4, _), (3, _), (0, _), (1, _), (2, _)] dX0_settleStroke_15 rfl (Nat.le_of_ble_eq_true rfl) rfl ?_
  refine g_joinK 61 (fun (a11 : Int32) => []) (fun (a11 : Int32) => []) (fun a11 S12 => ?_) (fun J5 => ?_)
  · exact g_vret X dX0_settleStroke_61 rfl
  · refine g_sub [2, 4, 1, 0] rfl (g_lp (fun (a3 : Int32) => [(0, .ref (G.2.1 t)), (2, .int x2), (3, .int r1), (4, .int a3)]) (fun rec7 ih6 a3 S4 => ?_) fl (if (0 : Int32) < (S2.1 (t + 1) (Int32.toNatClampNeg x1)) then (S2.1 (t + 1) (Int32.toNatClampNeg x1)) else (0 : Int32)) _)
    unfold bX0_settleStroke_17
    refine g_iload 19 X 3 dX0_settleStroke_17 rfl rfl ?_
    refine g_bipush 21 X dX0_settleStroke_19 rfl cb_20 ?_
    refine g_icmp_ge 61 24 X dX0_settleStroke_21 (by decide) rfl (fun _ => ?_) (fun _ => ?_)
    · exact g_sub [] rfl (J5 a3 _)
    · refine g_iload 26 X 3 dX0_settleStroke_24 rfl rfl ?_
      refine g_iload_n 27 X 1 dX0_settleStroke_26 rfl rfl rfl ?_
      refine g_joinK 55 (fun (t8 : Unit) => [(0, .ref (G.2.1 t)), (2, .int x2), (3, .int r1), (4, .int a3)]) (fun (t8 : Unit) => []) (fun t8 S9 => ?_) (fun J10 => ?_)
      · refine g_iinc 58 X 3 [(4, _), (0, _), (2, _), (3, _)] dX0_settleStroke_55 rfl rfl (ii_1 _) (Nat.le_of_ble_eq_true rfl) rfl ?_
        refine g_goto 17 X dX0_settleStroke_58 (by decide) ?_
        exact g_sub [1, 2, 3, 0] rfl (ih6 (a3 + (1 : Int32)) _)
      · refine g_icmp_ge 44 30 X dX0_settleStroke_27 (by decide) rfl (fun _ => ?_) (fun _ => ?_)
        · refine g_aload_n 45 X 0 dX0_settleStroke_44 rfl rfl rfl ?_
          refine g_getr 48 X (t + 7) (sBoard ht) flX0_34 rfl dX0_settleStroke_45 rfl ?_
          refine g_iload 50 X 3 dX0_settleStroke_48 rfl rfl ?_
          refine g_dup2 51 X dX0_settleStroke_50 rfl rfl rfl ?_
          refine g_iald 52 X (sB20 ht 7 ⟨by decide, by decide⟩) dX0_settleStroke_51 rfl ?_
          refine g_iload_n 53 X 2 dX0_settleStroke_52 rfl rfl rfl ?_
          refine g_ior 54 X dX0_settleStroke_53 rfl ?_
          refine g_iast 55 X (sB20 ht 7 ⟨by decide, by decide⟩) dX0_settleStroke_54 rfl ?_
          exact g_sub [0, 1, 2, 3] rfl (J10 () _)
        · refine g_aload_n 31 X 0 dX0_settleStroke_30 rfl rfl rfl ?_
          refine g_getr 34 X (t + 6) (sBoard ht) flX0_31 rfl dX0_settleStroke_31 rfl ?_
          refine g_iload 36 X 3 dX0_settleStroke_34 rfl rfl ?_
          refine g_dup2 37 X dX0_settleStroke_36 rfl rfl rfl ?_
          refine g_iald 38 X (sB20 ht 6 ⟨by decide, by decide⟩) dX0_settleStroke_37 rfl ?_
          refine g_iload_n 39 X 2 dX0_settleStroke_38 rfl rfl rfl ?_
          refine g_ior 40 X dX0_settleStroke_39 rfl ?_
          refine g_iast 41 X (sB20 ht 6 ⟨by decide, by decide⟩) dX0_settleStroke_40 rfl ?_
          refine g_goto 55 X dX0_settleStroke_41 (by decide) ?_
          exact g_sub [0, 1, 2, 3] rfl (J10 () _)
def bX1_oiledFrom_5 (c1 : Int32) (rec : (Int32 × Int32) → Sg → Option ((Int32 × Int32) × Sg)) (a1 : Int32 × Int32) (S2 : Sg) : Option ((Int32 × Int32) × Sg) :=
  (if (S2.1 7 5) ≤ a1.2 then some ((a1.1, a1.2), S2) else gd (ix a1.2 4) (bd ((if (S2.1 11 (Int32.toNatClampNeg a1.2)) = c1 then gd (ix a1.2 4) ((if a1.1 ≤ (S2.1 10 (Int32.toNatClampNeg a1.2)) then some (a1.1, S2) else gd (ix a1.2 4) (some ((S2.1 10 (Int32.toNatClampNeg a1.2)), S2)))) else some (a1.1, S2))) (fun (t3 : Int32) S4 => rec (t3, (a1.2 + (1 : Int32))) S4)))
def fX1_oiledFrom (x1 : Int32) (S : Sg) : Option (Int32 × Sg) :=
  bd (lp (bX1_oiledFrom_5 x1) fl ((20 : Int32), (0 : Int32)) S) (fun (a9 : Int32 × Int32) S10 => some (a9.1, S10))
set_option maxHeartbeats 4000000 in
set_option maxRecDepth 100000 in
theorem tX1_oiledFrom (G : Gd) (l : Launch) (D : Nat) (x1 : Int32) (S : Sg) : Ct LC G l rI yX1_oiledFrom cX1_oiledFrom 4 (some .int) (D + 0) [.ref (G.2.1 7), .int x1] S (fX1_oiledFrom x1 S) := by
  refine Ct.of (by decide) (Nat.le_of_ble_eq_true rfl) (fun Z hZ X => ?_)
  subst hZ
  show Go LC G Z 4 rI 0 [(0, .ref (G.2.1 7)), (1, .int x1)] [] S (fX1_oiledFrom x1 S) kz
  unfold fX1_oiledFrom
  refine g_bipush 2 X dX1_oiledFrom_0 rfl cb_20 ?_
  refine g_istore_n 3 X [(2, _), (0, _), (1, _)] dX1_oiledFrom_2 rfl rfl (Nat.le_of_ble_eq_true rfl) rfl ?_
  refine g_iconst 4 X dX1_oiledFrom_3 rfl ci_0 ?_
  refine g_istore_n 5 X [(3, _), (2, _), (0, _), (1, _)] dX1_oiledFrom_4 rfl rfl (Nat.le_of_ble_eq_true rfl) rfl ?_
  refine g_joinK 46 (fun (a9 : Int32 × Int32) => [(2, .int a9.1)]) (fun (a9 : Int32 × Int32) => []) (fun a9 S10 => ?_) (fun J3 => ?_)
  · refine g_iload_n 47 X 0 dX1_oiledFrom_46 rfl rfl rfl ?_
    exact g_iret X dX1_oiledFrom_47 rfl
  · refine g_sub [2, 3, 1, 0] rfl (g_lp (fun (a1 : Int32 × Int32) => [(0, .ref (G.2.1 7)), (1, .int x1), (2, .int a1.1), (3, .int a1.2)]) (fun rec5 ih4 a1 S2 => ?_) fl ((20 : Int32), (0 : Int32)) _)
    unfold bX1_oiledFrom_5
    refine g_iload_n 6 X 3 dX1_oiledFrom_5 rfl rfl rfl ?_
    refine g_aload_n 7 X 0 dX1_oiledFrom_6 rfl rfl rfl ?_
    refine g_geti 10 X rfl flX1_28 rfl dX1_oiledFrom_7 rfl ?_
    refine g_icmp_ge 46 13 X dX1_oiledFrom_10 (by decide) rfl (fun _ => ?_) (fun _ => ?_)
    · exact g_sub [2] rfl (J3 (a1.1, a1.2) _)
    · refine g_aload_n 14 X 0 dX1_oiledFrom_13 rfl rfl rfl ?_
      refine g_getr 17 X 11 rfl flX1_21 rfl dX1_oiledFrom_14 rfl ?_
      refine g_iload_n 18 X 3 dX1_oiledFrom_17 rfl rfl rfl ?_
      refine g_iald 19 X rfl dX1_oiledFrom_18 rfl ?_
      refine g_iload_n 20 X 1 dX1_oiledFrom_19 rfl rfl rfl ?_
      refine g_joinK 40 (fun (t6 : Int32) => [(0, .ref (G.2.1 7)), (1, .int x1), (2, .int t6), (3, .int a1.2)]) (fun (t6 : Int32) => []) (fun t6 S7 => ?_) (fun J8 => ?_)
      · refine g_iinc 43 X 3 [(3, _), (0, _), (1, _), (2, _)] dX1_oiledFrom_40 rfl rfl (ii_1 _) (Nat.le_of_ble_eq_true rfl) rfl ?_
        refine g_goto 5 X dX1_oiledFrom_43 (by decide) ?_
        exact g_sub [1, 2, 3, 0] rfl (ih4 (t6, (a1.2 + (1 : Int32))) _)
      · refine g_icmp_ne 40 23 X dX1_oiledFrom_20 (by decide) rfl (fun _ => ?_) (fun _ => ?_)
        · exact g_sub [0, 1, 2, 3] rfl (J8 a1.1 _)
        · refine g_aload_n 24 X 0 dX1_oiledFrom_23 rfl rfl rfl ?_
          refine g_getr 27 X 10 rfl flX1_18 rfl dX1_oiledFrom_24 rfl ?_
          refine g_iload_n 28 X 3 dX1_oiledFrom_27 rfl rfl rfl ?_
          refine g_iald 29 X rfl dX1_oiledFrom_28 rfl ?_
          refine g_iload_n 30 X 2 dX1_oiledFrom_29 rfl rfl rfl ?_
          refine g_icmp_ge 40 33 X dX1_oiledFrom_30 (by decide) rfl (fun _ => ?_) (fun _ => ?_)
          · exact g_sub [0, 1, 2, 3] rfl (J8 a1.1 _)
          · refine g_aload_n 34 X 0 dX1_oiledFrom_33 rfl rfl rfl ?_
            refine g_getr 37 X 10 rfl flX1_18 rfl dX1_oiledFrom_34 rfl ?_
            refine g_iload_n 38 X 3 dX1_oiledFrom_37 rfl rfl rfl ?_
            refine g_iald 39 X rfl dX1_oiledFrom_38 rfl ?_
            refine g_istore_n 40 X [(2, _), (0, _), (1, _), (3, _)] dX1_oiledFrom_39 rfl rfl (Nat.le_of_ble_eq_true rfl) rfl ?_
            exact g_sub [1, 2, 0, 3] rfl (J8 (S2.1 10 (Int32.toNatClampNeg a1.2)) _)
def bX0_settleAble_16 (c0 : Nat) (c2 : Int32) (c3 : Int32) (c4 : Int32) (rec : Int32 → Sg → Option ((Int32) × Sg)) (a3 : Int32) (S4 : Sg) : Option ((Int32) × Sg) :=
  (if (20 : Int32) ≤ a3 then some (a3, S4) else (if c2 ≤ a3 then some (a3, S4) else gd (ix a3 20) (bd ((if ((S4.1 (c0 + 6) (Int32.toNatClampNeg a3)) &&& c4) = 0 then gd (ix a3 20) (gd (ix a3 20) (gd (ix a3 20) (some ((), (sI S4 (c0 + 8) (Int32.toNatClampNeg a3) ((S4.1 (c0 + 8) (Int32.toNatClampNeg a3)) ||| ((S4.1 (c0 + 7) (Int32.toNatClampNeg a3)) &&& c3))))))) else some ((), S4))) (fun (t5 : Unit) S6 => rec (a3 + (1 : Int32)) S6))))
def fX0_settleAble (t : Nat) (x1 : Int32) (x2 : Int32) (S : Sg) : Option (Unit × Sg) :=
  bd (fX8_only x1 S) (fun r1 S2 => gd (ix x1 8) (bd (lp (bX0_settleAble_16 t x2 r1 (S2.1 (t + 5) (Int32.toNatClampNeg x1))) fl (0 : Int32) S2) (fun (a11 : Int32) S12 => some ((), S12))))
set_option maxHeartbeats 4000000 in
set_option maxRecDepth 100000 in
theorem tX0_settleAble (G : Gd) (l : Launch) (D : Nat) (t : Nat) (ht : isBoard t) (x1 : Int32) (x2 : Int32) (S : Sg) : Ct LC G l rV yX0_settleAble cX0_settleAble 6 none (D + 1) [.ref (G.2.1 t), .int x1, .int x2] S (fX0_settleAble t x1 x2 S) := by
  refine Ct.of (by decide) (Nat.le_of_ble_eq_true rfl) (fun Z hZ X => ?_)
  subst hZ
  show Go LC G Z 6 rV 0 [(0, .ref (G.2.1 t)), (1, .int x1), (2, .int x2)] [] S (fX0_settleAble t x1 x2 S) kz
  unfold fX0_settleAble
  refine g_iload_n 1 X 1 dX0_settleAble_0 rfl rfl rfl ?_
  refine g_cSi1 4 X (tX8_only _ _ (D) _ _) mfX8_only msX8_only lkX0_46 (Nat.le_of_ble_eq_true rfl) dX0_settleAble_1 rfl (fun r1 S2 => ?_)
  refine g_istore_n 5 X [(3, _), (0, _), (1, _), (2, _)] dX0_settleAble_4 rfl rfl (Nat.le_of_ble_eq_true rfl) rfl ?_
  refine g_aload_n 6 X 1 dX0_settleAble_5 rfl rfl rfl ?_
  refine g_getr 9 X (t + 5) (sBoard ht) flX0_28 rfl dX0_settleAble_6 rfl ?_
  refine g_iload_n 10 X 2 dX0_settleAble_9 rfl rfl rfl ?_
  refine g_iald 11 X (sB8 ht 5 ⟨by decide, by decide⟩) dX0_settleAble_10 rfl ?_
  refine g_istore 13 X [(4, _), (3, _), (0, _), (1, _), (2, _)] dX0_settleAble_11 rfl (Nat.le_of_ble_eq_true rfl) rfl ?_
  refine g_iconst 14 X dX0_settleAble_13 rfl ci_0 ?_
  refine g_istore 16 X [(5, _), (4, _), (3, _), (0, _), (1, _), (2, _)] dX0_settleAble_14 rfl (Nat.le_of_ble_eq_true rfl) rfl ?_
  refine g_joinK 67 (fun (a11 : Int32) => []) (fun (a11 : Int32) => []) (fun a11 S12 => ?_) (fun J5 => ?_)
  · exact g_vret X dX0_settleAble_67 rfl
  · refine g_sub [3, 5, 2, 1, 0] rfl (g_lp (fun (a3 : Int32) => [(0, .ref (G.2.1 t)), (2, .int x2), (3, .int r1), (4, .int (S2.1 (t + 5) (Int32.toNatClampNeg x1))), (5, .int a3)]) (fun rec7 ih6 a3 S4 => ?_) fl (0 : Int32) _)
    unfold bX0_settleAble_16
    refine g_iload 18 X 4 dX0_settleAble_16 rfl rfl ?_
    refine g_bipush 20 X dX0_settleAble_18 rfl cb_20 ?_
    refine g_icmp_ge 67 23 X dX0_settleAble_20 (by decide) rfl (fun _ => ?_) (fun _ => ?_)
    · exact g_sub [] rfl (J5 a3 _)
    · refine g_iload 25 X 4 dX0_settleAble_23 rfl rfl ?_
      refine g_iload_n 26 X 1 dX0_settleAble_25 rfl rfl rfl ?_
      refine g_icmp_ge 67 29 X dX0_settleAble_26 (by decide) rfl (fun _ => ?_) (fun _ => ?_)
      · exact g_sub [] rfl (J5 a3 _)
      · refine g_aload_n 30 X 0 dX0_settleAble_29 rfl rfl rfl ?_
        refine g_getr 33 X (t + 6) (sBoard ht) flX0_31 rfl dX0_settleAble_30 rfl ?_
        refine g_iload 35 X 4 dX0_settleAble_33 rfl rfl ?_
        refine g_iald 36 X (sB20 ht 6 ⟨by decide, by decide⟩) dX0_settleAble_35 rfl ?_
        refine g_iload 38 X 3 dX0_settleAble_36 rfl rfl ?_
        refine g_iand 39 X dX0_settleAble_38 rfl ?_
        refine g_joinK 61 (fun (t8 : Unit) => [(0, .ref (G.2.1 t)), (2, .int x2), (3, .int r1), (4, .int (S2.1 (t + 5) (Int32.toNatClampNeg x1))), (5, .int a3)]) (fun (t8 : Unit) => []) (fun t8 S9 => ?_) (fun J10 => ?_)
        · refine g_iinc 64 X 4 [(5, _), (0, _), (2, _), (3, _), (4, _)] dX0_settleAble_61 rfl rfl (ii_1 _) (Nat.le_of_ble_eq_true rfl) rfl ?_
          refine g_goto 16 X dX0_settleAble_64 (by decide) ?_
          exact g_sub [1, 2, 3, 4, 0] rfl (ih6 (a3 + (1 : Int32)) _)
        · refine g_if_ne 61 42 X dX0_settleAble_39 (by decide) rfl (fun _ => ?_) (fun _ => ?_)
          · exact g_sub [0, 1, 2, 3, 4] rfl (J10 () _)
          · refine g_aload_n 43 X 0 dX0_settleAble_42 rfl rfl rfl ?_
            refine g_getr 46 X (t + 8) (sBoard ht) flX0_37 rfl dX0_settleAble_43 rfl ?_
            refine g_iload 48 X 4 dX0_settleAble_46 rfl rfl ?_
            refine g_dup2 49 X dX0_settleAble_48 rfl rfl rfl ?_
            refine g_iald 50 X (sB20 ht 8 ⟨by decide, by decide⟩) dX0_settleAble_49 rfl ?_
            refine g_aload_n 51 X 0 dX0_settleAble_50 rfl rfl rfl ?_
            refine g_getr 54 X (t + 7) (sBoard ht) flX0_34 rfl dX0_settleAble_51 rfl ?_
            refine g_iload 56 X 4 dX0_settleAble_54 rfl rfl ?_
            refine g_iald 57 X (sB20 ht 7 ⟨by decide, by decide⟩) dX0_settleAble_56 rfl ?_
            refine g_iload_n 58 X 2 dX0_settleAble_57 rfl rfl rfl ?_
            refine g_iand 59 X dX0_settleAble_58 rfl ?_
            refine g_ior 60 X dX0_settleAble_59 rfl ?_
            refine g_iast 61 X (sB20 ht 8 ⟨by decide, by decide⟩) dX0_settleAble_60 rfl ?_
            exact g_sub [0, 1, 2, 3, 4] rfl (J10 () _)
def bX0_settle_2 (c0 : Nat) (rec : Int32 → Sg → Option ((Int32) × Sg)) (a1 : Int32) (S2 : Sg) : Option ((Int32) × Sg) :=
  (if (20 : Int32) ≤ a1 then some (a1, S2) else gd (ix a1 20) (gd (ix a1 20) (gd (ix a1 20) (rec (a1 + (1 : Int32)) (sI (sI (sI S2 (c0 + 6) (Int32.toNatClampNeg a1) (0 : Int32)) (c0 + 7) (Int32.toNatClampNeg a1) (0 : Int32)) (c0 + 8) (Int32.toNatClampNeg a1) (0 : Int32))))))
def bX0_settle_37 (c0 : Nat) (c1 : Int32) (rec : Int32 → Sg → Option ((Int32) × Sg)) (a8 : Int32) (S9 : Sg) : Option ((Int32) × Sg) :=
  (if (S9.1 c0 0) ≤ a8 then some (a8, S9) else bd (fX8_has c1 a8 S9) (fun r10 S11 => bd ((if r10 = 0 then some ((), S11) else gd (ix a8 8) (bd (fX0_onCell c0 (S11.1 (c0 + 2) (Int32.toNatClampNeg a8)) S11) (fun r15 S16 => gd (ix a8 8) (bd (fX0_goesIn c0 a8 (sI S16 (c0 + 5) (Int32.toNatClampNeg a8) (r15 &&& c1))) (fun r17 S18 => bd (fX0_settleStroke c0 a8 r17 S18) (fun r19 S20 => some ((), S20)))))))) (fun (t12 : Unit) S13 => rec (a8 + (1 : Int32)) S13)))
def bX0_settle_90 (c0 : Nat) (c1 : Int32) (rec : Int32 → Sg → Option ((Int32) × Sg)) (a26 : Int32) (S27 : Sg) : Option ((Int32) × Sg) :=
  (if (S27.1 c0 0) ≤ a26 then some (a26, S27) else bd (fX8_has c1 a26 S27) (fun r28 S29 => bd ((if r28 = 0 then some ((), S29) else gd (ix a26 8) (bd (fX1_oiledFrom ((S29.1 (c0 + 2) (Int32.toNatClampNeg a26)) / (6 : Int32)) S29) (fun r33 S34 => bd (fX0_settleAble c0 a26 r33 S34) (fun r35 S36 => some ((), S36)))))) (fun (t30 : Unit) S31 => rec (a26 + (1 : Int32)) S31)))
def fX0_settle (t : Nat) (x1 : Int32) (S : Sg) : Option (Unit × Sg) :=
  bd (lp (bX0_settle_2 t) fl (0 : Int32) S) (fun (a6 : Int32) S7 => bd (lp (bX0_settle_37 t x1) fl (0 : Int32) S7) (fun (a24 : Int32) S25 => bd (lp (bX0_settle_90 t x1) fl (0 : Int32) S25) (fun (a40 : Int32) S41 => some ((), S41))))
set_option maxHeartbeats 4000000 in
set_option maxRecDepth 100000 in
theorem tX0_settle (G : Gd) (l : Launch) (D : Nat) (t : Nat) (ht : isBoard t) (x1 : Int32) (S : Sg) : Ct LC G l rV yX0_settle cX0_settle 4 none (D + 2) [.ref (G.2.1 t), .int x1, .ref (G.2.1 7)] S (fX0_settle t x1 S) := by
  refine Ct.of (by decide) (Nat.le_of_ble_eq_true rfl) (fun Z hZ X => ?_)
  subst hZ
  show Go LC G Z 4 rV 0 [(0, .ref (G.2.1 t)), (1, .int x1), (2, .ref (G.2.1 7))] [] S (fX0_settle t x1 S) kz
  unfold fX0_settle
  refine g_iconst 1 X dX0_settle_0 rfl ci_0 ?_
  refine g_istore_n 2 X [(3, _), (0, _), (1, _), (2, _)] dX0_settle_1 rfl rfl (Nat.le_of_ble_eq_true rfl) rfl ?_
  refine g_joinK 35 (fun (a6 : Int32) => [(0, .ref (G.2.1 t)), (1, .int x1), (2, .ref (G.2.1 7))]) (fun (a6 : Int32) => []) (fun a6 S7 => ?_) (fun J3 => ?_)
  · refine g_iconst 36 X dX0_settle_35 rfl ci_0 ?_
    refine g_istore_n 37 X [(3, _), (0, _), (1, _), (2, _)] dX0_settle_36 rfl rfl (Nat.le_of_ble_eq_true rfl) rfl ?_
    refine g_joinK 88 (fun (a24 : Int32) => [(0, .ref (G.2.1 t)), (1, .int x1), (2, .ref (G.2.1 7))]) (fun (a24 : Int32) => []) (fun a24 S25 => ?_) (fun J10 => ?_)
    · refine g_iconst 89 X dX0_settle_88 rfl ci_0 ?_
      refine g_istore_n 90 X [(3, _), (0, _), (1, _), (2, _)] dX0_settle_89 rfl rfl (Nat.le_of_ble_eq_true rfl) rfl ?_
      refine g_joinK 130 (fun (a40 : Int32) => []) (fun (a40 : Int32) => []) (fun a40 S41 => ?_) (fun J28 => ?_)
      · exact g_vret X dX0_settle_130 rfl
      · refine g_sub [1, 2, 3, 0] rfl (g_lp (fun (a26 : Int32) => [(0, .ref (G.2.1 t)), (1, .int x1), (2, .ref (G.2.1 7)), (3, .int a26)]) (fun rec30 ih29 a26 S27 => ?_) fl (0 : Int32) _)
        unfold bX0_settle_90
        refine g_iload_n 91 X 3 dX0_settle_90 rfl rfl rfl ?_
        refine g_aload_n 92 X 0 dX0_settle_91 rfl rfl rfl ?_
        refine g_geti 95 X (sBoard ht) flX0_9 rfl dX0_settle_92 rfl ?_
        refine g_icmp_ge 130 98 X dX0_settle_95 (by decide) rfl (fun _ => ?_) (fun _ => ?_)
        · exact g_sub [] rfl (J28 a26 _)
        · refine g_iload_n 99 X 1 dX0_settle_98 rfl rfl rfl ?_
          refine g_iload_n 100 X 3 dX0_settle_99 rfl rfl rfl ?_
          refine g_cSi2 103 X (tX8_has _ _ (D + 1) _ _ _) mfX8_has msX8_has lkX0_50 (Nat.le_of_ble_eq_true rfl) dX0_settle_100 rfl (fun r31 S32 => ?_)
          refine g_joinK 124 (fun (t33 : Unit) => [(0, .ref (G.2.1 t)), (1, .int x1), (2, .ref (G.2.1 7)), (3, .int a26)]) (fun (t33 : Unit) => []) (fun t33 S34 => ?_) (fun J35 => ?_)
          · refine g_iinc 127 X 3 [(3, _), (0, _), (1, _), (2, _)] dX0_settle_124 rfl rfl (ii_1 _) (Nat.le_of_ble_eq_true rfl) rfl ?_
            refine g_goto 90 X dX0_settle_127 (by decide) ?_
            exact g_sub [1, 2, 3, 0] rfl (ih29 (a26 + (1 : Int32)) _)
          · refine g_if_eq 124 106 X dX0_settle_103 (by decide) rfl (fun _ => ?_) (fun _ => ?_)
            · exact g_sub [0, 1, 2, 3] rfl (J35 () _)
            · refine g_aload_n 107 X 0 dX0_settle_106 rfl rfl rfl ?_
              refine g_iload_n 108 X 3 dX0_settle_107 rfl rfl rfl ?_
              refine g_aload_n 109 X 2 dX0_settle_108 rfl rfl rfl ?_
              refine g_aload_n 110 X 0 dX0_settle_109 rfl rfl rfl ?_
              refine g_getr 113 X (t + 2) (sBoard ht) flX0_19 rfl dX0_settle_110 rfl ?_
              refine g_iload_n 114 X 3 dX0_settle_113 rfl rfl rfl ?_
              refine g_iald 115 X (sB8 ht 2 ⟨by decide, by decide⟩) dX0_settle_114 rfl ?_
              refine g_bipush 117 X dX0_settle_115 rfl cb_6 ?_
              refine g_idiv 118 X dX0_settle_117 rfl (by decide) ?_
              refine g_cVi1 121 X (tX1_oiledFrom _ _ (D + 1) _ _) mfX1_oiledFrom miX1_oiledFrom lkX0_65 rfl rfl rfl (Nat.le_of_ble_eq_true rfl) dX0_settle_118 rfl (fun r36 S37 => ?_)
              refine g_cVv2 124 X (tX0_settleAble _ _ (D) _ ht _ _ _) mfX0_settleAble miX0_settleAble lkX0_70 (sBoard ht) rfl rfl (Nat.le_of_ble_eq_true rfl) dX0_settle_121 rfl (fun r38 S39 => ?_)
              exact g_sub [0, 1, 2, 3] rfl (J35 () _)
    · refine g_sub [1, 2, 3, 0] rfl (g_lp (fun (a8 : Int32) => [(0, .ref (G.2.1 t)), (1, .int x1), (2, .ref (G.2.1 7)), (3, .int a8)]) (fun rec12 ih11 a8 S9 => ?_) fl (0 : Int32) _)
      unfold bX0_settle_37
      refine g_iload_n 38 X 3 dX0_settle_37 rfl rfl rfl ?_
      refine g_aload_n 39 X 0 dX0_settle_38 rfl rfl rfl ?_
      refine g_geti 42 X (sBoard ht) flX0_9 rfl dX0_settle_39 rfl ?_
      refine g_icmp_ge 88 45 X dX0_settle_42 (by decide) rfl (fun _ => ?_) (fun _ => ?_)
      · exact g_sub [0, 1, 2] rfl (J10 a8 _)
      · refine g_iload_n 46 X 1 dX0_settle_45 rfl rfl rfl ?_
        refine g_iload_n 47 X 3 dX0_settle_46 rfl rfl rfl ?_
        refine g_cSi2 50 X (tX8_has _ _ (D + 1) _ _ _) mfX8_has msX8_has lkX0_50 (Nat.le_of_ble_eq_true rfl) dX0_settle_47 rfl (fun r13 S14 => ?_)
        refine g_joinK 82 (fun (t15 : Unit) => [(0, .ref (G.2.1 t)), (1, .int x1), (2, .ref (G.2.1 7)), (3, .int a8)]) (fun (t15 : Unit) => []) (fun t15 S16 => ?_) (fun J17 => ?_)
        · refine g_iinc 85 X 3 [(3, _), (0, _), (1, _), (2, _)] dX0_settle_82 rfl rfl (ii_1 _) (Nat.le_of_ble_eq_true rfl) rfl ?_
          refine g_goto 37 X dX0_settle_85 (by decide) ?_
          exact g_sub [1, 2, 3, 0] rfl (ih11 (a8 + (1 : Int32)) _)
        · refine g_if_eq 82 53 X dX0_settle_50 (by decide) rfl (fun _ => ?_) (fun _ => ?_)
          · exact g_sub [0, 1, 2, 3] rfl (J17 () _)
          · refine g_aload_n 54 X 0 dX0_settle_53 rfl rfl rfl ?_
            refine g_getr 57 X (t + 5) (sBoard ht) flX0_28 rfl dX0_settle_54 rfl ?_
            refine g_iload_n 58 X 3 dX0_settle_57 rfl rfl rfl ?_
            refine g_aload_n 59 X 0 dX0_settle_58 rfl rfl rfl ?_
            refine g_aload_n 60 X 0 dX0_settle_59 rfl rfl rfl ?_
            refine g_getr 63 X (t + 2) (sBoard ht) flX0_19 rfl dX0_settle_60 rfl ?_
            refine g_iload_n 64 X 3 dX0_settle_63 rfl rfl rfl ?_
            refine g_iald 65 X (sB8 ht 2 ⟨by decide, by decide⟩) dX0_settle_64 rfl ?_
            refine g_cVi1 68 X (tX0_onCell _ _ (D) _ ht _ _) mfX0_onCell miX0_onCell lkX0_54 (sBoard ht) rfl rfl (Nat.le_of_ble_eq_true rfl) dX0_settle_65 rfl (fun r18 S19 => ?_)
            refine g_iload_n 69 X 1 dX0_settle_68 rfl rfl rfl ?_
            refine g_iand 70 X dX0_settle_69 rfl ?_
            refine g_iast 71 X (sB8 ht 5 ⟨by decide, by decide⟩) dX0_settle_70 rfl ?_
            refine g_aload_n 72 X 0 dX0_settle_71 rfl rfl rfl ?_
            refine g_iload_n 73 X 3 dX0_settle_72 rfl rfl rfl ?_
            refine g_aload_n 74 X 0 dX0_settle_73 rfl rfl rfl ?_
            refine g_iload_n 75 X 3 dX0_settle_74 rfl rfl rfl ?_
            refine g_aload_n 76 X 2 dX0_settle_75 rfl rfl rfl ?_
            refine g_cVi2 79 X (tX0_goesIn _ _ (D) _ ht _ _) mfX0_goesIn miX0_goesIn lkX0_57 (sBoard ht) rfl rfl (Nat.le_of_ble_eq_true rfl) dX0_settle_76 rfl (fun r20 S21 => ?_)
            refine g_cVv2 82 X (tX0_settleStroke _ _ (D) _ ht _ _ _) mfX0_settleStroke miX0_settleStroke lkX0_61 (sBoard ht) rfl rfl (Nat.le_of_ble_eq_true rfl) dX0_settle_79 rfl (fun r22 S23 => ?_)
            exact g_sub [0, 1, 2, 3] rfl (J17 () _)
  · refine g_sub [1, 2, 3, 0] rfl (g_lp (fun (a1 : Int32) => [(0, .ref (G.2.1 t)), (1, .int x1), (2, .ref (G.2.1 7)), (3, .int a1)]) (fun rec5 ih4 a1 S2 => ?_) fl (0 : Int32) _)
    unfold bX0_settle_2
    refine g_iload_n 3 X 3 dX0_settle_2 rfl rfl rfl ?_
    refine g_bipush 5 X dX0_settle_3 rfl cb_20 ?_
    refine g_icmp_ge 35 8 X dX0_settle_5 (by decide) rfl (fun _ => ?_) (fun _ => ?_)
    · exact g_sub [0, 1, 2] rfl (J3 a1 _)
    · refine g_aload_n 9 X 0 dX0_settle_8 rfl rfl rfl ?_
      refine g_getr 12 X (t + 6) (sBoard ht) flX0_31 rfl dX0_settle_9 rfl ?_
      refine g_iload_n 13 X 3 dX0_settle_12 rfl rfl rfl ?_
      refine g_iconst 14 X dX0_settle_13 rfl ci_0 ?_
      refine g_iast 15 X (sB20 ht 6 ⟨by decide, by decide⟩) dX0_settle_14 rfl ?_
      refine g_aload_n 16 X 0 dX0_settle_15 rfl rfl rfl ?_
      refine g_getr 19 X (t + 7) (sBoard ht) flX0_34 rfl dX0_settle_16 rfl ?_
      refine g_iload_n 20 X 3 dX0_settle_19 rfl rfl rfl ?_
      refine g_iconst 21 X dX0_settle_20 rfl ci_0 ?_
      refine g_iast 22 X (sB20 ht 7 ⟨by decide, by decide⟩) dX0_settle_21 rfl ?_
      refine g_aload_n 23 X 0 dX0_settle_22 rfl rfl rfl ?_
      refine g_getr 26 X (t + 8) (sBoard ht) flX0_37 rfl dX0_settle_23 rfl ?_
      refine g_iload_n 27 X 3 dX0_settle_26 rfl rfl rfl ?_
      refine g_iconst 28 X dX0_settle_27 rfl ci_0 ?_
      refine g_iast 29 X (sB20 ht 8 ⟨by decide, by decide⟩) dX0_settle_28 rfl ?_
      refine g_iinc 32 X 3 [(3, _), (0, _), (1, _), (2, _)] dX0_settle_29 rfl rfl (ii_1 _) (Nat.le_of_ble_eq_true rfl) rfl ?_
      refine g_goto 2 X dX0_settle_32 (by decide) ?_
      exact g_sub [1, 2, 3, 0] rfl (ih4 (a1 + (1 : Int32)) _)
def bX0_freshStrengths_4 (c0 : Nat) (rec : (Int32 × Int32) → Sg → Option ((Int32 × Int32) × Sg)) (a1 : Int32 × Int32) (S2 : Sg) : Option ((Int32 × Int32) × Sg) :=
  (if (S2.1 c0 0) ≤ a1.2 then some ((a1.1, a1.2), S2) else gd (ix a1.2 8) (rec ((a1.1 ||| ((S2.1 (c0 + 4) (Int32.toNatClampNeg a1.2)) <<< (((4 : Int32) * a1.2) &&& 31))), (a1.2 + (1 : Int32))) S2))
def fX0_freshStrengths (t : Nat) (S : Sg) : Option (Int32 × Sg) :=
  bd (lp (bX0_freshStrengths_4 t) fl ((0 : Int32), (0 : Int32)) S) (fun (a6 : Int32 × Int32) S7 => some (a6.1, S7))
set_option maxHeartbeats 4000000 in
set_option maxRecDepth 100000 in
theorem tX0_freshStrengths (G : Gd) (l : Launch) (D : Nat) (t : Nat) (ht : isBoard t) (S : Sg) : Ct LC G l rI yX0_freshStrengths cX0_freshStrengths 3 (some .int) (D + 0) [.ref (G.2.1 t)] S (fX0_freshStrengths t S) := by
  refine Ct.of (by decide) (Nat.le_of_ble_eq_true rfl) (fun Z hZ X => ?_)
  subst hZ
  show Go LC G Z 3 rI 0 [(0, .ref (G.2.1 t))] [] S (fX0_freshStrengths t S) kz
  unfold fX0_freshStrengths
  refine g_iconst 1 X dX0_freshStrengths_0 rfl ci_0 ?_
  refine g_istore_n 2 X [(1, _), (0, _)] dX0_freshStrengths_1 rfl rfl (Nat.le_of_ble_eq_true rfl) rfl ?_
  refine g_iconst 3 X dX0_freshStrengths_2 rfl ci_0 ?_
  refine g_istore_n 4 X [(2, _), (1, _), (0, _)] dX0_freshStrengths_3 rfl rfl (Nat.le_of_ble_eq_true rfl) rfl ?_
  refine g_joinK 31 (fun (a6 : Int32 × Int32) => [(1, .int a6.1)]) (fun (a6 : Int32 × Int32) => []) (fun a6 S7 => ?_) (fun J3 => ?_)
  · refine g_iload_n 32 X 0 dX0_freshStrengths_31 rfl rfl rfl ?_
    exact g_iret X dX0_freshStrengths_32 rfl
  · refine g_sub [2, 1, 0] rfl (g_lp (fun (a1 : Int32 × Int32) => [(0, .ref (G.2.1 t)), (1, .int a1.1), (2, .int a1.2)]) (fun rec5 ih4 a1 S2 => ?_) fl ((0 : Int32), (0 : Int32)) _)
    unfold bX0_freshStrengths_4
    refine g_iload_n 5 X 2 dX0_freshStrengths_4 rfl rfl rfl ?_
    refine g_aload_n 6 X 0 dX0_freshStrengths_5 rfl rfl rfl ?_
    refine g_geti 9 X (sBoard ht) flX0_9 rfl dX0_freshStrengths_6 rfl ?_
    refine g_icmp_ge 31 12 X dX0_freshStrengths_9 (by decide) rfl (fun _ => ?_) (fun _ => ?_)
    · exact g_sub [1] rfl (J3 (a1.1, a1.2) _)
    · refine g_iload_n 13 X 1 dX0_freshStrengths_12 rfl rfl rfl ?_
      refine g_aload_n 14 X 0 dX0_freshStrengths_13 rfl rfl rfl ?_
      refine g_getr 17 X (t + 4) (sBoard ht) flX0_25 rfl dX0_freshStrengths_14 rfl ?_
      refine g_iload_n 18 X 2 dX0_freshStrengths_17 rfl rfl rfl ?_
      refine g_iald 19 X (sB8 ht 4 ⟨by decide, by decide⟩) dX0_freshStrengths_18 rfl ?_
      refine g_iconst 20 X dX0_freshStrengths_19 rfl ci_4 ?_
      refine g_iload_n 21 X 2 dX0_freshStrengths_20 rfl rfl rfl ?_
      refine g_imul 22 X dX0_freshStrengths_21 rfl ?_
      refine g_ishl 23 X dX0_freshStrengths_22 rfl ?_
      refine g_ior 24 X dX0_freshStrengths_23 rfl ?_
      refine g_istore_n 25 X [(1, _), (0, _), (2, _)] dX0_freshStrengths_24 rfl rfl (Nat.le_of_ble_eq_true rfl) rfl ?_
      refine g_iinc 28 X 2 [(2, _), (1, _), (0, _)] dX0_freshStrengths_25 rfl rfl (ii_1 _) (Nat.le_of_ble_eq_true rfl) rfl ?_
      refine g_goto 4 X dX0_freshStrengths_28 (by decide) ?_
      exact g_sub [2, 1, 0] rfl (ih4 ((a1.1 ||| ((S2.1 (t + 4) (Int32.toNatClampNeg a1.2)) <<< (((4 : Int32) * a1.2) &&& 31))), (a1.2 + (1 : Int32))) _)
def bX0_strongest_8 (c0 : Nat) (c1 : Int32) (c2 : Int32) (rec : (Int32 × Int32 × Int32) → Sg → Option ((Int32 × Int32 × Int32) × Sg)) (a1 : Int32 × Int32 × Int32) (S2 : Sg) : Option ((Int32 × Int32 × Int32) × Sg) :=
  (if (S2.1 c0 0) ≤ a1.2.2 then some ((a1.1, a1.2.1, a1.2.2), S2) else bd ((if ((ush c1 ((4 : Int32) * a1.2.2)) &&& (1 : Int32)) = 0 then some ((a1.1, a1.2.1), S2) else (if ((ush c2 ((4 : Int32) * a1.2.2)) &&& (15 : Int32)) < a1.2.1 then some ((a1.1, a1.2.1), S2) else some ((a1.2.2, ((ush c2 ((4 : Int32) * a1.2.2)) &&& (15 : Int32))), S2)))) (fun (t3 : Int32 × Int32) S4 => rec (t3.1, t3.2, (a1.2.2 + (1 : Int32))) S4))
def fX0_strongest (t : Nat) (x1 : Int32) (x2 : Int32) (S : Sg) : Option (Int32 × Sg) :=
  bd (lp (bX0_strongest_8 t x1 x2) fl ((0 : Int32), (-1 : Int32), (0 : Int32)) S) (fun (a9 : Int32 × Int32 × Int32) S10 => some (a9.1, S10))
set_option maxHeartbeats 4000000 in
set_option maxRecDepth 100000 in
theorem tX0_strongest (G : Gd) (l : Launch) (D : Nat) (t : Nat) (ht : isBoard t) (x1 : Int32) (x2 : Int32) (S : Sg) : Ct LC G l rI yX0_strongest cX0_strongest 7 (some .int) (D + 0) [.ref (G.2.1 t), .int x1, .int x2] S (fX0_strongest t x1 x2 S) := by
  refine Ct.of (by decide) (Nat.le_of_ble_eq_true rfl) (fun Z hZ X => ?_)
  subst hZ
  show Go LC G Z 7 rI 0 [(0, .ref (G.2.1 t)), (1, .int x1), (2, .int x2)] [] S (fX0_strongest t x1 x2 S) kz
  unfold fX0_strongest
  refine g_iconst 1 X dX0_strongest_0 rfl ci_0 ?_
  refine g_istore_n 2 X [(3, _), (0, _), (1, _), (2, _)] dX0_strongest_1 rfl rfl (Nat.le_of_ble_eq_true rfl) rfl ?_
  refine g_iconst 3 X dX0_strongest_2 rfl ci_m1 ?_
  refine g_istore 5 X [(4, _), (3, _), (0, _), (1, _), (2, _)] dX0_strongest_3 rfl (Nat.le_of_ble_eq_true rfl) rfl ?_
  refine g_iconst 6 X dX0_strongest_5 rfl ci_0 ?_
  refine g_istore 8 X [(5, _), (4, _), (3, _), (0, _), (1, _), (2, _)] dX0_strongest_6 rfl (Nat.le_of_ble_eq_true rfl) rfl ?_
  refine g_joinK 59 (fun (a9 : Int32 × Int32 × Int32) => [(3, .int a9.1)]) (fun (a9 : Int32 × Int32 × Int32) => []) (fun a9 S10 => ?_) (fun J3 => ?_)
  · refine g_iload_n 60 X 0 dX0_strongest_59 rfl rfl rfl ?_
    exact g_iret X dX0_strongest_60 rfl
  · refine g_sub [3, 4, 5, 2, 1, 0] rfl (g_lp (fun (a1 : Int32 × Int32 × Int32) => [(0, .ref (G.2.1 t)), (1, .int x1), (2, .int x2), (3, .int a1.1), (4, .int a1.2.1), (5, .int a1.2.2)]) (fun rec5 ih4 a1 S2 => ?_) fl ((0 : Int32), (-1 : Int32), (0 : Int32)) _)
    unfold bX0_strongest_8
    refine g_iload 10 X 5 dX0_strongest_8 rfl rfl ?_
    refine g_aload_n 11 X 0 dX0_strongest_10 rfl rfl rfl ?_
    refine g_geti 14 X (sBoard ht) flX0_9 rfl dX0_strongest_11 rfl ?_
    refine g_icmp_ge 59 17 X dX0_strongest_14 (by decide) rfl (fun _ => ?_) (fun _ => ?_)
    · exact g_sub [3] rfl (J3 (a1.1, a1.2.1, a1.2.2) _)
    · refine g_iload_n 18 X 2 dX0_strongest_17 rfl rfl rfl ?_
      refine g_iconst 19 X dX0_strongest_18 rfl ci_4 ?_
      refine g_iload 21 X 5 dX0_strongest_19 rfl rfl ?_
      refine g_imul 22 X dX0_strongest_21 rfl ?_
      refine g_iushr 23 X dX0_strongest_22 rfl ?_
      refine g_bipush 25 X dX0_strongest_23 rfl cb_15 ?_
      refine g_iand 26 X dX0_strongest_25 rfl ?_
      refine g_istore 28 X [(6, _), (0, _), (1, _), (2, _), (3, _), (4, _), (5, _)] dX0_strongest_26 rfl (Nat.le_of_ble_eq_true rfl) rfl ?_
      refine g_iload_n 29 X 2 dX0_strongest_28 rfl rfl rfl ?_
      refine g_iconst 30 X dX0_strongest_29 rfl ci_4 ?_
      refine g_iload 32 X 6 dX0_strongest_30 rfl rfl ?_
      refine g_imul 33 X dX0_strongest_32 rfl ?_
      refine g_iushr 34 X dX0_strongest_33 rfl ?_
      refine g_iconst 35 X dX0_strongest_34 rfl ci_1 ?_
      refine g_iand 36 X dX0_strongest_35 rfl ?_
      refine g_joinK 53 (fun (t6 : Int32 × Int32) => [(0, .ref (G.2.1 t)), (1, .int x1), (2, .int x2), (3, .int t6.1), (4, .int t6.2), (5, .int a1.2.2)]) (fun (t6 : Int32 × Int32) => []) (fun t6 S7 => ?_) (fun J8 => ?_)
      · refine g_iinc 56 X 5 [(5, _), (0, _), (1, _), (2, _), (3, _), (4, _)] dX0_strongest_53 rfl rfl (ii_1 _) (Nat.le_of_ble_eq_true rfl) rfl ?_
        refine g_goto 8 X dX0_strongest_56 (by decide) ?_
        exact g_sub [1, 2, 3, 4, 5, 0] rfl (ih4 (t6.1, t6.2, (a1.2.2 + (1 : Int32))) _)
      · refine g_if_eq 53 39 X dX0_strongest_36 (by decide) rfl (fun _ => ?_) (fun _ => ?_)
        · exact g_sub [1, 2, 3, 4, 5, 6] rfl (J8 (a1.1, a1.2.1) _)
        · refine g_iload 41 X 0 dX0_strongest_39 rfl rfl ?_
          refine g_iload 43 X 5 dX0_strongest_41 rfl rfl ?_
          refine g_icmp_lt 53 46 X dX0_strongest_43 (by decide) rfl (fun _ => ?_) (fun _ => ?_)
          · exact g_sub [1, 2, 3, 4, 5, 6] rfl (J8 (a1.1, a1.2.1) _)
          · refine g_iload 48 X 6 dX0_strongest_46 rfl rfl ?_
            refine g_istore_n 49 X [(3, _), (6, _), (0, _), (1, _), (2, _), (4, _), (5, _)] dX0_strongest_48 rfl rfl (Nat.le_of_ble_eq_true rfl) rfl ?_
            refine g_iload 51 X 1 dX0_strongest_49 rfl rfl ?_
            refine g_istore 53 X [(4, _), (3, _), (6, _), (0, _), (1, _), (2, _), (5, _)] dX0_strongest_51 rfl (Nat.le_of_ble_eq_true rfl) rfl ?_
            exact g_sub [3, 4, 5, 1, 0, 6] rfl (J8 (a1.2.2, ((ush x2 ((4 : Int32) * a1.2.2)) &&& (15 : Int32))) _)
def fX8_strengthIn (x0 : Int32) (x1 : Int32) (S : Sg) : Option (Int32 × Sg) :=
  some (((ush x0 ((4 : Int32) * x1)) &&& (15 : Int32)), S)
set_option maxHeartbeats 4000000 in
set_option maxRecDepth 100000 in
theorem tX8_strengthIn (G : Gd) (l : Launch) (D : Nat) (x0 : Int32) (x1 : Int32) (S : Sg) : Ct LC G l rI yX8_strengthIn cX8_strengthIn 2 (some .int) (D + 0) [.int x0, .int x1] S (fX8_strengthIn x0 x1 S) := by
  refine Ct.of (by decide) (Nat.le_of_ble_eq_true rfl) (fun Z hZ X => ?_)
  subst hZ
  show Go LC G Z 2 rI 0 [(0, .int x0), (1, .int x1)] [] S (fX8_strengthIn x0 x1 S) kz
  unfold fX8_strengthIn
  refine g_iload_n 1 X 0 dX8_strengthIn_0 rfl rfl rfl ?_
  refine g_iconst 2 X dX8_strengthIn_1 rfl ci_4 ?_
  refine g_iload_n 3 X 1 dX8_strengthIn_2 rfl rfl rfl ?_
  refine g_imul 4 X dX8_strengthIn_3 rfl ?_
  refine g_iushr 5 X dX8_strengthIn_4 rfl ?_
  refine g_bipush 7 X dX8_strengthIn_5 rfl cb_15 ?_
  refine g_iand 8 X dX8_strengthIn_7 rfl ?_
  exact g_iret X dX8_strengthIn_8 rfl
def bX0_risenOn_22 (c0 : Nat) (c2 : Int32) (c3 : Int32) (rec : (Int32 × Int32 × Int32) → Sg → Option ((Int32 × Int32 × Int32) × Sg)) (a4 : Int32 × Int32 × Int32) (S5 : Sg) : Option ((Int32 × Int32 × Int32) × Sg) :=
  (if (S5.1 c0 0) ≤ a4.2.2 then some ((a4.1, a4.2.1, a4.2.2), S5) else (if a4.1 = 0 then some ((a4.1, a4.2.1, a4.2.2), S5) else bd (fX8_has a4.1 a4.2.2 S5) (fun r6 S7 => bd ((if r6 = 0 then some ((a4.1, a4.2.1), S7) else gd (ix a4.2.2 8) (bd (fX8_only a4.2.2 S7) (fun r11 S12 => bd ((if (a4.1 &&& (S7.1 (c0 + 5) (Int32.toNatClampNeg a4.2.2))) = r11 then some (a4.2.2, S12) else bd (fX0_strongest c0 (a4.1 &&& (S7.1 (c0 + 5) (Int32.toNatClampNeg a4.2.2))) c3 S12) (fun r16 S17 => some (r16, S17)))) (fun (t13 : Int32) S14 => bd (fX8_strengthIn c3 t13 S14) (fun r18 S19 => bd ((if (r18 + c2) < (10 : Int32) then some (a4.2.1, S19) else bd (fX8_only t13 S19) (fun r23 S24 => some ((a4.2.1 ||| r23), S24)))) (fun (t20 : Int32) S21 => some (((a4.1 &&& ((a4.1 &&& (S7.1 (c0 + 5) (Int32.toNatClampNeg a4.2.2))) ^^^ (-1 : Int32))), t20), S21)))))))) (fun (t8 : Int32 × Int32) S9 => rec (t8.1, t8.2, (a4.2.2 + (1 : Int32))) S9))))
def fX0_risenOn (t : Nat) (x1 : Int32) (x2 : Int32) (x3 : Int32) (S : Sg) : Option (Int32 × Sg) :=
  bd ((if x2 ≤ 0 then some ((0 : Int32), S) else gd (ix x1 20) (some ((S.1 (t + 8) (Int32.toNatClampNeg x1)), S)))) (fun (t1 : Int32) S2 => bd (lp (bX0_risenOn_22 t x2 x3) fl (t1, (0 : Int32), (0 : Int32)) S2) (fun (a28 : Int32 × Int32 × Int32) S29 => some (a28.2.1, S29)))
set_option maxHeartbeats 4000000 in
set_option maxRecDepth 100000 in
theorem tX0_risenOn (G : Gd) (l : Launch) (D : Nat) (t : Nat) (ht : isBoard t) (x1 : Int32) (x2 : Int32) (x3 : Int32) (S : Sg) : Ct LC G l rI yX0_risenOn cX0_risenOn 9 (some .int) (D + 1) [.ref (G.2.1 t), .int x1, .int x2, .int x3] S (fX0_risenOn t x1 x2 x3 S) := by
  refine Ct.of (by decide) (Nat.le_of_ble_eq_true rfl) (fun Z hZ X => ?_)
  subst hZ
  show Go LC G Z 9 rI 0 [(0, .ref (G.2.1 t)), (1, .int x1), (2, .int x2), (3, .int x3)] [] S (fX0_risenOn t x1 x2 x3 S) kz
  unfold fX0_risenOn
  refine g_iload_n 1 X 2 dX0_risenOn_0 rfl rfl rfl ?_
  refine g_joinK 14 (fun (t1 : Int32) => [(0, .ref (G.2.1 t)), (2, .int x2), (3, .int x3)]) (fun (t1 : Int32) => [.int t1]) (fun t1 S2 => ?_) (fun J3 => ?_)
  · refine g_istore 16 X [(4, _), (0, _), (2, _), (3, _)] dX0_risenOn_14 rfl (Nat.le_of_ble_eq_true rfl) rfl ?_
    refine g_iconst 17 X dX0_risenOn_16 rfl ci_0 ?_
    refine g_istore 19 X [(5, _), (4, _), (0, _), (2, _), (3, _)] dX0_risenOn_17 rfl (Nat.le_of_ble_eq_true rfl) rfl ?_
    refine g_iconst 20 X dX0_risenOn_19 rfl ci_0 ?_
    refine g_istore 22 X [(6, _), (5, _), (4, _), (0, _), (2, _), (3, _)] dX0_risenOn_20 rfl (Nat.le_of_ble_eq_true rfl) rfl ?_
    refine g_joinK 120 (fun (a28 : Int32 × Int32 × Int32) => [(5, .int a28.2.1)]) (fun (a28 : Int32 × Int32 × Int32) => []) (fun a28 S29 => ?_) (fun J6 => ?_)
    · refine g_iload 122 X 0 dX0_risenOn_120 rfl rfl ?_
      exact g_iret X dX0_risenOn_122 rfl
    · refine g_sub [3, 4, 5, 2, 1, 0] rfl (g_lp (fun (a4 : Int32 × Int32 × Int32) => [(0, .ref (G.2.1 t)), (2, .int x2), (3, .int x3), (4, .int a4.1), (5, .int a4.2.1), (6, .int a4.2.2)]) (fun rec8 ih7 a4 S5 => ?_) fl (t1, (0 : Int32), (0 : Int32)) _)
      unfold bX0_risenOn_22
      refine g_iload 24 X 5 dX0_risenOn_22 rfl rfl ?_
      refine g_aload_n 25 X 0 dX0_risenOn_24 rfl rfl rfl ?_
      refine g_geti 28 X (sBoard ht) flX0_9 rfl dX0_risenOn_25 rfl ?_
      refine g_icmp_ge 120 31 X dX0_risenOn_28 (by decide) rfl (fun _ => ?_) (fun _ => ?_)
      · exact g_sub [4] rfl (J6 (a4.1, a4.2.1, a4.2.2) _)
      · refine g_iload 33 X 3 dX0_risenOn_31 rfl rfl ?_
        refine g_if_eq 120 36 X dX0_risenOn_33 (by decide) rfl (fun _ => ?_) (fun _ => ?_)
        · exact g_sub [4] rfl (J6 (a4.1, a4.2.1, a4.2.2) _)
        · refine g_iload 38 X 3 dX0_risenOn_36 rfl rfl ?_
          refine g_iload 40 X 5 dX0_risenOn_38 rfl rfl ?_
          refine g_cSi2 43 X (tX8_has _ _ (D) _ _ _) mfX8_has msX8_has lkX0_50 (Nat.le_of_ble_eq_true rfl) dX0_risenOn_40 rfl (fun r9 S10 => ?_)
          refine g_joinK 114 (fun (t11 : Int32 × Int32) => [(0, .ref (G.2.1 t)), (2, .int x2), (3, .int x3), (4, .int t11.1), (5, .int t11.2), (6, .int a4.2.2)]) (fun (t11 : Int32 × Int32) => []) (fun t11 S12 => ?_) (fun J13 => ?_)
          · refine g_iinc 117 X 5 [(6, _), (0, _), (2, _), (3, _), (4, _), (5, _)] dX0_risenOn_114 rfl rfl (ii_1 _) (Nat.le_of_ble_eq_true rfl) rfl ?_
            refine g_goto 22 X dX0_risenOn_117 (by decide) ?_
            exact g_sub [1, 2, 3, 4, 5, 0] rfl (ih7 (t11.1, t11.2, (a4.2.2 + (1 : Int32))) _)
          · refine g_if_eq 114 46 X dX0_risenOn_43 (by decide) rfl (fun _ => ?_) (fun _ => ?_)
            · exact g_sub [0, 1, 2, 3, 4, 5] rfl (J13 (a4.1, a4.2.1) _)
            · refine g_iload 48 X 3 dX0_risenOn_46 rfl rfl ?_
              refine g_aload_n 49 X 0 dX0_risenOn_48 rfl rfl rfl ?_
              refine g_getr 52 X (t + 5) (sBoard ht) flX0_28 rfl dX0_risenOn_49 rfl ?_
              refine g_iload 54 X 5 dX0_risenOn_52 rfl rfl ?_
              refine g_iald 55 X (sB8 ht 5 ⟨by decide, by decide⟩) dX0_risenOn_54 rfl ?_
              refine g_iand 56 X dX0_risenOn_55 rfl ?_
              refine g_istore 58 X [(7, _), (0, _), (2, _), (3, _), (4, _), (5, _), (6, _)] dX0_risenOn_56 rfl (Nat.le_of_ble_eq_true rfl) rfl ?_
              refine g_iload 60 X 0 dX0_risenOn_58 rfl rfl ?_
              refine g_iload 62 X 6 dX0_risenOn_60 rfl rfl ?_
              refine g_cSi1 65 X (tX8_only _ _ (D) _ _) mfX8_only msX8_only lkX0_46 (Nat.le_of_ble_eq_true rfl) dX0_risenOn_62 rfl (fun r14 S15 => ?_)
              refine g_joinK 80 (fun (t16 : Int32) => [(0, .ref (G.2.1 t)), (2, .int x2), (3, .int x3), (4, .int a4.1), (5, .int a4.2.1), (6, .int a4.2.2), (7, .int (a4.1 &&& (S10.1 (t + 5) (Int32.toNatClampNeg a4.2.2))))]) (fun (t16 : Int32) => [.int t16]) (fun t16 S17 => ?_) (fun J18 => ?_)
              · refine g_istore 82 X [(8, _), (0, _), (2, _), (3, _), (4, _), (5, _), (6, _), (7, _)] dX0_risenOn_80 rfl (Nat.le_of_ble_eq_true rfl) rfl ?_
                refine g_iload_n 83 X 3 dX0_risenOn_82 rfl rfl rfl ?_
                refine g_iload 85 X 0 dX0_risenOn_83 rfl rfl ?_
                refine g_cSi2 88 X (tX8_strengthIn _ _ (D) _ _ _) mfX8_strengthIn msX8_strengthIn lkX0_88 (Nat.le_of_ble_eq_true rfl) dX0_risenOn_85 rfl (fun r21 S22 => ?_)
                refine g_iload_n 89 X 2 dX0_risenOn_88 rfl rfl rfl ?_
                refine g_iadd 90 X dX0_risenOn_89 rfl ?_
                refine g_bipush 92 X dX0_risenOn_90 rfl cb_10 ?_
                refine g_joinK 105 (fun (t23 : Int32) => [(0, .ref (G.2.1 t)), (2, .int x2), (3, .int x3), (4, .int a4.1), (5, .int t23), (6, .int a4.2.2), (7, .int (a4.1 &&& (S10.1 (t + 5) (Int32.toNatClampNeg a4.2.2))))]) (fun (t23 : Int32) => []) (fun t23 S24 => ?_) (fun J25 => ?_)
                · refine g_iload 107 X 3 dX0_risenOn_105 rfl rfl ?_
                  refine g_iload 109 X 6 dX0_risenOn_107 rfl rfl ?_
                  refine g_iconst 110 X dX0_risenOn_109 rfl ci_m1 ?_
                  refine g_ixor 111 X dX0_risenOn_110 rfl ?_
                  refine g_iand 112 X dX0_risenOn_111 rfl ?_
                  refine g_istore 114 X [(4, _), (0, _), (2, _), (3, _), (5, _), (6, _), (7, _)] dX0_risenOn_112 rfl (Nat.le_of_ble_eq_true rfl) rfl ?_
                  exact g_sub [1, 2, 3, 0, 4, 5] rfl (J13 ((a4.1 &&& ((a4.1 &&& (S10.1 (t + 5) (Int32.toNatClampNeg a4.2.2))) ^^^ (-1 : Int32))), t23) _)
                · refine g_icmp_lt 105 95 X dX0_risenOn_92 (by decide) rfl (fun _ => ?_) (fun _ => ?_)
                  · exact g_sub [1, 2, 3, 4, 5, 6, 7] rfl (J25 a4.2.1 _)
                  · refine g_iload 97 X 5 dX0_risenOn_95 rfl rfl ?_
                    refine g_iload 99 X 0 dX0_risenOn_97 rfl rfl ?_
                    refine g_cSi1 102 X (tX8_only _ _ (D) _ _) mfX8_only msX8_only lkX0_46 (Nat.le_of_ble_eq_true rfl) dX0_risenOn_99 rfl (fun r26 S27 => ?_)
                    refine g_ior 103 X dX0_risenOn_102 rfl ?_
                    refine g_istore 105 X [(5, _), (8, _), (0, _), (2, _), (3, _), (4, _), (6, _), (7, _)] dX0_risenOn_103 rfl (Nat.le_of_ble_eq_true rfl) rfl ?_
                    exact g_sub [2, 3, 4, 5, 0, 6, 7] rfl (J25 (a4.2.1 ||| r26) _)
              · refine g_icmp_ne 73 68 X dX0_risenOn_65 (by decide) rfl (fun _ => ?_) (fun _ => ?_)
                · refine g_aload_n 74 X 1 dX0_risenOn_73 rfl rfl rfl ?_
                  refine g_iload 76 X 0 dX0_risenOn_74 rfl rfl ?_
                  refine g_iload_n 77 X 3 dX0_risenOn_76 rfl rfl rfl ?_
                  refine g_cVi2 80 X (tX0_strongest _ _ (D) _ ht _ _ _) mfX0_strongest miX0_strongest lkX0_85 (sBoard ht) rfl rfl (Nat.le_of_ble_eq_true rfl) dX0_risenOn_77 rfl (fun r19 S20 => ?_)
                  exact g_sub [1, 2, 3, 4, 5, 6, 0] rfl (J18 r19 _)
                · refine g_iload 70 X 6 dX0_risenOn_68 rfl rfl ?_
                  refine g_goto 80 X dX0_risenOn_70 (by decide) ?_
                  exact g_sub [1, 2, 3, 4, 5, 6, 0] rfl (J18 a4.2.2 _)
  · refine g_if_le 13 4 X dX0_risenOn_1 (by decide) rfl (fun _ => ?_) (fun _ => ?_)
    · refine g_iconst 14 X dX0_risenOn_13 rfl ci_0 ?_
      exact g_sub [0, 2, 3] rfl (J3 (0 : Int32) _)
    · refine g_aload_n 5 X 0 dX0_risenOn_4 rfl rfl rfl ?_
      refine g_getr 8 X (t + 8) (sBoard ht) flX0_37 rfl dX0_risenOn_5 rfl ?_
      refine g_iload_n 9 X 1 dX0_risenOn_8 rfl rfl rfl ?_
      refine g_iald 10 X (sB20 ht 8 ⟨by decide, by decide⟩) dX0_risenOn_9 rfl ?_
      refine g_goto 14 X dX0_risenOn_10 (by decide) ?_
      exact g_sub [0, 2, 3] rfl (J3 (S.1 (t + 8) (Int32.toNatClampNeg x1)) _)
def fX0_weathered (t : Nat) (x1 : Int32) (x2 : Int32) (x3 : Int32) (x4 : Int32) (S : Sg) : Option (Int32 × Sg) :=
  bd ((if x4 = 0 then some ((0 : Int32), S) else gd (ix x1 20) (some (((S.1 (t + 7) (Int32.toNatClampNeg x1)) &&& (x2 ^^^ (-1 : Int32))), S)))) (fun (t1 : Int32) S2 => some (((x3 + (x2 &&& ((x3 &&& (ush x3 (3 : Int32))) ^^^ (-1 : Int32)))) - (t1 &&& (((x3 ||| (ush x3 (1 : Int32))) ||| (ush x3 (2 : Int32))) ||| (ush x3 (3 : Int32))))), S2))
set_option maxHeartbeats 4000000 in
set_option maxRecDepth 100000 in
theorem tX0_weathered (G : Gd) (l : Launch) (D : Nat) (t : Nat) (ht : isBoard t) (x1 : Int32) (x2 : Int32) (x3 : Int32) (x4 : Int32) (S : Sg) : Ct LC G l rI yX0_weathered cX0_weathered 8 (some .int) (D + 0) [.ref (G.2.1 t), .int x1, .int x2, .int x3, .int x4] S (fX0_weathered t x1 x2 x3 x4 S) := by
  refine Ct.of (by decide) (Nat.le_of_ble_eq_true rfl) (fun Z hZ X => ?_)
  subst hZ
  show Go LC G Z 8 rI 0 [(0, .ref (G.2.1 t)), (1, .int x1), (2, .int x2), (3, .int x3), (4, .int x4)] [] S (fX0_weathered t x1 x2 x3 x4 S) kz
  unfold fX0_weathered
  refine g_iload_n 1 X 3 dX0_weathered_0 rfl rfl rfl ?_
  refine g_iload_n 2 X 3 dX0_weathered_1 rfl rfl rfl ?_
  refine g_iconst 3 X dX0_weathered_2 rfl ci_3 ?_
  refine g_iushr 4 X dX0_weathered_3 rfl ?_
  refine g_iand 5 X dX0_weathered_4 rfl ?_
  refine g_istore 7 X [(5, _), (0, _), (1, _), (2, _), (3, _), (4, _)] dX0_weathered_5 rfl (Nat.le_of_ble_eq_true rfl) rfl ?_
  refine g_iload_n 8 X 4 dX0_weathered_7 rfl rfl rfl ?_
  refine g_iload_n 9 X 4 dX0_weathered_8 rfl rfl rfl ?_
  refine g_iconst 10 X dX0_weathered_9 rfl ci_1 ?_
  refine g_iushr 11 X dX0_weathered_10 rfl ?_
  refine g_ior 12 X dX0_weathered_11 rfl ?_
  refine g_iload_n 13 X 4 dX0_weathered_12 rfl rfl rfl ?_
  refine g_iconst 14 X dX0_weathered_13 rfl ci_2 ?_
  refine g_iushr 15 X dX0_weathered_14 rfl ?_
  refine g_ior 16 X dX0_weathered_15 rfl ?_
  refine g_iload_n 17 X 4 dX0_weathered_16 rfl rfl rfl ?_
  refine g_iconst 18 X dX0_weathered_17 rfl ci_3 ?_
  refine g_iushr 19 X dX0_weathered_18 rfl ?_
  refine g_ior 20 X dX0_weathered_19 rfl ?_
  refine g_istore 22 X [(6, _), (5, _), (0, _), (1, _), (2, _), (3, _), (4, _)] dX0_weathered_20 rfl (Nat.le_of_ble_eq_true rfl) rfl ?_
  refine g_iload 24 X 6 dX0_weathered_22 rfl rfl ?_
  refine g_joinK 41 (fun (t1 : Int32) => [(2, .int x2), (3, .int x3), (5, .int (x3 &&& (ush x3 (3 : Int32)))), (6, .int (((x3 ||| (ush x3 (1 : Int32))) ||| (ush x3 (2 : Int32))) ||| (ush x3 (3 : Int32))))]) (fun (t1 : Int32) => [.int t1]) (fun t1 S2 => ?_) (fun J3 => ?_)
  · refine g_istore 43 X [(7, _), (2, _), (3, _), (5, _), (6, _)] dX0_weathered_41 rfl (Nat.le_of_ble_eq_true rfl) rfl ?_
    refine g_iload_n 44 X 2 dX0_weathered_43 rfl rfl rfl ?_
    refine g_iload_n 45 X 1 dX0_weathered_44 rfl rfl rfl ?_
    refine g_iload 47 X 3 dX0_weathered_45 rfl rfl ?_
    refine g_iconst 48 X dX0_weathered_47 rfl ci_m1 ?_
    refine g_ixor 49 X dX0_weathered_48 rfl ?_
    refine g_iand 50 X dX0_weathered_49 rfl ?_
    refine g_iadd 51 X dX0_weathered_50 rfl ?_
    refine g_iload 53 X 0 dX0_weathered_51 rfl rfl ?_
    refine g_iload 55 X 4 dX0_weathered_53 rfl rfl ?_
    refine g_iand 56 X dX0_weathered_55 rfl ?_
    refine g_isub 57 X dX0_weathered_56 rfl ?_
    exact g_iret X dX0_weathered_57 rfl
  · refine g_if_eq 40 27 X dX0_weathered_24 (by decide) rfl (fun _ => ?_) (fun _ => ?_)
    · refine g_iconst 41 X dX0_weathered_40 rfl ci_0 ?_
      exact g_sub [4, 5, 1, 0] rfl (J3 (0 : Int32) _)
    · refine g_aload_n 28 X 2 dX0_weathered_27 rfl rfl rfl ?_
      refine g_getr 31 X (t + 7) (sBoard ht) flX0_34 rfl dX0_weathered_28 rfl ?_
      refine g_iload_n 32 X 3 dX0_weathered_31 rfl rfl rfl ?_
      refine g_iald 33 X (sB20 ht 7 ⟨by decide, by decide⟩) dX0_weathered_32 rfl ?_
      refine g_iload_n 34 X 4 dX0_weathered_33 rfl rfl rfl ?_
      refine g_iconst 35 X dX0_weathered_34 rfl ci_m1 ?_
      refine g_ixor 36 X dX0_weathered_35 rfl ?_
      refine g_iand 37 X dX0_weathered_36 rfl ?_
      refine g_goto 41 X dX0_weathered_37 (by decide) ?_
      exact g_sub [4, 5, 1, 0] rfl (J3 ((S.1 (t + 7) (Int32.toNatClampNeg x1)) &&& (x2 ^^^ (-1 : Int32))) _)
def bX0_shownOn_3 (c0 : Nat) (c1 : Int32) (c2 : Int32) (c3 : Int32) (rec : Int32 → Sg → Option (((Int32) ⊕ Int32) × Sg)) (a1 : Int32) (S2 : Sg) : Option (((Int32) ⊕ Int32) × Sg) :=
  (if (S2.1 c0 0) ≤ a1 then some (.inl a1, S2) else gd (ix a1 8) ((if (S2.1 (c0 + 2) (Int32.toNatClampNeg a1)) = c2 then gd (ix c1 20) (bd (fX8_has (S2.1 (c0 + 6) (Int32.toNatClampNeg c1)) a1 S2) (fun r3 S4 => (if r3 = 0 then bd (fX8_has c3 a1 S4) (fun r5 S6 => (if r5 = 0 then rec (a1 + (1 : Int32)) S6 else gd (ix a1 8) (some (.inr ((6 : Int32) + (S6.1 (c0 + 3) (Int32.toNatClampNeg a1))), S6)))) else gd (ix a1 8) (some (.inr (S4.1 (c0 + 3) (Int32.toNatClampNeg a1)), S4))))) else rec (a1 + (1 : Int32)) S2)))
def fX0_shownOn (t : Nat) (x1 : Int32) (x2 : Int32) (x3 : Int32) (S : Sg) : Option (Int32 × Sg) :=
  bd (lp (bX0_shownOn_3 t x1 x2 x3) fl (0 : Int32) S) (se (fun (a10 : Int32) S11 => some ((-1 : Int32), S11)) (fun (v : Int32) S11 => some (v, S11)))
set_option maxHeartbeats 4000000 in
set_option maxRecDepth 100000 in
theorem tX0_shownOn (G : Gd) (l : Launch) (D : Nat) (t : Nat) (ht : isBoard t) (x1 : Int32) (x2 : Int32) (x3 : Int32) (S : Sg) : Ct LC G l rI yX0_shownOn cX0_shownOn 5 (some .int) (D + 1) [.ref (G.2.1 t), .int x1, .int x2, .int x3] S (fX0_shownOn t x1 x2 x3 S) := by
  refine Ct.of (by decide) (Nat.le_of_ble_eq_true rfl) (fun Z hZ X => ?_)
  subst hZ
  show Go LC G Z 5 rI 0 [(0, .ref (G.2.1 t)), (1, .int x1), (2, .int x2), (3, .int x3)] [] S (fX0_shownOn t x1 x2 x3 S) kz
  unfold fX0_shownOn
  refine g_iconst 1 X dX0_shownOn_0 rfl ci_0 ?_
  refine g_istore 3 X [(4, _), (0, _), (1, _), (2, _), (3, _)] dX0_shownOn_1 rfl (Nat.le_of_ble_eq_true rfl) rfl ?_
  refine g_joinR 71 (fun (a10 : Int32) => []) (fun (a10 : Int32) => []) (fun a10 S11 => ?_) (fun J3 => ?_)
  · refine g_iconst 72 X dX0_shownOn_71 rfl ci_m1 ?_
    exact g_iret X dX0_shownOn_72 rfl
  · refine g_sub [1, 2, 3, 4, 0] rfl (g_lp (fun (a1 : Int32) => [(0, .ref (G.2.1 t)), (1, .int x1), (2, .int x2), (3, .int x3), (4, .int a1)]) (fun rec5 ih4 a1 S2 => ?_) fl (0 : Int32) _)
    unfold bX0_shownOn_3
    refine g_iload 5 X 4 dX0_shownOn_3 rfl rfl ?_
    refine g_aload_n 6 X 0 dX0_shownOn_5 rfl rfl rfl ?_
    refine g_geti 9 X (sBoard ht) flX0_9 rfl dX0_shownOn_6 rfl ?_
    refine g_icmp_ge 71 12 X dX0_shownOn_9 (by decide) rfl (fun _ => ?_) (fun _ => ?_)
    · exact g_sub [] rfl (J3 a1 _)
    · refine g_aload_n 13 X 0 dX0_shownOn_12 rfl rfl rfl ?_
      refine g_getr 16 X (t + 2) (sBoard ht) flX0_19 rfl dX0_shownOn_13 rfl ?_
      refine g_iload 18 X 4 dX0_shownOn_16 rfl rfl ?_
      refine g_iald 19 X (sB8 ht 2 ⟨by decide, by decide⟩) dX0_shownOn_18 rfl ?_
      refine g_iload_n 20 X 2 dX0_shownOn_19 rfl rfl rfl ?_
      refine g_icmp_ne 65 23 X dX0_shownOn_20 (by decide) rfl (fun _ => ?_) (fun _ => ?_)
      · refine g_iinc 68 X 4 [(4, _), (0, _), (1, _), (2, _), (3, _)] dX0_shownOn_65 rfl rfl (ii_1 _) (Nat.le_of_ble_eq_true rfl) rfl ?_
        refine g_goto 3 X dX0_shownOn_68 (by decide) ?_
        exact g_sub [1, 2, 3, 4, 0] rfl (ih4 (a1 + (1 : Int32)) _)
      · refine g_aload_n 24 X 0 dX0_shownOn_23 rfl rfl rfl ?_
        refine g_getr 27 X (t + 6) (sBoard ht) flX0_31 rfl dX0_shownOn_24 rfl ?_
        refine g_iload_n 28 X 1 dX0_shownOn_27 rfl rfl rfl ?_
        refine g_iald 29 X (sB20 ht 6 ⟨by decide, by decide⟩) dX0_shownOn_28 rfl ?_
        refine g_iload 31 X 4 dX0_shownOn_29 rfl rfl ?_
        refine g_cSi2 34 X (tX8_has _ _ (D) _ _ _) mfX8_has msX8_has lkX0_50 (Nat.le_of_ble_eq_true rfl) dX0_shownOn_31 rfl (fun r6 S7 => ?_)
        refine g_if_eq 45 37 X dX0_shownOn_34 (by decide) rfl (fun _ => ?_) (fun _ => ?_)
        · refine g_iload_n 46 X 3 dX0_shownOn_45 rfl rfl rfl ?_
          refine g_iload 48 X 4 dX0_shownOn_46 rfl rfl ?_
          refine g_cSi2 51 X (tX8_has _ _ (D) _ _ _) mfX8_has msX8_has lkX0_50 (Nat.le_of_ble_eq_true rfl) dX0_shownOn_48 rfl (fun r8 S9 => ?_)
          refine g_if_eq 65 54 X dX0_shownOn_51 (by decide) rfl (fun _ => ?_) (fun _ => ?_)
          · refine g_iinc 68 X 4 [(4, _), (0, _), (1, _), (2, _), (3, _)] dX0_shownOn_65 rfl rfl (ii_1 _) (Nat.le_of_ble_eq_true rfl) rfl ?_
            refine g_goto 3 X dX0_shownOn_68 (by decide) ?_
            exact g_sub [1, 2, 3, 4, 0] rfl (ih4 (a1 + (1 : Int32)) _)
          · refine g_bipush 56 X dX0_shownOn_54 rfl cb_6 ?_
            refine g_aload_n 57 X 0 dX0_shownOn_56 rfl rfl rfl ?_
            refine g_getr 60 X (t + 3) (sBoard ht) flX0_22 rfl dX0_shownOn_57 rfl ?_
            refine g_iload 62 X 4 dX0_shownOn_60 rfl rfl ?_
            refine g_iald 63 X (sB8 ht 3 ⟨by decide, by decide⟩) dX0_shownOn_62 rfl ?_
            refine g_iadd 64 X dX0_shownOn_63 rfl ?_
            exact g_iret X dX0_shownOn_64 rfl
        · refine g_aload_n 38 X 0 dX0_shownOn_37 rfl rfl rfl ?_
          refine g_getr 41 X (t + 3) (sBoard ht) flX0_22 rfl dX0_shownOn_38 rfl ?_
          refine g_iload 43 X 4 dX0_shownOn_41 rfl rfl ?_
          refine g_iald 44 X (sB8 ht 3 ⟨by decide, by decide⟩) dX0_shownOn_43 rfl ?_
          exact g_iret X dX0_shownOn_44 rfl
def bX0_signRisen_2 (c0 : Nat) (c1 : Int32) (c2 : Int32) (rec : Int32 → Sg → Option (((Int32) ⊕ Int32) × Sg)) (a1 : Int32) (S2 : Sg) : Option (((Int32) ⊕ Int32) × Sg) :=
  (if (S2.1 c0 0) ≤ a1 then some (.inl a1, S2) else gd (ix a1 8) ((if (S2.1 (c0 + 2) (Int32.toNatClampNeg a1)) = c1 then bd (fX8_has c2 a1 S2) (fun r3 S4 => (if r3 = 0 then rec (a1 + (1 : Int32)) S4 else gd (ix a1 8) (some (.inr (S4.1 (c0 + 3) (Int32.toNatClampNeg a1)), S4)))) else rec (a1 + (1 : Int32)) S2)))
def fX0_signRisen (t : Nat) (x1 : Int32) (x2 : Int32) (S : Sg) : Option (Int32 × Sg) :=
  bd (lp (bX0_signRisen_2 t x1 x2) fl (0 : Int32) S) (se (fun (a8 : Int32) S9 => some ((6 : Int32), S9)) (fun (v : Int32) S9 => some (v, S9)))
set_option maxHeartbeats 4000000 in
set_option maxRecDepth 100000 in
theorem tX0_signRisen (G : Gd) (l : Launch) (D : Nat) (t : Nat) (ht : isBoard t) (x1 : Int32) (x2 : Int32) (S : Sg) : Ct LC G l rI yX0_signRisen cX0_signRisen 4 (some .int) (D + 1) [.ref (G.2.1 t), .int x1, .int x2] S (fX0_signRisen t x1 x2 S) := by
  refine Ct.of (by decide) (Nat.le_of_ble_eq_true rfl) (fun Z hZ X => ?_)
  subst hZ
  show Go LC G Z 4 rI 0 [(0, .ref (G.2.1 t)), (1, .int x1), (2, .int x2)] [] S (fX0_signRisen t x1 x2 S) kz
  unfold fX0_signRisen
  refine g_iconst 1 X dX0_signRisen_0 rfl ci_0 ?_
  refine g_istore_n 2 X [(3, _), (0, _), (1, _), (2, _)] dX0_signRisen_1 rfl rfl (Nat.le_of_ble_eq_true rfl) rfl ?_
  refine g_joinR 41 (fun (a8 : Int32) => []) (fun (a8 : Int32) => []) (fun a8 S9 => ?_) (fun J3 => ?_)
  · refine g_bipush 43 X dX0_signRisen_41 rfl cb_6 ?_
    exact g_iret X dX0_signRisen_43 rfl
  · refine g_sub [1, 2, 3, 0] rfl (g_lp (fun (a1 : Int32) => [(0, .ref (G.2.1 t)), (1, .int x1), (2, .int x2), (3, .int a1)]) (fun rec5 ih4 a1 S2 => ?_) fl (0 : Int32) _)
    unfold bX0_signRisen_2
    refine g_iload_n 3 X 3 dX0_signRisen_2 rfl rfl rfl ?_
    refine g_aload_n 4 X 0 dX0_signRisen_3 rfl rfl rfl ?_
    refine g_geti 7 X (sBoard ht) flX0_9 rfl dX0_signRisen_4 rfl ?_
    refine g_icmp_ge 41 10 X dX0_signRisen_7 (by decide) rfl (fun _ => ?_) (fun _ => ?_)
    · exact g_sub [] rfl (J3 a1 _)
    · refine g_aload_n 11 X 0 dX0_signRisen_10 rfl rfl rfl ?_
      refine g_getr 14 X (t + 2) (sBoard ht) flX0_19 rfl dX0_signRisen_11 rfl ?_
      refine g_iload_n 15 X 3 dX0_signRisen_14 rfl rfl rfl ?_
      refine g_iald 16 X (sB8 ht 2 ⟨by decide, by decide⟩) dX0_signRisen_15 rfl ?_
      refine g_iload_n 17 X 1 dX0_signRisen_16 rfl rfl rfl ?_
      refine g_icmp_ne 35 20 X dX0_signRisen_17 (by decide) rfl (fun _ => ?_) (fun _ => ?_)
      · refine g_iinc 38 X 3 [(3, _), (0, _), (1, _), (2, _)] dX0_signRisen_35 rfl rfl (ii_1 _) (Nat.le_of_ble_eq_true rfl) rfl ?_
        refine g_goto 2 X dX0_signRisen_38 (by decide) ?_
        exact g_sub [1, 2, 3, 0] rfl (ih4 (a1 + (1 : Int32)) _)
      · refine g_iload_n 21 X 2 dX0_signRisen_20 rfl rfl rfl ?_
        refine g_iload_n 22 X 3 dX0_signRisen_21 rfl rfl rfl ?_
        refine g_cSi2 25 X (tX8_has _ _ (D) _ _ _) mfX8_has msX8_has lkX0_50 (Nat.le_of_ble_eq_true rfl) dX0_signRisen_22 rfl (fun r6 S7 => ?_)
        refine g_if_eq 35 28 X dX0_signRisen_25 (by decide) rfl (fun _ => ?_) (fun _ => ?_)
        · refine g_iinc 38 X 3 [(3, _), (0, _), (1, _), (2, _)] dX0_signRisen_35 rfl rfl (ii_1 _) (Nat.le_of_ble_eq_true rfl) rfl ?_
          refine g_goto 2 X dX0_signRisen_38 (by decide) ?_
          exact g_sub [1, 2, 3, 0] rfl (ih4 (a1 + (1 : Int32)) _)
        · refine g_aload_n 29 X 0 dX0_signRisen_28 rfl rfl rfl ?_
          refine g_getr 32 X (t + 3) (sBoard ht) flX0_22 rfl dX0_signRisen_29 rfl ?_
          refine g_iload_n 33 X 3 dX0_signRisen_32 rfl rfl rfl ?_
          refine g_iald 34 X (sB8 ht 3 ⟨by decide, by decide⟩) dX0_signRisen_33 rfl ?_
          exact g_iret X dX0_signRisen_34 rfl
def bX0_linesOf_4 (c0 : Nat) (c1 : Int32) (rec : (Int32 × Int32) → Sg → Option ((Int32 × Int32) × Sg)) (a1 : Int32 × Int32) (S2 : Sg) : Option ((Int32 × Int32) × Sg) :=
  (if (S2.1 c0 0) ≤ a1.2 then some ((a1.1, a1.2), S2) else bd (fX8_has c1 a1.2 S2) (fun r3 S4 => bd ((if r3 = 0 then some (a1.1, S4) else gd (ix a1.2 8) (some ((a1.1 ||| ((1 : Int32) <<< (((S4.1 (c0 + 2) (Int32.toNatClampNeg a1.2)) / (6 : Int32)) &&& 31))), S4)))) (fun (t5 : Int32) S6 => rec (t5, (a1.2 + (1 : Int32))) S6)))
def fX0_linesOf (t : Nat) (x1 : Int32) (S : Sg) : Option (Int32 × Sg) :=
  bd (lp (bX0_linesOf_4 t x1) fl ((0 : Int32), (0 : Int32)) S) (fun (a11 : Int32 × Int32) S12 => some (a11.1, S12))
set_option maxHeartbeats 4000000 in
set_option maxRecDepth 100000 in
theorem tX0_linesOf (G : Gd) (l : Launch) (D : Nat) (t : Nat) (ht : isBoard t) (x1 : Int32) (S : Sg) : Ct LC G l rI yX0_linesOf cX0_linesOf 4 (some .int) (D + 1) [.ref (G.2.1 t), .int x1] S (fX0_linesOf t x1 S) := by
  refine Ct.of (by decide) (Nat.le_of_ble_eq_true rfl) (fun Z hZ X => ?_)
  subst hZ
  show Go LC G Z 4 rI 0 [(0, .ref (G.2.1 t)), (1, .int x1)] [] S (fX0_linesOf t x1 S) kz
  unfold fX0_linesOf
  refine g_iconst 1 X dX0_linesOf_0 rfl ci_0 ?_
  refine g_istore_n 2 X [(2, _), (0, _), (1, _)] dX0_linesOf_1 rfl rfl (Nat.le_of_ble_eq_true rfl) rfl ?_
  refine g_iconst 3 X dX0_linesOf_2 rfl ci_0 ?_
  refine g_istore_n 4 X [(3, _), (2, _), (0, _), (1, _)] dX0_linesOf_3 rfl rfl (Nat.le_of_ble_eq_true rfl) rfl ?_
  refine g_joinK 40 (fun (a11 : Int32 × Int32) => [(2, .int a11.1)]) (fun (a11 : Int32 × Int32) => []) (fun a11 S12 => ?_) (fun J3 => ?_)
  · refine g_iload_n 41 X 0 dX0_linesOf_40 rfl rfl rfl ?_
    exact g_iret X dX0_linesOf_41 rfl
  · refine g_sub [2, 3, 1, 0] rfl (g_lp (fun (a1 : Int32 × Int32) => [(0, .ref (G.2.1 t)), (1, .int x1), (2, .int a1.1), (3, .int a1.2)]) (fun rec5 ih4 a1 S2 => ?_) fl ((0 : Int32), (0 : Int32)) _)
    unfold bX0_linesOf_4
    refine g_iload_n 5 X 3 dX0_linesOf_4 rfl rfl rfl ?_
    refine g_aload_n 6 X 0 dX0_linesOf_5 rfl rfl rfl ?_
    refine g_geti 9 X (sBoard ht) flX0_9 rfl dX0_linesOf_6 rfl ?_
    refine g_icmp_ge 40 12 X dX0_linesOf_9 (by decide) rfl (fun _ => ?_) (fun _ => ?_)
    · exact g_sub [2] rfl (J3 (a1.1, a1.2) _)
    · refine g_iload_n 13 X 1 dX0_linesOf_12 rfl rfl rfl ?_
      refine g_iload_n 14 X 3 dX0_linesOf_13 rfl rfl rfl ?_
      refine g_cSi2 17 X (tX8_has _ _ (D) _ _ _) mfX8_has msX8_has lkX0_50 (Nat.le_of_ble_eq_true rfl) dX0_linesOf_14 rfl (fun r6 S7 => ?_)
      refine g_joinK 34 (fun (t8 : Int32) => [(0, .ref (G.2.1 t)), (1, .int x1), (2, .int t8), (3, .int a1.2)]) (fun (t8 : Int32) => []) (fun t8 S9 => ?_) (fun J10 => ?_)
      · refine g_iinc 37 X 3 [(3, _), (0, _), (1, _), (2, _)] dX0_linesOf_34 rfl rfl (ii_1 _) (Nat.le_of_ble_eq_true rfl) rfl ?_
        refine g_goto 4 X dX0_linesOf_37 (by decide) ?_
        exact g_sub [1, 2, 3, 0] rfl (ih4 (t8, (a1.2 + (1 : Int32))) _)
      · refine g_if_eq 34 20 X dX0_linesOf_17 (by decide) rfl (fun _ => ?_) (fun _ => ?_)
        · exact g_sub [0, 1, 2, 3] rfl (J10 a1.1 _)
        · refine g_iload_n 21 X 2 dX0_linesOf_20 rfl rfl rfl ?_
          refine g_iconst 22 X dX0_linesOf_21 rfl ci_1 ?_
          refine g_aload_n 23 X 0 dX0_linesOf_22 rfl rfl rfl ?_
          refine g_getr 26 X (t + 2) (sBoard ht) flX0_19 rfl dX0_linesOf_23 rfl ?_
          refine g_iload_n 27 X 3 dX0_linesOf_26 rfl rfl rfl ?_
          refine g_iald 28 X (sB8 ht 2 ⟨by decide, by decide⟩) dX0_linesOf_27 rfl ?_
          refine g_bipush 30 X dX0_linesOf_28 rfl cb_6 ?_
          refine g_idiv 31 X dX0_linesOf_30 rfl (by decide) ?_
          refine g_ishl 32 X dX0_linesOf_31 rfl ?_
          refine g_ior 33 X dX0_linesOf_32 rfl ?_
          refine g_istore_n 34 X [(2, _), (0, _), (1, _), (3, _)] dX0_linesOf_33 rfl rfl (Nat.le_of_ble_eq_true rfl) rfl ?_
          exact g_sub [1, 2, 0, 3] rfl (J10 (a1.1 ||| ((1 : Int32) <<< (((S7.1 (t + 2) (Int32.toNatClampNeg a1.2)) / (6 : Int32)) &&& 31))) _)
def fJ6_bitCount_0f7a4 (x0 : Int32) (S : Sg) : Option (Int32 × Sg) :=
  some (((((((((x0 - ((ush x0 (1 : Int32)) &&& (1431655765 : Int32))) &&& (858993459 : Int32)) + ((ush (x0 - ((ush x0 (1 : Int32)) &&& (1431655765 : Int32))) (2 : Int32)) &&& (858993459 : Int32))) + (ush (((x0 - ((ush x0 (1 : Int32)) &&& (1431655765 : Int32))) &&& (858993459 : Int32)) + ((ush (x0 - ((ush x0 (1 : Int32)) &&& (1431655765 : Int32))) (2 : Int32)) &&& (858993459 : Int32))) (4 : Int32))) &&& (252645135 : Int32)) + (ush (((((x0 - ((ush x0 (1 : Int32)) &&& (1431655765 : Int32))) &&& (858993459 : Int32)) + ((ush (x0 - ((ush x0 (1 : Int32)) &&& (1431655765 : Int32))) (2 : Int32)) &&& (858993459 : Int32))) + (ush (((x0 - ((ush x0 (1 : Int32)) &&& (1431655765 : Int32))) &&& (858993459 : Int32)) + ((ush (x0 - ((ush x0 (1 : Int32)) &&& (1431655765 : Int32))) (2 : Int32)) &&& (858993459 : Int32))) (4 : Int32))) &&& (252645135 : Int32)) (8 : Int32))) + (ush ((((((x0 - ((ush x0 (1 : Int32)) &&& (1431655765 : Int32))) &&& (858993459 : Int32)) + ((ush (x0 - ((ush x0 (1 : Int32)) &&& (1431655765 : Int32))) (2 : Int32)) &&& (858993459 : Int32))) + (ush (((x0 - ((ush x0 (1 : Int32)) &&& (1431655765 : Int32))) &&& (858993459 : Int32)) + ((ush (x0 - ((ush x0 (1 : Int32)) &&& (1431655765 : Int32))) (2 : Int32)) &&& (858993459 : Int32))) (4 : Int32))) &&& (252645135 : Int32)) + (ush (((((x0 - ((ush x0 (1 : Int32)) &&& (1431655765 : Int32))) &&& (858993459 : Int32)) + ((ush (x0 - ((ush x0 (1 : Int32)) &&& (1431655765 : Int32))) (2 : Int32)) &&& (858993459 : Int32))) + (ush (((x0 - ((ush x0 (1 : Int32)) &&& (1431655765 : Int32))) &&& (858993459 : Int32)) + ((ush (x0 - ((ush x0 (1 : Int32)) &&& (1431655765 : Int32))) (2 : Int32)) &&& (858993459 : Int32))) (4 : Int32))) &&& (252645135 : Int32)) (8 : Int32))) (16 : Int32))) &&& (63 : Int32)), S)
set_option maxHeartbeats 4000000 in
set_option maxRecDepth 100000 in
theorem tJ6_bitCount_0f7a4 (G : Gd) (l : Launch) (D : Nat) (x0 : Int32) (S : Sg) : Ct LC G l rI yJ6_bitCount_0f7a4 cJ6_bitCount_0f7a4 1 (some .int) (D + 0) [.int x0] S (fJ6_bitCount_0f7a4 x0 S) := by
  refine Ct.of (by decide) (Nat.le_of_ble_eq_true rfl) (fun Z hZ X => ?_)
  subst hZ
  show Go LC G Z 1 rI 0 [(0, .int x0)] [] S (fJ6_bitCount_0f7a4 x0 S) kz
  unfold fJ6_bitCount_0f7a4
  refine g_iload_n 1 X 0 dJ6_bitCount_0f7a4_0 rfl rfl rfl ?_
  refine g_iload_n 2 X 0 dJ6_bitCount_0f7a4_1 rfl rfl rfl ?_
  refine g_iconst 3 X dJ6_bitCount_0f7a4_2 rfl ci_1 ?_
  refine g_iushr 4 X dJ6_bitCount_0f7a4_3 rfl ?_
  refine g_ldcw 7 X dJ6_bitCount_0f7a4_4 rfl conJ6_265 ?_
  refine g_iand 8 X dJ6_bitCount_0f7a4_7 rfl ?_
  refine g_isub 9 X dJ6_bitCount_0f7a4_8 rfl ?_
  refine g_istore_n 10 X [(0, _)] dJ6_bitCount_0f7a4_9 rfl rfl (Nat.le_of_ble_eq_true rfl) rfl ?_
  refine g_iload_n 11 X 0 dJ6_bitCount_0f7a4_10 rfl rfl rfl ?_
  refine g_ldcw 14 X dJ6_bitCount_0f7a4_11 rfl conJ6_266 ?_
  refine g_iand 15 X dJ6_bitCount_0f7a4_14 rfl ?_
  refine g_iload_n 16 X 0 dJ6_bitCount_0f7a4_15 rfl rfl rfl ?_
  refine g_iconst 17 X dJ6_bitCount_0f7a4_16 rfl ci_2 ?_
  refine g_iushr 18 X dJ6_bitCount_0f7a4_17 rfl ?_
  refine g_ldcw 21 X dJ6_bitCount_0f7a4_18 rfl conJ6_266 ?_
  refine g_iand 22 X dJ6_bitCount_0f7a4_21 rfl ?_
  refine g_iadd 23 X dJ6_bitCount_0f7a4_22 rfl ?_
  refine g_istore_n 24 X [(0, _)] dJ6_bitCount_0f7a4_23 rfl rfl (Nat.le_of_ble_eq_true rfl) rfl ?_
  refine g_iload_n 25 X 0 dJ6_bitCount_0f7a4_24 rfl rfl rfl ?_
  refine g_iload_n 26 X 0 dJ6_bitCount_0f7a4_25 rfl rfl rfl ?_
  refine g_iconst 27 X dJ6_bitCount_0f7a4_26 rfl ci_4 ?_
  refine g_iushr 28 X dJ6_bitCount_0f7a4_27 rfl ?_
  refine g_iadd 29 X dJ6_bitCount_0f7a4_28 rfl ?_
  refine g_ldcw 32 X dJ6_bitCount_0f7a4_29 rfl conJ6_267 ?_
  refine g_iand 33 X dJ6_bitCount_0f7a4_32 rfl ?_
  refine g_istore_n 34 X [(0, _)] dJ6_bitCount_0f7a4_33 rfl rfl (Nat.le_of_ble_eq_true rfl) rfl ?_
  refine g_iload_n 35 X 0 dJ6_bitCount_0f7a4_34 rfl rfl rfl ?_
  refine g_iload_n 36 X 0 dJ6_bitCount_0f7a4_35 rfl rfl rfl ?_
  refine g_bipush 38 X dJ6_bitCount_0f7a4_36 rfl cb_8 ?_
  refine g_iushr 39 X dJ6_bitCount_0f7a4_38 rfl ?_
  refine g_iadd 40 X dJ6_bitCount_0f7a4_39 rfl ?_
  refine g_istore_n 41 X [(0, _)] dJ6_bitCount_0f7a4_40 rfl rfl (Nat.le_of_ble_eq_true rfl) rfl ?_
  refine g_iload_n 42 X 0 dJ6_bitCount_0f7a4_41 rfl rfl rfl ?_
  refine g_iload_n 43 X 0 dJ6_bitCount_0f7a4_42 rfl rfl rfl ?_
  refine g_bipush 45 X dJ6_bitCount_0f7a4_43 rfl cb_16 ?_
  refine g_iushr 46 X dJ6_bitCount_0f7a4_45 rfl ?_
  refine g_iadd 47 X dJ6_bitCount_0f7a4_46 rfl ?_
  refine g_istore_n 48 X [(0, _)] dJ6_bitCount_0f7a4_47 rfl rfl (Nat.le_of_ble_eq_true rfl) rfl ?_
  refine g_iload_n 49 X 0 dJ6_bitCount_0f7a4_48 rfl rfl rfl ?_
  refine g_bipush 51 X dJ6_bitCount_0f7a4_49 rfl cb_63 ?_
  refine g_iand 52 X dJ6_bitCount_0f7a4_51 rfl ?_
  exact g_iret X dJ6_bitCount_0f7a4_52 rfl
def bX0_deepestCell_7 (c0 : Nat) (c1 : Int32) (rec : (Int32 × Int32 × Int32) → Sg → Option ((Int32 × Int32 × Int32) × Sg)) (a1 : Int32 × Int32 × Int32) (S2 : Sg) : Option ((Int32 × Int32 × Int32) × Sg) :=
  (if (S2.1 c0 0) ≤ a1.2.2 then some ((a1.1, a1.2.1, a1.2.2), S2) else bd (fX8_has c1 a1.2.2 S2) (fun r3 S4 => bd ((if r3 = 0 then some ((a1.1, a1.2.1), S4) else gd (ix a1.2.2 8) (bd (fJ6_bitCount_0f7a4 (c1 &&& (S4.1 (c0 + 5) (Int32.toNatClampNeg a1.2.2))) S4) (fun r8 S9 => (if a1.2.1 < r8 then gd (ix a1.2.2 8) (some (((S9.1 (c0 + 2) (Int32.toNatClampNeg a1.2.2)), r8), S9)) else (if r8 = a1.2.1 then gd (ix a1.2.2 8) ((if a1.1 ≤ (S9.1 (c0 + 2) (Int32.toNatClampNeg a1.2.2)) then some ((a1.1, a1.2.1), S9) else gd (ix a1.2.2 8) (some (((S9.1 (c0 + 2) (Int32.toNatClampNeg a1.2.2)), r8), S9)))) else some ((a1.1, a1.2.1), S9))))))) (fun (t5 : Int32 × Int32) S6 => rec (t5.1, t5.2, (a1.2.2 + (1 : Int32))) S6)))
def fX0_deepestCell (t : Nat) (x1 : Int32) (S : Sg) : Option (Int32 × Sg) :=
  bd (lp (bX0_deepestCell_7 t x1) fl ((-1 : Int32), (0 : Int32), (0 : Int32)) S) (fun (a13 : Int32 × Int32 × Int32) S14 => some (a13.1, S14))
set_option maxHeartbeats 4000000 in
set_option maxRecDepth 100000 in
theorem tX0_deepestCell (G : Gd) (l : Launch) (D : Nat) (t : Nat) (ht : isBoard t) (x1 : Int32) (S : Sg) : Ct LC G l rI yX0_deepestCell cX0_deepestCell 6 (some .int) (D + 1) [.ref (G.2.1 t), .int x1] S (fX0_deepestCell t x1 S) := by
  refine Ct.of (by decide) (Nat.le_of_ble_eq_true rfl) (fun Z hZ X => ?_)
  subst hZ
  show Go LC G Z 6 rI 0 [(0, .ref (G.2.1 t)), (1, .int x1)] [] S (fX0_deepestCell t x1 S) kz
  unfold fX0_deepestCell
  refine g_iconst 1 X dX0_deepestCell_0 rfl ci_m1 ?_
  refine g_istore_n 2 X [(2, _), (0, _), (1, _)] dX0_deepestCell_1 rfl rfl (Nat.le_of_ble_eq_true rfl) rfl ?_
  refine g_iconst 3 X dX0_deepestCell_2 rfl ci_0 ?_
  refine g_istore_n 4 X [(3, _), (2, _), (0, _), (1, _)] dX0_deepestCell_3 rfl rfl (Nat.le_of_ble_eq_true rfl) rfl ?_
  refine g_iconst 5 X dX0_deepestCell_4 rfl ci_0 ?_
  refine g_istore 7 X [(4, _), (3, _), (2, _), (0, _), (1, _)] dX0_deepestCell_5 rfl (Nat.le_of_ble_eq_true rfl) rfl ?_
  refine g_joinK 79 (fun (a13 : Int32 × Int32 × Int32) => [(2, .int a13.1)]) (fun (a13 : Int32 × Int32 × Int32) => []) (fun a13 S14 => ?_) (fun J3 => ?_)
  · refine g_iload_n 80 X 0 dX0_deepestCell_79 rfl rfl rfl ?_
    exact g_iret X dX0_deepestCell_80 rfl
  · refine g_sub [3, 4, 2, 1, 0] rfl (g_lp (fun (a1 : Int32 × Int32 × Int32) => [(0, .ref (G.2.1 t)), (1, .int x1), (2, .int a1.1), (3, .int a1.2.1), (4, .int a1.2.2)]) (fun rec5 ih4 a1 S2 => ?_) fl ((-1 : Int32), (0 : Int32), (0 : Int32)) _)
    unfold bX0_deepestCell_7
    refine g_iload 9 X 4 dX0_deepestCell_7 rfl rfl ?_
    refine g_aload_n 10 X 0 dX0_deepestCell_9 rfl rfl rfl ?_
    refine g_geti 13 X (sBoard ht) flX0_9 rfl dX0_deepestCell_10 rfl ?_
    refine g_icmp_ge 79 16 X dX0_deepestCell_13 (by decide) rfl (fun _ => ?_) (fun _ => ?_)
    · exact g_sub [2] rfl (J3 (a1.1, a1.2.1, a1.2.2) _)
    · refine g_iload_n 17 X 1 dX0_deepestCell_16 rfl rfl rfl ?_
      refine g_iload 19 X 4 dX0_deepestCell_17 rfl rfl ?_
      refine g_cSi2 22 X (tX8_has _ _ (D) _ _ _) mfX8_has msX8_has lkX0_50 (Nat.le_of_ble_eq_true rfl) dX0_deepestCell_19 rfl (fun r6 S7 => ?_)
      refine g_joinK 73 (fun (t8 : Int32 × Int32) => [(0, .ref (G.2.1 t)), (1, .int x1), (2, .int t8.1), (3, .int t8.2), (4, .int a1.2.2)]) (fun (t8 : Int32 × Int32) => []) (fun t8 S9 => ?_) (fun J10 => ?_)
      · refine g_iinc 76 X 4 [(4, _), (0, _), (1, _), (2, _), (3, _)] dX0_deepestCell_73 rfl rfl (ii_1 _) (Nat.le_of_ble_eq_true rfl) rfl ?_
        refine g_goto 7 X dX0_deepestCell_76 (by decide) ?_
        exact g_sub [1, 2, 3, 4, 0] rfl (ih4 (t8.1, t8.2, (a1.2.2 + (1 : Int32))) _)
      · refine g_if_eq 73 25 X dX0_deepestCell_22 (by decide) rfl (fun _ => ?_) (fun _ => ?_)
        · exact g_sub [0, 1, 2, 3, 4] rfl (J10 (a1.1, a1.2.1) _)
        · refine g_iload_n 26 X 1 dX0_deepestCell_25 rfl rfl rfl ?_
          refine g_aload_n 27 X 0 dX0_deepestCell_26 rfl rfl rfl ?_
          refine g_getr 30 X (t + 5) (sBoard ht) flX0_28 rfl dX0_deepestCell_27 rfl ?_
          refine g_iload 32 X 4 dX0_deepestCell_30 rfl rfl ?_
          refine g_iald 33 X (sB8 ht 5 ⟨by decide, by decide⟩) dX0_deepestCell_32 rfl ?_
          refine g_iand 34 X dX0_deepestCell_33 rfl ?_
          refine g_cSi1 37 X (tJ6_bitCount_0f7a4 _ _ (D) _ _) mfJ6_bitCount_0f7a4 msJ6_bitCount_0f7a4 lkX0_91 (Nat.le_of_ble_eq_true rfl) dX0_deepestCell_34 rfl (fun r11 S12 => ?_)
          refine g_istore 39 X [(5, _), (0, _), (1, _), (2, _), (3, _), (4, _)] dX0_deepestCell_37 rfl (Nat.le_of_ble_eq_true rfl) rfl ?_
          refine g_iload 41 X 0 dX0_deepestCell_39 rfl rfl ?_
          refine g_iload_n 42 X 4 dX0_deepestCell_41 rfl rfl rfl ?_
          refine g_icmp_gt 62 45 X dX0_deepestCell_42 (by decide) rfl (fun _ => ?_) (fun _ => ?_)
          · refine g_aload_n 63 X 1 dX0_deepestCell_62 rfl rfl rfl ?_
            refine g_getr 66 X (t + 2) (sBoard ht) flX0_19 rfl dX0_deepestCell_63 rfl ?_
            refine g_iload 68 X 5 dX0_deepestCell_66 rfl rfl ?_
            refine g_iald 69 X (sB8 ht 2 ⟨by decide, by decide⟩) dX0_deepestCell_68 rfl ?_
            refine g_istore_n 70 X [(2, _), (5, _), (0, _), (1, _), (3, _), (4, _)] dX0_deepestCell_69 rfl rfl (Nat.le_of_ble_eq_true rfl) rfl ?_
            refine g_iload 72 X 1 dX0_deepestCell_70 rfl rfl ?_
            refine g_istore_n 73 X [(3, _), (2, _), (5, _), (0, _), (1, _), (4, _)] dX0_deepestCell_72 rfl rfl (Nat.le_of_ble_eq_true rfl) rfl ?_
            exact g_sub [3, 4, 1, 0, 5] rfl (J10 ((S12.1 (t + 2) (Int32.toNatClampNeg a1.2.2)), r11) _)
          · refine g_iload 47 X 0 dX0_deepestCell_45 rfl rfl ?_
            refine g_iload_n 48 X 4 dX0_deepestCell_47 rfl rfl rfl ?_
            refine g_icmp_ne 73 51 X dX0_deepestCell_48 (by decide) rfl (fun _ => ?_) (fun _ => ?_)
            · exact g_sub [1, 2, 3, 4, 5] rfl (J10 (a1.1, a1.2.1) _)
            · refine g_aload_n 52 X 1 dX0_deepestCell_51 rfl rfl rfl ?_
              refine g_getr 55 X (t + 2) (sBoard ht) flX0_19 rfl dX0_deepestCell_52 rfl ?_
              refine g_iload 57 X 5 dX0_deepestCell_55 rfl rfl ?_
              refine g_iald 58 X (sB8 ht 2 ⟨by decide, by decide⟩) dX0_deepestCell_57 rfl ?_
              refine g_iload_n 59 X 3 dX0_deepestCell_58 rfl rfl rfl ?_
              refine g_icmp_ge 73 62 X dX0_deepestCell_59 (by decide) rfl (fun _ => ?_) (fun _ => ?_)
              · exact g_sub [1, 2, 3, 4, 5] rfl (J10 (a1.1, a1.2.1) _)
              · refine g_aload_n 63 X 1 dX0_deepestCell_62 rfl rfl rfl ?_
                refine g_getr 66 X (t + 2) (sBoard ht) flX0_19 rfl dX0_deepestCell_63 rfl ?_
                refine g_iload 68 X 5 dX0_deepestCell_66 rfl rfl ?_
                refine g_iald 69 X (sB8 ht 2 ⟨by decide, by decide⟩) dX0_deepestCell_68 rfl ?_
                refine g_istore_n 70 X [(2, _), (5, _), (0, _), (1, _), (3, _), (4, _)] dX0_deepestCell_69 rfl rfl (Nat.le_of_ble_eq_true rfl) rfl ?_
                refine g_iload 72 X 1 dX0_deepestCell_70 rfl rfl ?_
                refine g_istore_n 73 X [(3, _), (2, _), (5, _), (0, _), (1, _), (4, _)] dX0_deepestCell_72 rfl rfl (Nat.le_of_ble_eq_true rfl) rfl ?_
                exact g_sub [3, 4, 1, 0, 5] rfl (J10 ((S12.1 (t + 2) (Int32.toNatClampNeg a1.2.2)), r11) _)
def fX1_addWipe (x1 : Int32) (x2 : Int32) (S : Sg) : Option (Int32 × Sg) :=
  (if (S.1 7 4) < (8 : Int32) then gd (ix (S.1 7 4) 8) (gd (ix ((sI S 8 (Int32.toNatClampNeg (S.1 7 4)) x1).1 7 4) 8) (some ((1 : Int32), (sI (sI (sI S 8 (Int32.toNatClampNeg (S.1 7 4)) x1) 9 (Int32.toNatClampNeg ((sI S 8 (Int32.toNatClampNeg (S.1 7 4)) x1).1 7 4)) x2) 7 4 (((sI (sI S 8 (Int32.toNatClampNeg (S.1 7 4)) x1) 9 (Int32.toNatClampNeg ((sI S 8 (Int32.toNatClampNeg (S.1 7 4)) x1).1 7 4)) x2).1 7 4) + (1 : Int32)))))) else some ((0 : Int32), S))
set_option maxHeartbeats 4000000 in
set_option maxRecDepth 100000 in
theorem tX1_addWipe (G : Gd) (l : Launch) (D : Nat) (x1 : Int32) (x2 : Int32) (S : Sg) : Ct LC G l rI yX1_addWipe cX1_addWipe 3 (some .boolean) (D + 0) [.ref (G.2.1 7), .int x1, .int x2] S (fX1_addWipe x1 x2 S) := by
  refine Ct.of (by decide) (Nat.le_of_ble_eq_true rfl) (fun Z hZ X => ?_)
  subst hZ
  show Go LC G Z 3 rI 0 [(0, .ref (G.2.1 7)), (1, .int x1), (2, .int x2)] [] S (fX1_addWipe x1 x2 S) kz
  unfold fX1_addWipe
  refine g_aload_n 1 X 0 dX1_addWipe_0 rfl rfl rfl ?_
  refine g_geti 4 X rfl flX1_24 rfl dX1_addWipe_1 rfl ?_
  refine g_bipush 6 X dX1_addWipe_4 rfl cb_8 ?_
  refine g_icmp_lt 11 9 X dX1_addWipe_6 (by decide) rfl (fun _ => ?_) (fun _ => ?_)
  · refine g_aload_n 12 X 0 dX1_addWipe_11 rfl rfl rfl ?_
    refine g_getr 15 X 8 rfl flX1_9 rfl dX1_addWipe_12 rfl ?_
    refine g_aload_n 16 X 0 dX1_addWipe_15 rfl rfl rfl ?_
    refine g_geti 19 X rfl flX1_24 rfl dX1_addWipe_16 rfl ?_
    refine g_iload_n 20 X 1 dX1_addWipe_19 rfl rfl rfl ?_
    refine g_iast 21 X rfl dX1_addWipe_20 rfl ?_
    refine g_aload_n 22 X 0 dX1_addWipe_21 rfl rfl rfl ?_
    refine g_getr 25 X 9 rfl flX1_15 rfl dX1_addWipe_22 rfl ?_
    refine g_aload_n 26 X 0 dX1_addWipe_25 rfl rfl rfl ?_
    refine g_geti 29 X rfl flX1_24 rfl dX1_addWipe_26 rfl ?_
    refine g_iload_n 30 X 2 dX1_addWipe_29 rfl rfl rfl ?_
    refine g_iast 31 X rfl dX1_addWipe_30 rfl ?_
    refine g_aload_n 32 X 0 dX1_addWipe_31 rfl rfl rfl ?_
    refine g_dup 33 X dX1_addWipe_32 rfl rfl ?_
    refine g_geti 36 X rfl flX1_24 rfl dX1_addWipe_33 rfl ?_
    refine g_iconst 37 X dX1_addWipe_36 rfl ci_1 ?_
    refine g_iadd 38 X dX1_addWipe_37 rfl ?_
    refine g_puti 41 X rfl flX1_24 fp_1_4 rfl dX1_addWipe_38 rfl ?_
    refine g_iconst 42 X dX1_addWipe_41 rfl ci_1 ?_
    exact g_zret X dX1_addWipe_42 rfl rfl
  · refine g_iconst 10 X dX1_addWipe_9 rfl ci_0 ?_
    exact g_zret X dX1_addWipe_10 rfl rfl
def fX1_addOil (x1 : Int32) (x2 : Int32) (S : Sg) : Option (Int32 × Sg) :=
  (if (S.1 7 5) < (4 : Int32) then gd (ix (S.1 7 5) 4) (gd (ix ((sI S 10 (Int32.toNatClampNeg (S.1 7 5)) x1).1 7 5) 4) (some ((1 : Int32), (sI (sI (sI S 10 (Int32.toNatClampNeg (S.1 7 5)) x1) 11 (Int32.toNatClampNeg ((sI S 10 (Int32.toNatClampNeg (S.1 7 5)) x1).1 7 5)) x2) 7 5 (((sI (sI S 10 (Int32.toNatClampNeg (S.1 7 5)) x1) 11 (Int32.toNatClampNeg ((sI S 10 (Int32.toNatClampNeg (S.1 7 5)) x1).1 7 5)) x2).1 7 5) + (1 : Int32)))))) else some ((0 : Int32), S))
set_option maxHeartbeats 4000000 in
set_option maxRecDepth 100000 in
theorem tX1_addOil (G : Gd) (l : Launch) (D : Nat) (x1 : Int32) (x2 : Int32) (S : Sg) : Ct LC G l rI yX1_addOil cX1_addOil 3 (some .boolean) (D + 0) [.ref (G.2.1 7), .int x1, .int x2] S (fX1_addOil x1 x2 S) := by
  refine Ct.of (by decide) (Nat.le_of_ble_eq_true rfl) (fun Z hZ X => ?_)
  subst hZ
  show Go LC G Z 3 rI 0 [(0, .ref (G.2.1 7)), (1, .int x1), (2, .int x2)] [] S (fX1_addOil x1 x2 S) kz
  unfold fX1_addOil
  refine g_aload_n 1 X 0 dX1_addOil_0 rfl rfl rfl ?_
  refine g_geti 4 X rfl flX1_28 rfl dX1_addOil_1 rfl ?_
  refine g_iconst 5 X dX1_addOil_4 rfl ci_4 ?_
  refine g_icmp_lt 10 8 X dX1_addOil_5 (by decide) rfl (fun _ => ?_) (fun _ => ?_)
  · refine g_aload_n 11 X 0 dX1_addOil_10 rfl rfl rfl ?_
    refine g_getr 14 X 10 rfl flX1_18 rfl dX1_addOil_11 rfl ?_
    refine g_aload_n 15 X 0 dX1_addOil_14 rfl rfl rfl ?_
    refine g_geti 18 X rfl flX1_28 rfl dX1_addOil_15 rfl ?_
    refine g_iload_n 19 X 1 dX1_addOil_18 rfl rfl rfl ?_
    refine g_iast 20 X rfl dX1_addOil_19 rfl ?_
    refine g_aload_n 21 X 0 dX1_addOil_20 rfl rfl rfl ?_
    refine g_getr 24 X 11 rfl flX1_21 rfl dX1_addOil_21 rfl ?_
    refine g_aload_n 25 X 0 dX1_addOil_24 rfl rfl rfl ?_
    refine g_geti 28 X rfl flX1_28 rfl dX1_addOil_25 rfl ?_
    refine g_iload_n 29 X 2 dX1_addOil_28 rfl rfl rfl ?_
    refine g_iast 30 X rfl dX1_addOil_29 rfl ?_
    refine g_aload_n 31 X 0 dX1_addOil_30 rfl rfl rfl ?_
    refine g_dup 32 X dX1_addOil_31 rfl rfl ?_
    refine g_geti 35 X rfl flX1_28 rfl dX1_addOil_32 rfl ?_
    refine g_iconst 36 X dX1_addOil_35 rfl ci_1 ?_
    refine g_iadd 37 X dX1_addOil_36 rfl ?_
    refine g_puti 40 X rfl flX1_28 fp_1_5 rfl dX1_addOil_37 rfl ?_
    refine g_iconst 41 X dX1_addOil_40 rfl ci_1 ?_
    exact g_zret X dX1_addOil_41 rfl rfl
  · refine g_iconst 9 X dX1_addOil_8 rfl ci_0 ?_
    exact g_zret X dX1_addOil_9 rfl rfl
def bX2_reduce_6 (c3 : Int32) (rec : (Int64 × Int32) → Sg → Option ((Int64 × Int32) × Sg)) (a1 : Int64 × Int32) (S2 : Sg) : Option ((Int64 × Int32) × Sg) :=
  (if c3 ≤ a1.2 then some ((a1.1, a1.2), S2) else (if (lg_cmp (a1.1 &&& (1 : Int64)) (0 : Int64)) = 0 then rec ((a1.1 >>> (Int32.toInt64 (1 : Int32) &&& 63)), (a1.2 + (1 : Int32))) S2 else some ((a1.1, a1.2), S2)))
def fX2_reduce (x1 : Int64) (x3 : Int32) (S : Sg) : Option (Unit × Sg) :=
  bd (lp (bX2_reduce_6 x3) fl (x1, (0 : Int32)) S) (fun (a6 : Int64 × Int32) S7 => some ((), (sL (sL S7 41 4 a6.1) 41 5 ((1 : Int64) <<< (Int32.toInt64 (x3 - a6.2) &&& 63)))))
set_option maxHeartbeats 4000000 in
set_option maxRecDepth 100000 in
theorem tX2_reduce (G : Gd) (l : Launch) (D : Nat) (x1 : Int64) (x3 : Int32) (S : Sg) : Ct LC G l rV yX2_reduce cX2_reduce 7 none (D + 0) [.ref (G.2.1 41), .long x1, .int x3] S (fX2_reduce x1 x3 S) := by
  refine Ct.of (by decide) (Nat.le_of_ble_eq_true rfl) (fun Z hZ X => ?_)
  subst hZ
  show Go LC G Z 7 rV 0 [(0, .ref (G.2.1 41)), (1, .long x1), (3, .int x3)] [] S (fX2_reduce x1 x3 S) kz
  unfold fX2_reduce
  refine g_lload_n 1 X 1 dX2_reduce_0 rfl rfl rfl ?_
  refine g_lstore 3 X [(4, _), (0, _), (1, _), (3, _)] dX2_reduce_1 rfl (Nat.le_of_ble_eq_true rfl) rfl ?_
  refine g_iconst 4 X dX2_reduce_3 rfl ci_0 ?_
  refine g_istore 6 X [(6, _), (4, _), (0, _), (1, _), (3, _)] dX2_reduce_4 rfl (Nat.le_of_ble_eq_true rfl) rfl ?_
  refine g_joinK 33 (fun (a6 : Int64 × Int32) => [(0, .ref (G.2.1 41)), (3, .int x3), (4, .long a6.1), (6, .int a6.2)]) (fun (a6 : Int64 × Int32) => []) (fun a6 S7 => ?_) (fun J3 => ?_)
  · refine g_aload_n 34 X 0 dX2_reduce_33 rfl rfl rfl ?_
    refine g_lload 36 X 2 dX2_reduce_34 rfl rfl ?_
    refine g_putl 39 X rfl flX2_22 fp_2_4 rfl dX2_reduce_36 rfl ?_
    refine g_aload_n 40 X 0 dX2_reduce_39 rfl rfl rfl ?_
    refine g_lconst (v := (1 : Int64)) 41 X dX2_reduce_40 rfl (by decide) ?_
    refine g_iload_n 42 X 1 dX2_reduce_41 rfl rfl rfl ?_
    refine g_iload 44 X 3 dX2_reduce_42 rfl rfl ?_
    refine g_isub 45 X dX2_reduce_44 rfl ?_
    refine g_lshl 46 X dX2_reduce_45 rfl ?_
    refine g_putl 49 X rfl flX2_26 fp_2_5 rfl dX2_reduce_46 rfl ?_
    exact g_vret X dX2_reduce_49 rfl
  · refine g_sub [2, 4, 1, 0] rfl (g_lp (fun (a1 : Int64 × Int32) => [(0, .ref (G.2.1 41)), (3, .int x3), (4, .long a1.1), (6, .int a1.2)]) (fun rec5 ih4 a1 S2 => ?_) fl (x1, (0 : Int32)) _)
    unfold bX2_reduce_6
    refine g_iload 8 X 3 dX2_reduce_6 rfl rfl ?_
    refine g_iload_n 9 X 1 dX2_reduce_8 rfl rfl rfl ?_
    refine g_icmp_ge 33 12 X dX2_reduce_9 (by decide) rfl (fun _ => ?_) (fun _ => ?_)
    · exact g_sub [0, 1, 2, 3] rfl (J3 (a1.1, a1.2) _)
    · refine g_lload 14 X 2 dX2_reduce_12 rfl rfl ?_
      refine g_lconst (v := (1 : Int64)) 15 X dX2_reduce_14 rfl (by decide) ?_
      refine g_land 16 X dX2_reduce_15 rfl ?_
      refine g_lconst (v := (0 : Int64)) 17 X dX2_reduce_16 rfl (by decide) ?_
      refine g_lcmp 18 X dX2_reduce_17 rfl ?_
      refine g_if_ne 33 21 X dX2_reduce_18 (by decide) rfl (fun _ => ?_) (fun _ => ?_)
      · exact g_sub [0, 1, 2, 3] rfl (J3 (a1.1, a1.2) _)
      · refine g_lload 23 X 2 dX2_reduce_21 rfl rfl ?_
        refine g_iconst 24 X dX2_reduce_23 rfl ci_1 ?_
        refine g_lshr 25 X dX2_reduce_24 rfl ?_
        refine g_lstore 27 X [(4, _), (0, _), (3, _), (6, _)] dX2_reduce_25 rfl (Nat.le_of_ble_eq_true rfl) rfl ?_
        refine g_iinc 30 X 3 [(6, _), (4, _), (0, _), (3, _)] dX2_reduce_27 rfl rfl (ii_1 _) (Nat.le_of_ble_eq_true rfl) rfl ?_
        refine g_goto 6 X dX2_reduce_30 (by decide) ?_
        exact g_sub [2, 3, 1, 0] rfl (ih4 ((a1.1 >>> (Int32.toInt64 (1 : Int32) &&& 63)), (a1.2 + (1 : Int32))) _)
def bX3_follow_9 (c0 : Nat) (c1 : Nat) (c2 : Nat) (c3 : Int32) (rec : (Int32 × Int32) → Sg → Option ((Int32 × Int32) × Sg)) (a3 : Int32 × Int32) (S4 : Sg) : Option ((Int32 × Int32) × Sg) :=
  (if (20 : Int32) ≤ a3.2 then some ((a3.1, a3.2), S4) else (if (Int32.ofNat 20) ≤ a3.2 then some ((a3.1, a3.2), S4) else gd (ix a3.2 20) (bd (fX0_risenOn c1 a3.2 (S4.1 c2 (Int32.toNatClampNeg a3.2)) a3.1 S4) (fun r5 S6 => gd (ix a3.2 20) (gd (ix a3.2 20) (gd (ix a3.2 20) (bd ((if c3 ≤ ((sI S6 (c0 + 1) (Int32.toNatClampNeg a3.2) r5).1 c2 (Int32.toNatClampNeg a3.2)) then some ((0 : Int32), (sI S6 (c0 + 1) (Int32.toNatClampNeg a3.2) r5)) else some ((1 : Int32), (sI S6 (c0 + 1) (Int32.toNatClampNeg a3.2) r5)))) (fun (t7 : Int32) S8 => bd (fX0_weathered c1 a3.2 ((sI S6 (c0 + 1) (Int32.toNatClampNeg a3.2) r5).1 (c0 + 1) (Int32.toNatClampNeg a3.2)) a3.1 t7 S8) (fun r10 S11 => gd (ix a3.2 20) (rec (r10, (a3.2 + (1 : Int32))) (sI S11 (c0 + 2) (Int32.toNatClampNeg a3.2) r10)))))))))))
def fX3_follow (t : Nat) (t1 : Nat) (t2 : Nat) (x3 : Int32) (S : Sg) : Option (Unit × Sg) :=
  bd (fX0_freshStrengths t1 S) (fun r1 S2 => bd (lp (bX3_follow_9 t t1 t2 x3) fl (r1, (0 : Int32)) S2) (fun (a15 : Int32 × Int32) S16 => some ((), S16)))
set_option maxHeartbeats 4000000 in
set_option maxRecDepth 100000 in
theorem tX3_follow (G : Gd) (l : Launch) (D : Nat) (t : Nat) (ht : isCourse t) (t1 : Nat) (ht1 : isBoard t1) (t2 : Nat) (ht2 : isDamps t2) (x3 : Int32) (S : Sg) : Ct LC G l rV yX3_follow cX3_follow 6 none (D + 2) [.ref (G.2.1 t), .ref (G.2.1 t1), .ref (G.2.1 t2), .int x3] S (fX3_follow t t1 t2 x3 S) := by
  refine Ct.of (by decide) (Nat.le_of_ble_eq_true rfl) (fun Z hZ X => ?_)
  subst hZ
  show Go LC G Z 6 rV 0 [(0, .ref (G.2.1 t)), (1, .ref (G.2.1 t1)), (2, .ref (G.2.1 t2)), (3, .int x3)] [] S (fX3_follow t t1 t2 x3 S) kz
  unfold fX3_follow
  refine g_aload_n 1 X 1 dX3_follow_0 rfl rfl rfl ?_
  refine g_cVi0 4 X (tX0_freshStrengths _ _ (D + 1) _ ht1 _) mfX0_freshStrengths miX0_freshStrengths lkX3_18 (sBoard ht1) rfl rfl (Nat.le_of_ble_eq_true rfl) dX3_follow_1 rfl (fun r1 S2 => ?_)
  refine g_istore 6 X [(4, _), (0, _), (1, _), (2, _), (3, _)] dX3_follow_4 rfl (Nat.le_of_ble_eq_true rfl) rfl ?_
  refine g_iconst 7 X dX3_follow_6 rfl ci_0 ?_
  refine g_istore 9 X [(5, _), (4, _), (0, _), (1, _), (2, _), (3, _)] dX3_follow_7 rfl (Nat.le_of_ble_eq_true rfl) rfl ?_
  refine g_joinK 87 (fun (a15 : Int32 × Int32) => []) (fun (a15 : Int32 × Int32) => []) (fun a15 S16 => ?_) (fun J5 => ?_)
  · exact g_vret X dX3_follow_87 rfl
  · refine g_sub [2, 3, 4, 5, 1, 0] rfl (g_lp (fun (a3 : Int32 × Int32) => [(0, .ref (G.2.1 t)), (1, .ref (G.2.1 t1)), (2, .ref (G.2.1 t2)), (3, .int x3), (4, .int a3.1), (5, .int a3.2)]) (fun rec7 ih6 a3 S4 => ?_) fl (r1, (0 : Int32)) _)
    unfold bX3_follow_9
    refine g_iload 11 X 5 dX3_follow_9 rfl rfl ?_
    refine g_bipush 13 X dX3_follow_11 rfl cb_20 ?_
    refine g_icmp_ge 87 16 X dX3_follow_13 (by decide) rfl (fun _ => ?_) (fun _ => ?_)
    · exact g_sub [] rfl (J5 (a3.1, a3.2) _)
    · refine g_iload 18 X 5 dX3_follow_16 rfl rfl ?_
      refine g_aload_n 19 X 2 dX3_follow_18 rfl rfl rfl ?_
      refine g_alen 20 X (sDamps ht2) rfl dX3_follow_19 rfl ?_
      refine g_icmp_ge 87 23 X dX3_follow_20 (by decide) rfl (fun _ => ?_) (fun _ => ?_)
      · exact g_sub [] rfl (J5 (a3.1, a3.2) _)
      · refine g_aload_n 24 X 0 dX3_follow_23 rfl rfl rfl ?_
        refine g_getr 27 X (t + 1) (sCourse ht) flX3_9 rfl dX3_follow_24 rfl ?_
        refine g_iload 29 X 5 dX3_follow_27 rfl rfl ?_
        refine g_aload_n 30 X 1 dX3_follow_29 rfl rfl rfl ?_
        refine g_iload 32 X 5 dX3_follow_30 rfl rfl ?_
        refine g_aload_n 33 X 2 dX3_follow_32 rfl rfl rfl ?_
        refine g_iload 35 X 5 dX3_follow_33 rfl rfl ?_
        refine g_iald 36 X (sDamps ht2) dX3_follow_35 rfl ?_
        refine g_iload 38 X 4 dX3_follow_36 rfl rfl ?_
        refine g_cVi3 41 X (tX0_risenOn _ _ (D) _ ht1 _ _ _ _) mfX0_risenOn miX0_risenOn lkX3_24 (sBoard ht1) rfl rfl (Nat.le_of_ble_eq_true rfl) dX3_follow_38 rfl (fun r8 S9 => ?_)
        refine g_iast 42 X (sC20 ht 1 ⟨by decide, by decide⟩) dX3_follow_41 rfl ?_
        refine g_aload_n 43 X 1 dX3_follow_42 rfl rfl rfl ?_
        refine g_iload 45 X 5 dX3_follow_43 rfl rfl ?_
        refine g_aload_n 46 X 0 dX3_follow_45 rfl rfl rfl ?_
        refine g_getr 49 X (t + 1) (sCourse ht) flX3_9 rfl dX3_follow_46 rfl ?_
        refine g_iload 51 X 5 dX3_follow_49 rfl rfl ?_
        refine g_iald 52 X (sC20 ht 1 ⟨by decide, by decide⟩) dX3_follow_51 rfl ?_
        refine g_iload 54 X 4 dX3_follow_52 rfl rfl ?_
        refine g_aload_n 55 X 2 dX3_follow_54 rfl rfl rfl ?_
        refine g_iload 57 X 5 dX3_follow_55 rfl rfl ?_
        refine g_iald 58 X (sDamps ht2) dX3_follow_57 rfl ?_
        refine g_iload_n 59 X 3 dX3_follow_58 rfl rfl rfl ?_
        refine g_joinK 67 (fun (t10 : Int32) => [(0, .ref (G.2.1 t)), (1, .ref (G.2.1 t1)), (2, .ref (G.2.1 t2)), (3, .int x3), (5, .int a3.2)]) (fun (t10 : Int32) => [.int t10, .int a3.1, .int ((sI S9 (t + 1) (Int32.toNatClampNeg a3.2) r8).1 (t + 1) (Int32.toNatClampNeg a3.2)), .int a3.2, .ref (G.2.1 t1)]) (fun t10 S11 => ?_) (fun J12 => ?_)
        · refine g_cVi4 70 X (tX0_weathered _ _ (D + 1) _ ht1 _ _ _ _ _) mfX0_weathered miX0_weathered lkX3_28 (sBoard ht1) rfl rfl (Nat.le_of_ble_eq_true rfl) dX3_follow_67 rfl (fun r13 S14 => ?_)
          refine g_istore 72 X [(4, _), (0, _), (1, _), (2, _), (3, _), (5, _)] dX3_follow_70 rfl (Nat.le_of_ble_eq_true rfl) rfl ?_
          refine g_aload_n 73 X 1 dX3_follow_72 rfl rfl rfl ?_
          refine g_getr 76 X (t + 2) (sCourse ht) flX3_15 rfl dX3_follow_73 rfl ?_
          refine g_iload 78 X 5 dX3_follow_76 rfl rfl ?_
          refine g_iload 80 X 0 dX3_follow_78 rfl rfl ?_
          refine g_iast 81 X (sC20 ht 2 ⟨by decide, by decide⟩) dX3_follow_80 rfl ?_
          refine g_iinc 84 X 5 [(5, _), (4, _), (0, _), (1, _), (2, _), (3, _)] dX3_follow_81 rfl rfl (ii_1 _) (Nat.le_of_ble_eq_true rfl) rfl ?_
          refine g_goto 9 X dX3_follow_84 (by decide) ?_
          exact g_sub [2, 3, 4, 5, 1, 0] rfl (ih6 (r13, (a3.2 + (1 : Int32))) _)
        · refine g_icmp_ge 66 62 X dX3_follow_59 (by decide) rfl (fun _ => ?_) (fun _ => ?_)
          · refine g_iconst 67 X dX3_follow_66 rfl ci_0 ?_
            exact g_sub [0, 1, 2, 3, 5] rfl (J12 (0 : Int32) _)
          · refine g_iconst 63 X dX3_follow_62 rfl ci_1 ?_
            refine g_goto 67 X dX3_follow_63 (by decide) ?_
            exact g_sub [0, 1, 2, 3, 5] rfl (J12 (1 : Int32) _)
def bX3_upsOf_4 (c0 : Nat) (c1 : Int32) (rec : (Int32 × Int32) → Sg → Option ((Int32 × Int32) × Sg)) (a1 : Int32 × Int32) (S2 : Sg) : Option ((Int32 × Int32) × Sg) :=
  (if (20 : Int32) ≤ a1.2 then some ((a1.1, a1.2), S2) else gd (ix a1.2 20) (bd (fJ6_bitCount_0f7a4 ((S2.1 (c0 + 1) (Int32.toNatClampNeg a1.2)) &&& c1) S2) (fun r3 S4 => rec ((a1.1 + r3), (a1.2 + (1 : Int32))) S4)))
def fX3_upsOf (t : Nat) (x1 : Int32) (S : Sg) : Option (Int32 × Sg) :=
  bd (lp (bX3_upsOf_4 t x1) fl ((0 : Int32), (0 : Int32)) S) (fun (a8 : Int32 × Int32) S9 => some (a8.1, S9))
set_option maxHeartbeats 4000000 in
set_option maxRecDepth 100000 in
theorem tX3_upsOf (G : Gd) (l : Launch) (D : Nat) (t : Nat) (ht : isCourse t) (x1 : Int32) (S : Sg) : Ct LC G l rI yX3_upsOf cX3_upsOf 4 (some .int) (D + 1) [.ref (G.2.1 t), .int x1] S (fX3_upsOf t x1 S) := by
  refine Ct.of (by decide) (Nat.le_of_ble_eq_true rfl) (fun Z hZ X => ?_)
  subst hZ
  show Go LC G Z 4 rI 0 [(0, .ref (G.2.1 t)), (1, .int x1)] [] S (fX3_upsOf t x1 S) kz
  unfold fX3_upsOf
  refine g_iconst 1 X dX3_upsOf_0 rfl ci_0 ?_
  refine g_istore_n 2 X [(2, _), (0, _), (1, _)] dX3_upsOf_1 rfl rfl (Nat.le_of_ble_eq_true rfl) rfl ?_
  refine g_iconst 3 X dX3_upsOf_2 rfl ci_0 ?_
  refine g_istore_n 4 X [(3, _), (2, _), (0, _), (1, _)] dX3_upsOf_3 rfl rfl (Nat.le_of_ble_eq_true rfl) rfl ?_
  refine g_joinK 30 (fun (a8 : Int32 × Int32) => [(2, .int a8.1)]) (fun (a8 : Int32 × Int32) => []) (fun a8 S9 => ?_) (fun J3 => ?_)
  · refine g_iload_n 31 X 0 dX3_upsOf_30 rfl rfl rfl ?_
    exact g_iret X dX3_upsOf_31 rfl
  · refine g_sub [2, 3, 1, 0] rfl (g_lp (fun (a1 : Int32 × Int32) => [(0, .ref (G.2.1 t)), (1, .int x1), (2, .int a1.1), (3, .int a1.2)]) (fun rec5 ih4 a1 S2 => ?_) fl ((0 : Int32), (0 : Int32)) _)
    unfold bX3_upsOf_4
    refine g_iload_n 5 X 3 dX3_upsOf_4 rfl rfl rfl ?_
    refine g_bipush 7 X dX3_upsOf_5 rfl cb_20 ?_
    refine g_icmp_ge 30 10 X dX3_upsOf_7 (by decide) rfl (fun _ => ?_) (fun _ => ?_)
    · exact g_sub [2] rfl (J3 (a1.1, a1.2) _)
    · refine g_iload_n 11 X 2 dX3_upsOf_10 rfl rfl rfl ?_
      refine g_aload_n 12 X 0 dX3_upsOf_11 rfl rfl rfl ?_
      refine g_getr 15 X (t + 1) (sCourse ht) flX3_9 rfl dX3_upsOf_12 rfl ?_
      refine g_iload_n 16 X 3 dX3_upsOf_15 rfl rfl rfl ?_
      refine g_iald 17 X (sC20 ht 1 ⟨by decide, by decide⟩) dX3_upsOf_16 rfl ?_
      refine g_iload_n 18 X 1 dX3_upsOf_17 rfl rfl rfl ?_
      refine g_iand 19 X dX3_upsOf_18 rfl ?_
      refine g_cSi1 22 X (tJ6_bitCount_0f7a4 _ _ (D) _ _) mfJ6_bitCount_0f7a4 msJ6_bitCount_0f7a4 lkX3_32 (Nat.le_of_ble_eq_true rfl) dX3_upsOf_19 rfl (fun r6 S7 => ?_)
      refine g_iadd 23 X dX3_upsOf_22 rfl ?_
      refine g_istore_n 24 X [(2, _), (0, _), (1, _), (3, _)] dX3_upsOf_23 rfl rfl (Nat.le_of_ble_eq_true rfl) rfl ?_
      refine g_iinc 27 X 3 [(3, _), (2, _), (0, _), (1, _)] dX3_upsOf_24 rfl rfl (ii_1 _) (Nat.le_of_ble_eq_true rfl) rfl ?_
      refine g_goto 4 X dX3_upsOf_27 (by decide) ?_
      exact g_sub [2, 3, 1, 0] rfl (ih4 ((a1.1 + r6), (a1.2 + (1 : Int32))) _)
def fX3_total (t : Nat) (S : Sg) : Option (Int32 × Sg) :=
  bd (fX3_upsOf t (-1 : Int32) S) (fun r1 S2 => some (r1, S2))
set_option maxHeartbeats 4000000 in
set_option maxRecDepth 100000 in
theorem tX3_total (G : Gd) (l : Launch) (D : Nat) (t : Nat) (ht : isCourse t) (S : Sg) : Ct LC G l rI yX3_total cX3_total 1 (some .int) (D + 2) [.ref (G.2.1 t)] S (fX3_total t S) := by
  refine Ct.of (by decide) (Nat.le_of_ble_eq_true rfl) (fun Z hZ X => ?_)
  subst hZ
  show Go LC G Z 1 rI 0 [(0, .ref (G.2.1 t))] [] S (fX3_total t S) kz
  unfold fX3_total
  refine g_aload_n 1 X 0 dX3_total_0 rfl rfl rfl ?_
  refine g_iconst 2 X dX3_total_1 rfl ci_m1 ?_
  refine g_cVi1 5 X (tX3_upsOf _ _ (D) _ ht _ _) mfX3_upsOf miX3_upsOf lkX3_38 (sCourse ht) rfl rfl (Nat.le_of_ble_eq_true rfl) dX3_total_2 rfl (fun r1 S2 => ?_)
  exact g_iret X dX3_total_5 rfl
def bX3_daysWithSome_4 (c0 : Nat) (rec : (Int32 × Int32) → Sg → Option ((Int32 × Int32) × Sg)) (a1 : Int32 × Int32) (S2 : Sg) : Option ((Int32 × Int32) × Sg) :=
  (if (20 : Int32) ≤ a1.2 then some ((a1.1, a1.2), S2) else gd (ix a1.2 20) (bd ((if (S2.1 (c0 + 1) (Int32.toNatClampNeg a1.2)) = 0 then some (a1.1, S2) else some ((a1.1 + (1 : Int32)), S2))) (fun (t3 : Int32) S4 => rec (t3, (a1.2 + (1 : Int32))) S4)))
def fX3_daysWithSome (t : Nat) (S : Sg) : Option (Int32 × Sg) :=
  bd (lp (bX3_daysWithSome_4 t) fl ((0 : Int32), (0 : Int32)) S) (fun (a9 : Int32 × Int32) S10 => some (a9.1, S10))
set_option maxHeartbeats 4000000 in
set_option maxRecDepth 100000 in
theorem tX3_daysWithSome (G : Gd) (l : Launch) (D : Nat) (t : Nat) (ht : isCourse t) (S : Sg) : Ct LC G l rI yX3_daysWithSome cX3_daysWithSome 3 (some .int) (D + 0) [.ref (G.2.1 t)] S (fX3_daysWithSome t S) := by
  refine Ct.of (by decide) (Nat.le_of_ble_eq_true rfl) (fun Z hZ X => ?_)
  subst hZ
  show Go LC G Z 3 rI 0 [(0, .ref (G.2.1 t))] [] S (fX3_daysWithSome t S) kz
  unfold fX3_daysWithSome
  refine g_iconst 1 X dX3_daysWithSome_0 rfl ci_0 ?_
  refine g_istore_n 2 X [(1, _), (0, _)] dX3_daysWithSome_1 rfl rfl (Nat.le_of_ble_eq_true rfl) rfl ?_
  refine g_iconst 3 X dX3_daysWithSome_2 rfl ci_0 ?_
  refine g_istore_n 4 X [(2, _), (1, _), (0, _)] dX3_daysWithSome_3 rfl rfl (Nat.le_of_ble_eq_true rfl) rfl ?_
  refine g_joinK 28 (fun (a9 : Int32 × Int32) => [(1, .int a9.1)]) (fun (a9 : Int32 × Int32) => []) (fun a9 S10 => ?_) (fun J3 => ?_)
  · refine g_iload_n 29 X 0 dX3_daysWithSome_28 rfl rfl rfl ?_
    exact g_iret X dX3_daysWithSome_29 rfl
  · refine g_sub [2, 1, 0] rfl (g_lp (fun (a1 : Int32 × Int32) => [(0, .ref (G.2.1 t)), (1, .int a1.1), (2, .int a1.2)]) (fun rec5 ih4 a1 S2 => ?_) fl ((0 : Int32), (0 : Int32)) _)
    unfold bX3_daysWithSome_4
    refine g_iload_n 5 X 2 dX3_daysWithSome_4 rfl rfl rfl ?_
    refine g_bipush 7 X dX3_daysWithSome_5 rfl cb_20 ?_
    refine g_icmp_ge 28 10 X dX3_daysWithSome_7 (by decide) rfl (fun _ => ?_) (fun _ => ?_)
    · exact g_sub [1] rfl (J3 (a1.1, a1.2) _)
    · refine g_aload_n 11 X 0 dX3_daysWithSome_10 rfl rfl rfl ?_
      refine g_getr 14 X (t + 1) (sCourse ht) flX3_9 rfl dX3_daysWithSome_11 rfl ?_
      refine g_iload_n 15 X 2 dX3_daysWithSome_14 rfl rfl rfl ?_
      refine g_iald 16 X (sC20 ht 1 ⟨by decide, by decide⟩) dX3_daysWithSome_15 rfl ?_
      refine g_joinK 22 (fun (t6 : Int32) => [(0, .ref (G.2.1 t)), (1, .int t6), (2, .int a1.2)]) (fun (t6 : Int32) => []) (fun t6 S7 => ?_) (fun J8 => ?_)
      · refine g_iinc 25 X 2 [(2, _), (0, _), (1, _)] dX3_daysWithSome_22 rfl rfl (ii_1 _) (Nat.le_of_ble_eq_true rfl) rfl ?_
        refine g_goto 4 X dX3_daysWithSome_25 (by decide) ?_
        exact g_sub [1, 2, 0] rfl (ih4 (t6, (a1.2 + (1 : Int32))) _)
      · refine g_if_eq 22 19 X dX3_daysWithSome_16 (by decide) rfl (fun _ => ?_) (fun _ => ?_)
        · exact g_sub [0, 1, 2] rfl (J8 a1.1 _)
        · refine g_iinc 22 X 1 [(1, _), (0, _), (2, _)] dX3_daysWithSome_19 rfl rfl (ii_1 _) (Nat.le_of_ble_eq_true rfl) rfl ?_
          exact g_sub [1, 0, 2] rfl (J8 (a1.1 + (1 : Int32)) _)
def fX4_begin  (S : Sg) : Option (Unit × Sg) :=
  some ((), (sI (sI S 40 0 (-1 : Int32)) 40 1 (2147483647 : Int32)))
set_option maxHeartbeats 4000000 in
set_option maxRecDepth 100000 in
theorem tX4_begin (G : Gd) (l : Launch) (D : Nat)  (S : Sg) : Ct LC G l rV yX4_begin cX4_begin 1 none (D + 0) [.ref (G.2.1 40)] S (fX4_begin  S) := by
  refine Ct.of (by decide) (Nat.le_of_ble_eq_true rfl) (fun Z hZ X => ?_)
  subst hZ
  show Go LC G Z 1 rV 0 [(0, .ref (G.2.1 40))] [] S (fX4_begin  S) kz
  unfold fX4_begin
  refine g_aload_n 1 X 0 dX4_begin_0 rfl rfl rfl ?_
  refine g_iconst 2 X dX4_begin_1 rfl ci_m1 ?_
  refine g_puti 5 X rfl flX4_9 fp_4_0 rfl dX4_begin_2 rfl ?_
  refine g_aload_n 6 X 0 dX4_begin_5 rfl rfl rfl ?_
  refine g_ldc 8 X dX4_begin_6 rfl conX4_17 ?_
  refine g_puti 11 X rfl flX4_18 fp_4_1 rfl dX4_begin_8 rfl ?_
  exact g_vret X dX4_begin_11 rfl
def fX4_offer (x1 : Int32) (x2 : Int32) (S : Sg) : Option (Unit × Sg) :=
  (if (S.1 40 1) ≤ x2 then some ((), S) else some ((), (sI (sI S 40 0 x1) 40 1 x2)))
set_option maxHeartbeats 4000000 in
set_option maxRecDepth 100000 in
theorem tX4_offer (G : Gd) (l : Launch) (D : Nat) (x1 : Int32) (x2 : Int32) (S : Sg) : Ct LC G l rV yX4_offer cX4_offer 3 none (D + 0) [.ref (G.2.1 40), .int x1, .int x2] S (fX4_offer x1 x2 S) := by
  refine Ct.of (by decide) (Nat.le_of_ble_eq_true rfl) (fun Z hZ X => ?_)
  subst hZ
  show Go LC G Z 3 rV 0 [(0, .ref (G.2.1 40)), (1, .int x1), (2, .int x2)] [] S (fX4_offer x1 x2 S) kz
  unfold fX4_offer
  refine g_iload_n 1 X 2 dX4_offer_0 rfl rfl rfl ?_
  refine g_aload_n 2 X 0 dX4_offer_1 rfl rfl rfl ?_
  refine g_geti 5 X rfl flX4_18 rfl dX4_offer_2 rfl ?_
  refine g_icmp_ge 18 8 X dX4_offer_5 (by decide) rfl (fun _ => ?_) (fun _ => ?_)
  · exact g_vret X dX4_offer_18 rfl
  · refine g_aload_n 9 X 0 dX4_offer_8 rfl rfl rfl ?_
    refine g_iload_n 10 X 1 dX4_offer_9 rfl rfl rfl ?_
    refine g_puti 13 X rfl flX4_9 fp_4_0 rfl dX4_offer_10 rfl ?_
    refine g_aload_n 14 X 0 dX4_offer_13 rfl rfl rfl ?_
    refine g_iload_n 15 X 2 dX4_offer_14 rfl rfl rfl ?_
    refine g_puti 18 X rfl flX4_18 fp_4_1 rfl dX4_offer_15 rfl ?_
    exact g_vret X dX4_offer_18 rfl
def fX4_tell (x1 : Int32) (S : Sg) : Option (Int32 × Sg) :=
  (if x1 = 0 then some ((S.1 40 0), S) else some ((S.1 40 1), S))
set_option maxHeartbeats 4000000 in
set_option maxRecDepth 100000 in
theorem tX4_tell (G : Gd) (l : Launch) (D : Nat) (x1 : Int32) (S : Sg) : Ct LC G l rI yX4_tell cX4_tell 2 (some .int) (D + 0) [.ref (G.2.1 40), .int x1] S (fX4_tell x1 S) := by
  refine Ct.of (by decide) (Nat.le_of_ble_eq_true rfl) (fun Z hZ X => ?_)
  subst hZ
  show Go LC G Z 2 rI 0 [(0, .ref (G.2.1 40)), (1, .int x1)] [] S (fX4_tell x1 S) kz
  unfold fX4_tell
  refine g_iload_n 1 X 1 dX4_tell_0 rfl rfl rfl ?_
  refine g_if_ne 11 4 X dX4_tell_1 (by decide) rfl (fun _ => ?_) (fun _ => ?_)
  · refine g_aload_n 12 X 0 dX4_tell_11 rfl rfl rfl ?_
    refine g_geti 15 X rfl flX4_18 rfl dX4_tell_12 rfl ?_
    exact g_iret X dX4_tell_15 rfl
  · refine g_aload_n 5 X 0 dX4_tell_4 rfl rfl rfl ?_
    refine g_geti 8 X rfl flX4_9 rfl dX4_tell_5 rfl ?_
    refine g_goto 15 X dX4_tell_8 (by decide) ?_
    exact g_iret X dX4_tell_15 rfl
def bX5_renew_22 (c0 : Nat) (rec : Int32 → Sg → Option ((Int32) × Sg)) (a1 : Int32) (S2 : Sg) : Option ((Int32) × Sg) :=
  (if (60 : Int32) ≤ a1 then some (a1, S2) else gd (ix a1 60) (rec (a1 + (1 : Int32)) (sI S2 (c0 + 1) (Int32.toNatClampNeg a1) (0 : Int32))))
def fX5_renew (t : Nat) (x1 : Int32) (x2 : Int32) (S : Sg) : Option (Unit × Sg) :=
  bd (lp (bX5_renew_22 t) fl (0 : Int32) (sI (sI (sI S t 1 (0 : Int32)) t 2 x1) t 3 (if (60 : Int32) < x2 then (60 : Int32) else x2))) (fun (a6 : Int32) S7 => some ((), S7))
set_option maxHeartbeats 4000000 in
set_option maxRecDepth 100000 in
theorem tX5_renew (G : Gd) (l : Launch) (D : Nat) (t : Nat) (ht : isSheet t) (x1 : Int32) (x2 : Int32) (S : Sg) : Ct LC G l rV yX5_renew cX5_renew 4 none (D + 1) [.ref (G.2.1 t), .int x1, .int x2] S (fX5_renew t x1 x2 S) := by
  refine Ct.of (by decide) (Nat.le_of_ble_eq_true rfl) (fun Z hZ X => ?_)
  subst hZ
  show Go LC G Z 4 rV 0 [(0, .ref (G.2.1 t)), (1, .int x1), (2, .int x2)] [] S (fX5_renew t x1 x2 S) kz
  unfold fX5_renew
  refine g_aload_n 1 X 0 dX5_renew_0 rfl rfl rfl ?_
  refine g_iconst 2 X dX5_renew_1 rfl ci_0 ?_
  refine g_putz 5 X (sSheet ht) flX5_15 fp_5_1 rfl rfl dX5_renew_2 rfl ?_
  refine g_aload_n 6 X 0 dX5_renew_5 rfl rfl rfl ?_
  refine g_iload_n 7 X 1 dX5_renew_6 rfl rfl rfl ?_
  refine g_puti 10 X (sSheet ht) flX5_19 fp_5_2 rfl dX5_renew_7 rfl ?_
  refine g_aload_n 11 X 0 dX5_renew_10 rfl rfl rfl ?_
  refine g_iload_n 12 X 2 dX5_renew_11 rfl rfl rfl ?_
  refine g_bipush 14 X dX5_renew_12 rfl cb_60 ?_
  refine g_mmin 17 X lkX5_26 mm_min.1 mm_min.2.1 mm_min.2.2 (Nat.le_of_ble_eq_true rfl) dX5_renew_14 rfl ?_
  refine g_puti 20 X (sSheet ht) flX5_23 fp_5_3 rfl dX5_renew_17 rfl ?_
  refine g_iconst 21 X dX5_renew_20 rfl ci_0 ?_
  refine g_istore_n 22 X [(3, _), (0, _), (1, _), (2, _)] dX5_renew_21 rfl rfl (Nat.le_of_ble_eq_true rfl) rfl ?_
  refine g_joinK 41 (fun (a6 : Int32) => []) (fun (a6 : Int32) => []) (fun a6 S7 => ?_) (fun J3 => ?_)
  · exact g_vret X dX5_renew_41 rfl
  · refine g_sub [1, 0] rfl (g_lp (fun (a1 : Int32) => [(0, .ref (G.2.1 t)), (3, .int a1)]) (fun rec5 ih4 a1 S2 => ?_) fl (0 : Int32) _)
    unfold bX5_renew_22
    refine g_iload_n 23 X 1 dX5_renew_22 rfl rfl rfl ?_
    refine g_bipush 25 X dX5_renew_23 rfl cb_60 ?_
    refine g_icmp_ge 41 28 X dX5_renew_25 (by decide) rfl (fun _ => ?_) (fun _ => ?_)
    · exact g_sub [] rfl (J3 a1 _)
    · refine g_aload_n 29 X 0 dX5_renew_28 rfl rfl rfl ?_
      refine g_getr 32 X (t + 1) (sSheet ht) flX5_9 rfl dX5_renew_29 rfl ?_
      refine g_iload_n 33 X 1 dX5_renew_32 rfl rfl rfl ?_
      refine g_iconst 34 X dX5_renew_33 rfl ci_0 ?_
      refine g_iast 35 X (sSheetA ht) dX5_renew_34 rfl ?_
      refine g_iinc 38 X 1 [(3, _), (0, _)] dX5_renew_35 rfl rfl (ii_1 _) (Nat.le_of_ble_eq_true rfl) rfl ?_
      refine g_goto 22 X dX5_renew_38 (by decide) ?_
      exact g_sub [1, 0] rfl (ih4 (a1 + (1 : Int32)) _)
def fX5_findingAt (t : Nat) (x1 : Int32) (x2 : Int32) (S : Sg) : Option (Int32 × Sg) :=
  (if (S.1 t 1) = 0 then (if (S.1 t 2) = x1 then (if x2 < 0 then some ((2 : Int32), S) else (if (S.1 t 3) ≤ x2 then some ((2 : Int32), S) else some ((0 : Int32), S))) else some ((3 : Int32), S)) else some ((1 : Int32), S))
set_option maxHeartbeats 4000000 in
set_option maxRecDepth 100000 in
theorem tX5_findingAt (G : Gd) (l : Launch) (D : Nat) (t : Nat) (ht : isSheet t) (x1 : Int32) (x2 : Int32) (S : Sg) : Ct LC G l rI yX5_findingAt cX5_findingAt 3 (some .int) (D + 0) [.ref (G.2.1 t), .int x1, .int x2] S (fX5_findingAt t x1 x2 S) := by
  refine Ct.of (by decide) (Nat.le_of_ble_eq_true rfl) (fun Z hZ X => ?_)
  subst hZ
  show Go LC G Z 3 rI 0 [(0, .ref (G.2.1 t)), (1, .int x1), (2, .int x2)] [] S (fX5_findingAt t x1 x2 S) kz
  unfold fX5_findingAt
  refine g_aload_n 1 X 0 dX5_findingAt_0 rfl rfl rfl ?_
  refine g_geti 4 X (sSheet ht) flX5_15 rfl dX5_findingAt_1 rfl ?_
  refine g_if_eq 9 7 X dX5_findingAt_4 (by decide) rfl (fun _ => ?_) (fun _ => ?_)
  · refine g_aload_n 10 X 0 dX5_findingAt_9 rfl rfl rfl ?_
    refine g_geti 13 X (sSheet ht) flX5_19 rfl dX5_findingAt_10 rfl ?_
    refine g_iload_n 14 X 1 dX5_findingAt_13 rfl rfl rfl ?_
    refine g_icmp_eq 19 17 X dX5_findingAt_14 (by decide) rfl (fun _ => ?_) (fun _ => ?_)
    · refine g_iload_n 20 X 2 dX5_findingAt_19 rfl rfl rfl ?_
      refine g_if_lt 35 23 X dX5_findingAt_20 (by decide) rfl (fun _ => ?_) (fun _ => ?_)
      · refine g_iconst 36 X dX5_findingAt_35 rfl ci_2 ?_
        exact g_iret X dX5_findingAt_36 rfl
      · refine g_iload_n 24 X 2 dX5_findingAt_23 rfl rfl rfl ?_
        refine g_aload_n 25 X 0 dX5_findingAt_24 rfl rfl rfl ?_
        refine g_geti 28 X (sSheet ht) flX5_23 rfl dX5_findingAt_25 rfl ?_
        refine g_icmp_ge 35 31 X dX5_findingAt_28 (by decide) rfl (fun _ => ?_) (fun _ => ?_)
        · refine g_iconst 36 X dX5_findingAt_35 rfl ci_2 ?_
          exact g_iret X dX5_findingAt_36 rfl
        · refine g_iconst 32 X dX5_findingAt_31 rfl ci_0 ?_
          refine g_goto 36 X dX5_findingAt_32 (by decide) ?_
          exact g_iret X dX5_findingAt_36 rfl
    · refine g_iconst 18 X dX5_findingAt_17 rfl ci_3 ?_
      exact g_iret X dX5_findingAt_18 rfl
  · refine g_iconst 8 X dX5_findingAt_7 rfl ci_1 ?_
    exact g_iret X dX5_findingAt_8 rfl
def fX5_holds (t : Nat) (x1 : Int32) (x2 : Int32) (S : Sg) : Option (Int32 × Sg) :=
  (if x1 < 0 then some ((0 : Int32), S) else (if x2 < 0 then some ((0 : Int32), S) else (if (S.1 t 3) < x1 then some ((0 : Int32), S) else (if ((S.1 t 3) - x1) < x2 then some ((0 : Int32), S) else some ((1 : Int32), S)))))
set_option maxHeartbeats 4000000 in
set_option maxRecDepth 100000 in
theorem tX5_holds (G : Gd) (l : Launch) (D : Nat) (t : Nat) (ht : isSheet t) (x1 : Int32) (x2 : Int32) (S : Sg) : Ct LC G l rI yX5_holds cX5_holds 3 (some .boolean) (D + 0) [.ref (G.2.1 t), .int x1, .int x2] S (fX5_holds t x1 x2 S) := by
  refine Ct.of (by decide) (Nat.le_of_ble_eq_true rfl) (fun Z hZ X => ?_)
  subst hZ
  show Go LC G Z 3 rI 0 [(0, .ref (G.2.1 t)), (1, .int x1), (2, .int x2)] [] S (fX5_holds t x1 x2 S) kz
  unfold fX5_holds
  refine g_iload_n 1 X 1 dX5_holds_0 rfl rfl rfl ?_
  refine g_if_lt 30 4 X dX5_holds_1 (by decide) rfl (fun _ => ?_) (fun _ => ?_)
  · refine g_iconst 31 X dX5_holds_30 rfl ci_0 ?_
    exact g_zret X dX5_holds_31 rfl rfl
  · refine g_iload_n 5 X 2 dX5_holds_4 rfl rfl rfl ?_
    refine g_if_lt 30 8 X dX5_holds_5 (by decide) rfl (fun _ => ?_) (fun _ => ?_)
    · refine g_iconst 31 X dX5_holds_30 rfl ci_0 ?_
      exact g_zret X dX5_holds_31 rfl rfl
    · refine g_iload_n 9 X 1 dX5_holds_8 rfl rfl rfl ?_
      refine g_aload_n 10 X 0 dX5_holds_9 rfl rfl rfl ?_
      refine g_geti 13 X (sSheet ht) flX5_23 rfl dX5_holds_10 rfl ?_
      refine g_icmp_gt 30 16 X dX5_holds_13 (by decide) rfl (fun _ => ?_) (fun _ => ?_)
      · refine g_iconst 31 X dX5_holds_30 rfl ci_0 ?_
        exact g_zret X dX5_holds_31 rfl rfl
      · refine g_iload_n 17 X 2 dX5_holds_16 rfl rfl rfl ?_
        refine g_aload_n 18 X 0 dX5_holds_17 rfl rfl rfl ?_
        refine g_geti 21 X (sSheet ht) flX5_23 rfl dX5_holds_18 rfl ?_
        refine g_iload_n 22 X 1 dX5_holds_21 rfl rfl rfl ?_
        refine g_isub 23 X dX5_holds_22 rfl ?_
        refine g_icmp_gt 30 26 X dX5_holds_23 (by decide) rfl (fun _ => ?_) (fun _ => ?_)
        · refine g_iconst 31 X dX5_holds_30 rfl ci_0 ?_
          exact g_zret X dX5_holds_31 rfl rfl
        · refine g_iconst 27 X dX5_holds_26 rfl ci_1 ?_
          refine g_goto 31 X dX5_holds_27 (by decide) ?_
          exact g_zret X dX5_holds_31 rfl rfl
def fX6_add (x1 : Int32) (x2 : Int32) (x3 : Int32) (S : Sg) : Option (Int32 × Sg) :=
  (if (S.1 36 3) < (8 : Int32) then gd (ix (S.1 36 3) 8) (gd (ix ((sI S 37 (Int32.toNatClampNeg (S.1 36 3)) x1).1 36 3) 8) (gd (ix ((sI (sI S 37 (Int32.toNatClampNeg (S.1 36 3)) x1) 38 (Int32.toNatClampNeg ((sI S 37 (Int32.toNatClampNeg (S.1 36 3)) x1).1 36 3)) x2).1 36 3) 8) (some ((1 : Int32), (sI (sI (sI (sI S 37 (Int32.toNatClampNeg (S.1 36 3)) x1) 38 (Int32.toNatClampNeg ((sI S 37 (Int32.toNatClampNeg (S.1 36 3)) x1).1 36 3)) x2) 39 (Int32.toNatClampNeg ((sI (sI S 37 (Int32.toNatClampNeg (S.1 36 3)) x1) 38 (Int32.toNatClampNeg ((sI S 37 (Int32.toNatClampNeg (S.1 36 3)) x1).1 36 3)) x2).1 36 3)) x3) 36 3 (((sI (sI (sI S 37 (Int32.toNatClampNeg (S.1 36 3)) x1) 38 (Int32.toNatClampNeg ((sI S 37 (Int32.toNatClampNeg (S.1 36 3)) x1).1 36 3)) x2) 39 (Int32.toNatClampNeg ((sI (sI S 37 (Int32.toNatClampNeg (S.1 36 3)) x1) 38 (Int32.toNatClampNeg ((sI S 37 (Int32.toNatClampNeg (S.1 36 3)) x1).1 36 3)) x2).1 36 3)) x3).1 36 3) + (1 : Int32))))))) else some ((0 : Int32), S))
set_option maxHeartbeats 4000000 in
set_option maxRecDepth 100000 in
theorem tX6_add (G : Gd) (l : Launch) (D : Nat) (x1 : Int32) (x2 : Int32) (x3 : Int32) (S : Sg) : Ct LC G l rI yX6_add cX6_add 4 (some .boolean) (D + 0) [.ref (G.2.1 36), .int x1, .int x2, .int x3] S (fX6_add x1 x2 x3 S) := by
  refine Ct.of (by decide) (Nat.le_of_ble_eq_true rfl) (fun Z hZ X => ?_)
  subst hZ
  show Go LC G Z 4 rI 0 [(0, .ref (G.2.1 36)), (1, .int x1), (2, .int x2), (3, .int x3)] [] S (fX6_add x1 x2 x3 S) kz
  unfold fX6_add
  refine g_aload_n 1 X 0 dX6_add_0 rfl rfl rfl ?_
  refine g_geti 4 X rfl flX6_21 rfl dX6_add_1 rfl ?_
  refine g_bipush 6 X dX6_add_4 rfl cb_8 ?_
  refine g_icmp_lt 11 9 X dX6_add_6 (by decide) rfl (fun _ => ?_) (fun _ => ?_)
  · refine g_aload_n 12 X 0 dX6_add_11 rfl rfl rfl ?_
    refine g_getr 15 X 37 rfl flX6_9 rfl dX6_add_12 rfl ?_
    refine g_aload_n 16 X 0 dX6_add_15 rfl rfl rfl ?_
    refine g_geti 19 X rfl flX6_21 rfl dX6_add_16 rfl ?_
    refine g_iload_n 20 X 1 dX6_add_19 rfl rfl rfl ?_
    refine g_iast 21 X rfl dX6_add_20 rfl ?_
    refine g_aload_n 22 X 0 dX6_add_21 rfl rfl rfl ?_
    refine g_getr 25 X 38 rfl flX6_15 rfl dX6_add_22 rfl ?_
    refine g_aload_n 26 X 0 dX6_add_25 rfl rfl rfl ?_
    refine g_geti 29 X rfl flX6_21 rfl dX6_add_26 rfl ?_
    refine g_iload_n 30 X 2 dX6_add_29 rfl rfl rfl ?_
    refine g_iast 31 X rfl dX6_add_30 rfl ?_
    refine g_aload_n 32 X 0 dX6_add_31 rfl rfl rfl ?_
    refine g_getr 35 X 39 rfl flX6_18 rfl dX6_add_32 rfl ?_
    refine g_aload_n 36 X 0 dX6_add_35 rfl rfl rfl ?_
    refine g_geti 39 X rfl flX6_21 rfl dX6_add_36 rfl ?_
    refine g_iload_n 40 X 3 dX6_add_39 rfl rfl rfl ?_
    refine g_iast 41 X rfl dX6_add_40 rfl ?_
    refine g_aload_n 42 X 0 dX6_add_41 rfl rfl rfl ?_
    refine g_dup 43 X dX6_add_42 rfl rfl ?_
    refine g_geti 46 X rfl flX6_21 rfl dX6_add_43 rfl ?_
    refine g_iconst 47 X dX6_add_46 rfl ci_1 ?_
    refine g_iadd 48 X dX6_add_47 rfl ?_
    refine g_puti 51 X rfl flX6_21 fp_6_3 rfl dX6_add_48 rfl ?_
    refine g_iconst 52 X dX6_add_51 rfl ci_1 ?_
    exact g_zret X dX6_add_52 rfl rfl
  · refine g_iconst 10 X dX6_add_9 rfl ci_0 ?_
    exact g_zret X dX6_add_10 rfl rfl
def fX7_add (t : Nat) (x1 : Int32) (S : Sg) : Option (Int32 × Sg) :=
  (if (S.1 t 1) < (Int32.ofNat (tlen t)) then gd (ix (S.1 t 1) (tlen t)) (some ((1 : Int32), (sI (sI S (t + 1) (Int32.toNatClampNeg (S.1 t 1)) x1) t 1 (((sI S (t + 1) (Int32.toNatClampNeg (S.1 t 1)) x1).1 t 1) + (1 : Int32))))) else some ((0 : Int32), S))
set_option maxHeartbeats 4000000 in
set_option maxRecDepth 100000 in
theorem tX7_add (G : Gd) (l : Launch) (D : Nat) (t : Nat) (ht : isText t) (x1 : Int32) (S : Sg) : Ct LC G l rI yX7_add cX7_add 2 (some .boolean) (D + 0) [.ref (G.2.1 t), .int x1] S (fX7_add t x1 S) := by
  refine Ct.of (by decide) (Nat.le_of_ble_eq_true rfl) (fun Z hZ X => ?_)
  subst hZ
  show Go LC G Z 2 rI 0 [(0, .ref (G.2.1 t)), (1, .int x1)] [] S (fX7_add t x1 S) kz
  unfold fX7_add
  refine g_aload_n 1 X 0 dX7_add_0 rfl rfl rfl ?_
  refine g_geti 4 X (sText ht) flX7_9 rfl dX7_add_1 rfl ?_
  refine g_aload_n 5 X 0 dX7_add_4 rfl rfl rfl ?_
  refine g_getr 8 X (t + 1) (sText ht) flX7_21 rfl dX7_add_5 rfl ?_
  refine g_alen 9 X (sTextA ht) rfl dX7_add_8 rfl ?_
  refine g_icmp_lt 14 12 X dX7_add_9 (by decide) rfl (fun _ => ?_) (fun _ => ?_)
  · refine g_aload_n 15 X 0 dX7_add_14 rfl rfl rfl ?_
    refine g_getr 18 X (t + 1) (sText ht) flX7_21 rfl dX7_add_15 rfl ?_
    refine g_aload_n 19 X 0 dX7_add_18 rfl rfl rfl ?_
    refine g_geti 22 X (sText ht) flX7_9 rfl dX7_add_19 rfl ?_
    refine g_iload_n 23 X 1 dX7_add_22 rfl rfl rfl ?_
    refine g_iast 24 X (sTextA ht) dX7_add_23 rfl ?_
    refine g_aload_n 25 X 0 dX7_add_24 rfl rfl rfl ?_
    refine g_dup 26 X dX7_add_25 rfl rfl ?_
    refine g_geti 29 X (sText ht) flX7_9 rfl dX7_add_26 rfl ?_
    refine g_iconst 30 X dX7_add_29 rfl ci_1 ?_
    refine g_iadd 31 X dX7_add_30 rfl ?_
    refine g_puti 34 X (sText ht) flX7_9 fp_7_1 rfl dX7_add_31 rfl ?_
    refine g_iconst 35 X dX7_add_34 rfl ci_1 ?_
    exact g_zret X dX7_add_35 rfl rfl
  · refine g_iconst 13 X dX7_add_12 rfl ci_0 ?_
    exact g_zret X dX7_add_13 rfl rfl
def fX7_at (t : Nat) (x1 : Int32) (S : Sg) : Option (Int32 × Sg) :=
  (if x1 < 0 then some ((-1 : Int32), S) else (if (S.1 t 1) ≤ x1 then some ((-1 : Int32), S) else gd (ix x1 (tlen t)) (some ((S.1 (t + 1) (Int32.toNatClampNeg x1)), S))))
set_option maxHeartbeats 4000000 in
set_option maxRecDepth 100000 in
theorem tX7_at (G : Gd) (l : Launch) (D : Nat) (t : Nat) (ht : isText t) (x1 : Int32) (S : Sg) : Ct LC G l rI yX7_at cX7_at 2 (some .int) (D + 0) [.ref (G.2.1 t), .int x1] S (fX7_at t x1 S) := by
  refine Ct.of (by decide) (Nat.le_of_ble_eq_true rfl) (fun Z hZ X => ?_)
  subst hZ
  show Go LC G Z 2 rI 0 [(0, .ref (G.2.1 t)), (1, .int x1)] [] S (fX7_at t x1 S) kz
  unfold fX7_at
  refine g_iload_n 1 X 1 dX7_at_0 rfl rfl rfl ?_
  refine g_if_lt 21 4 X dX7_at_1 (by decide) rfl (fun _ => ?_) (fun _ => ?_)
  · refine g_iconst 22 X dX7_at_21 rfl ci_m1 ?_
    exact g_iret X dX7_at_22 rfl
  · refine g_iload_n 5 X 1 dX7_at_4 rfl rfl rfl ?_
    refine g_aload_n 6 X 0 dX7_at_5 rfl rfl rfl ?_
    refine g_geti 9 X (sText ht) flX7_9 rfl dX7_at_6 rfl ?_
    refine g_icmp_ge 21 12 X dX7_at_9 (by decide) rfl (fun _ => ?_) (fun _ => ?_)
    · refine g_iconst 22 X dX7_at_21 rfl ci_m1 ?_
      exact g_iret X dX7_at_22 rfl
    · refine g_aload_n 13 X 0 dX7_at_12 rfl rfl rfl ?_
      refine g_getr 16 X (t + 1) (sText ht) flX7_21 rfl dX7_at_13 rfl ?_
      refine g_iload_n 17 X 1 dX7_at_16 rfl rfl rfl ?_
      refine g_iald 18 X (sTextA ht) dX7_at_17 rfl ?_
      refine g_goto 22 X dX7_at_18 (by decide) ?_
      exact g_iret X dX7_at_22 rfl
def fX8_isText (x0 : Int32) (S : Sg) : Option (Int32 × Sg) :=
  (if x0 = 0 then some ((1 : Int32), S) else (if x0 = (1 : Int32) then some ((1 : Int32), S) else some ((0 : Int32), S)))
set_option maxHeartbeats 4000000 in
set_option maxRecDepth 100000 in
theorem tX8_isText (G : Gd) (l : Launch) (D : Nat) (x0 : Int32) (S : Sg) : Ct LC G l rI yX8_isText cX8_isText 1 (some .boolean) (D + 0) [.int x0] S (fX8_isText x0 S) := by
  refine Ct.of (by decide) (Nat.le_of_ble_eq_true rfl) (fun Z hZ X => ?_)
  subst hZ
  show Go LC G Z 1 rI 0 [(0, .int x0)] [] S (fX8_isText x0 S) kz
  unfold fX8_isText
  refine g_iload_n 1 X 0 dX8_isText_0 rfl rfl rfl ?_
  refine g_if_eq 9 4 X dX8_isText_1 (by decide) rfl (fun _ => ?_) (fun _ => ?_)
  · refine g_iconst 10 X dX8_isText_9 rfl ci_1 ?_
    refine g_goto 14 X dX8_isText_10 (by decide) ?_
    exact g_zret X dX8_isText_14 rfl rfl
  · refine g_iload_n 5 X 0 dX8_isText_4 rfl rfl rfl ?_
    refine g_iconst 6 X dX8_isText_5 rfl ci_1 ?_
    refine g_icmp_ne 13 9 X dX8_isText_6 (by decide) rfl (fun _ => ?_) (fun _ => ?_)
    · refine g_iconst 14 X dX8_isText_13 rfl ci_0 ?_
      exact g_zret X dX8_isText_14 rfl rfl
    · refine g_iconst 10 X dX8_isText_9 rfl ci_1 ?_
      refine g_goto 14 X dX8_isText_10 (by decide) ?_
      exact g_zret X dX8_isText_14 rfl rfl
def fX8_textOf (x1 : Int32) (S : Sg) : Option (Nat × Sg) :=
  (if x1 = 0 then some (1, S) else some (3, S))
set_option maxHeartbeats 4000000 in
set_option maxRecDepth 100000 in
theorem tX8_textOf (G : Gd) (l : Launch) (D : Nat) (x1 : Int32) (S : Sg) : Ct LC G l (rR G) yX8_textOf cX8_textOf 2 (some (.object "BoardRemembers$Text")) (D + 0) [.ref (G.2.1 0), .int x1] S (fX8_textOf x1 S) := by
  refine Ct.of (by decide) (Nat.le_of_ble_eq_true rfl) (fun Z hZ X => ?_)
  subst hZ
  show Go LC G Z 2 (rR G) 0 [(0, .ref (G.2.1 0)), (1, .int x1)] [] S (fX8_textOf x1 S) kz
  unfold fX8_textOf
  refine g_iload_n 1 X 1 dX8_textOf_0 rfl rfl rfl ?_
  refine g_if_ne 11 4 X dX8_textOf_1 (by decide) rfl (fun _ => ?_) (fun _ => ?_)
  · refine g_aload_n 12 X 0 dX8_textOf_11 rfl rfl rfl ?_
    refine g_getr 15 X 3 rfl flX8_18 rfl dX8_textOf_12 rfl ?_
    exact g_aret X dX8_textOf_15 rfl
  · refine g_aload_n 5 X 0 dX8_textOf_4 rfl rfl rfl ?_
    refine g_getr 8 X 1 rfl flX8_14 rfl dX8_textOf_5 rfl ?_
    refine g_goto 15 X dX8_textOf_8 (by decide) ?_
    exact g_aret X dX8_textOf_15 rfl
def fX8_type (x1 : Int32) (x2 : Int32) (S : Sg) : Option (Int32 × Sg) :=
  bd (fX8_isText x1 S) (fun r1 S2 => (if r1 = 0 then some ((-2 : Int32), S2) else (if x2 < 0 then some ((-2 : Int32), S2) else (if x2 ≤ (255 : Int32) then bd (fX8_textOf x1 S2) (fun r3 S4 => gd (txb r3) (bd (fX7_add r3 x2 S4) (fun r6 S7 => (if r6 = 0 then some ((-4 : Int32), S7) else some (((sI S7 0 17 (1 : Int32)).1 r3 1), (sI S7 0 17 (1 : Int32))))))) else some ((-2 : Int32), S2)))))
set_option maxHeartbeats 4000000 in
set_option maxRecDepth 100000 in
theorem tX8_type (G : Gd) (l : Launch) (D : Nat) (x1 : Int32) (x2 : Int32) (S : Sg) : Ct LC G l rI yX8_type cX8_type 4 (some .int) (D + 1) [.ref (G.2.1 0), .int x1, .int x2] S (fX8_type x1 x2 S) := by
  refine Ct.of (by decide) (Nat.le_of_ble_eq_true rfl) (fun Z hZ X => ?_)
  subst hZ
  show Go LC G Z 4 rI 0 [(0, .ref (G.2.1 0)), (1, .int x1), (2, .int x2)] [] S (fX8_type x1 x2 S) kz
  unfold fX8_type
  refine g_iload_n 1 X 1 dX8_type_0 rfl rfl rfl ?_
  refine g_cSi1 4 X (tX8_isText _ _ (D) _ _) mfX8_isText msX8_isText lkX8_100 (Nat.le_of_ble_eq_true rfl) dX8_type_1 rfl (fun r1 S2 => ?_)
  refine g_if_eq 18 7 X dX8_type_4 (by decide) rfl (fun _ => ?_) (fun _ => ?_)
  · refine g_bipush 20 X dX8_type_18 rfl cb_m2 ?_
    exact g_iret X dX8_type_20 rfl
  · refine g_iload_n 8 X 2 dX8_type_7 rfl rfl rfl ?_
    refine g_if_lt 18 11 X dX8_type_8 (by decide) rfl (fun _ => ?_) (fun _ => ?_)
    · refine g_bipush 20 X dX8_type_18 rfl cb_m2 ?_
      exact g_iret X dX8_type_20 rfl
    · refine g_iload_n 12 X 2 dX8_type_11 rfl rfl rfl ?_
      refine g_sipush 15 X dX8_type_12 rfl cs_255 ?_
      refine g_icmp_le 21 18 X dX8_type_15 (by decide) rfl (fun _ => ?_) (fun _ => ?_)
      · refine g_aload_n 22 X 0 dX8_type_21 rfl rfl rfl ?_
        refine g_iload_n 23 X 1 dX8_type_22 rfl rfl rfl ?_
        refine g_cVr1 26 X (tX8_textOf _ _ (D) _ _) mfX8_textOf miX8_textOf lkX8_104 rfl rfl rfl (Nat.le_of_ble_eq_true rfl) dX8_type_23 rfl (fun r3 S4 => ?_)
        refine g_gd (fun htx5 => ?_)
        refine g_astore_n 27 X [(3, _), (0, _), (1, _), (2, _)] dX8_type_26 rfl rfl (Nat.le_of_ble_eq_true rfl) rfl ?_
        refine g_aload_n 28 X 0 dX8_type_27 rfl rfl rfl ?_
        refine g_iload_n 29 X 3 dX8_type_28 rfl rfl rfl ?_
        refine g_cVi1 32 X (tX7_add _ _ (D) _ (isText_b htx5) _ _) mfX7_add miX7_add lkX8_108 (sText (isText_b htx5)) rfl rfl (Nat.le_of_ble_eq_true rfl) dX8_type_29 rfl (fun r6 S7 => ?_)
        refine g_if_ne 38 35 X dX8_type_32 (by decide) rfl (fun _ => ?_) (fun _ => ?_)
        · refine g_aload_n 39 X 1 dX8_type_38 rfl rfl rfl ?_
          refine g_iconst 40 X dX8_type_39 rfl ci_1 ?_
          refine g_putz 43 X rfl flX8_95 fp_8_17 rfl rfl dX8_type_40 rfl ?_
          refine g_aload_n 44 X 0 dX8_type_43 rfl rfl rfl ?_
          refine g_geti 47 X (sText (isText_b htx5)) flX8_111 rfl dX8_type_44 rfl ?_
          exact g_iret X dX8_type_47 rfl
        · refine g_bipush 37 X dX8_type_35 rfl cb_m4 ?_
          exact g_iret X dX8_type_37 rfl
      · refine g_bipush 20 X dX8_type_18 rfl cb_m2 ?_
        exact g_iret X dX8_type_20 rfl
def fX8_wipe (x1 : Int32) (S : Sg) : Option (Int32 × Sg) :=
  bd (fX8_isText x1 S) (fun r1 S2 => (if r1 = 0 then some ((-2 : Int32), S2) else bd (fX8_textOf x1 S2) (fun r3 S4 => gd (txb r3) (some ((S4.1 r3 1), (sI (sI S4 r3 1 (0 : Int32)) 0 17 (1 : Int32)))))))
set_option maxHeartbeats 4000000 in
set_option maxRecDepth 100000 in
theorem tX8_wipe (G : Gd) (l : Launch) (D : Nat) (x1 : Int32) (S : Sg) : Ct LC G l rI yX8_wipe cX8_wipe 4 (some .int) (D + 1) [.ref (G.2.1 0), .int x1] S (fX8_wipe x1 S) := by
  refine Ct.of (by decide) (Nat.le_of_ble_eq_true rfl) (fun Z hZ X => ?_)
  subst hZ
  show Go LC G Z 4 rI 0 [(0, .ref (G.2.1 0)), (1, .int x1)] [] S (fX8_wipe x1 S) kz
  unfold fX8_wipe
  refine g_iload_n 1 X 1 dX8_wipe_0 rfl rfl rfl ?_
  refine g_cSi1 4 X (tX8_isText _ _ (D) _ _) mfX8_isText msX8_isText lkX8_100 (Nat.le_of_ble_eq_true rfl) dX8_wipe_1 rfl (fun r1 S2 => ?_)
  refine g_if_ne 10 7 X dX8_wipe_4 (by decide) rfl (fun _ => ?_) (fun _ => ?_)
  · refine g_aload_n 11 X 0 dX8_wipe_10 rfl rfl rfl ?_
    refine g_iload_n 12 X 1 dX8_wipe_11 rfl rfl rfl ?_
    refine g_cVr1 15 X (tX8_textOf _ _ (D) _ _) mfX8_textOf miX8_textOf lkX8_104 rfl rfl rfl (Nat.le_of_ble_eq_true rfl) dX8_wipe_12 rfl (fun r3 S4 => ?_)
    refine g_gd (fun htx5 => ?_)
    refine g_astore_n 16 X [(2, _), (0, _), (1, _)] dX8_wipe_15 rfl rfl (Nat.le_of_ble_eq_true rfl) rfl ?_
    refine g_aload_n 17 X 0 dX8_wipe_16 rfl rfl rfl ?_
    refine g_geti 20 X (sText (isText_b htx5)) flX8_111 rfl dX8_wipe_17 rfl ?_
    refine g_istore_n 21 X [(3, _), (2, _), (0, _), (1, _)] dX8_wipe_20 rfl rfl (Nat.le_of_ble_eq_true rfl) rfl ?_
    refine g_aload_n 22 X 1 dX8_wipe_21 rfl rfl rfl ?_
    refine g_iconst 23 X dX8_wipe_22 rfl ci_0 ?_
    refine g_puti 26 X (sText (isText_b htx5)) flX8_111 fp_7_1 rfl dX8_wipe_23 rfl ?_
    refine g_aload_n 27 X 2 dX8_wipe_26 rfl rfl rfl ?_
    refine g_iconst 28 X dX8_wipe_27 rfl ci_1 ?_
    refine g_putz 31 X rfl flX8_95 fp_8_17 rfl rfl dX8_wipe_28 rfl ?_
    refine g_iload_n 32 X 0 dX8_wipe_31 rfl rfl rfl ?_
    exact g_iret X dX8_wipe_32 rfl
  · refine g_bipush 9 X dX8_wipe_7 rfl cb_m2 ?_
    exact g_iret X dX8_wipe_9 rfl
def fX8_undo (x1 : Int32) (S : Sg) : Option (Int32 × Sg) :=
  bd (fX8_isText x1 S) (fun r1 S2 => (if r1 = 0 then some ((-2 : Int32), S2) else bd (fX8_textOf x1 S2) (fun r3 S4 => gd (txb r3) ((if (S4.1 r3 1) = 0 then some ((-3 : Int32), S4) else some (((sI (sI S4 r3 1 ((S4.1 r3 1) - (1 : Int32))) 0 17 (1 : Int32)).1 r3 1), (sI (sI S4 r3 1 ((S4.1 r3 1) - (1 : Int32))) 0 17 (1 : Int32))))))))
set_option maxHeartbeats 4000000 in
set_option maxRecDepth 100000 in
theorem tX8_undo (G : Gd) (l : Launch) (D : Nat) (x1 : Int32) (S : Sg) : Ct LC G l rI yX8_undo cX8_undo 3 (some .int) (D + 1) [.ref (G.2.1 0), .int x1] S (fX8_undo x1 S) := by
  refine Ct.of (by decide) (Nat.le_of_ble_eq_true rfl) (fun Z hZ X => ?_)
  subst hZ
  show Go LC G Z 3 rI 0 [(0, .ref (G.2.1 0)), (1, .int x1)] [] S (fX8_undo x1 S) kz
  unfold fX8_undo
  refine g_iload_n 1 X 1 dX8_undo_0 rfl rfl rfl ?_
  refine g_cSi1 4 X (tX8_isText _ _ (D) _ _) mfX8_isText msX8_isText lkX8_100 (Nat.le_of_ble_eq_true rfl) dX8_undo_1 rfl (fun r1 S2 => ?_)
  refine g_if_ne 10 7 X dX8_undo_4 (by decide) rfl (fun _ => ?_) (fun _ => ?_)
  · refine g_aload_n 11 X 0 dX8_undo_10 rfl rfl rfl ?_
    refine g_iload_n 12 X 1 dX8_undo_11 rfl rfl rfl ?_
    refine g_cVr1 15 X (tX8_textOf _ _ (D) _ _) mfX8_textOf miX8_textOf lkX8_104 rfl rfl rfl (Nat.le_of_ble_eq_true rfl) dX8_undo_12 rfl (fun r3 S4 => ?_)
    refine g_gd (fun htx5 => ?_)
    refine g_astore_n 16 X [(2, _), (0, _), (1, _)] dX8_undo_15 rfl rfl (Nat.le_of_ble_eq_true rfl) rfl ?_
    refine g_aload_n 17 X 0 dX8_undo_16 rfl rfl rfl ?_
    refine g_geti 20 X (sText (isText_b htx5)) flX8_111 rfl dX8_undo_17 rfl ?_
    refine g_if_ne 26 23 X dX8_undo_20 (by decide) rfl (fun _ => ?_) (fun _ => ?_)
    · refine g_aload_n 27 X 0 dX8_undo_26 rfl rfl rfl ?_
      refine g_dup 28 X dX8_undo_27 rfl rfl ?_
      refine g_geti 31 X (sText (isText_b htx5)) flX8_111 rfl dX8_undo_28 rfl ?_
      refine g_iconst 32 X dX8_undo_31 rfl ci_1 ?_
      refine g_isub 33 X dX8_undo_32 rfl ?_
      refine g_puti 36 X (sText (isText_b htx5)) flX8_111 fp_7_1 rfl dX8_undo_33 rfl ?_
      refine g_aload_n 37 X 1 dX8_undo_36 rfl rfl rfl ?_
      refine g_iconst 38 X dX8_undo_37 rfl ci_1 ?_
      refine g_putz 41 X rfl flX8_95 fp_8_17 rfl rfl dX8_undo_38 rfl ?_
      refine g_aload_n 42 X 0 dX8_undo_41 rfl rfl rfl ?_
      refine g_geti 45 X (sText (isText_b htx5)) flX8_111 rfl dX8_undo_42 rfl ?_
      exact g_iret X dX8_undo_45 rfl
    · refine g_bipush 25 X dX8_undo_23 rfl cb_m3 ?_
      exact g_iret X dX8_undo_25 rfl
  · refine g_bipush 9 X dX8_undo_7 rfl cb_m2 ?_
    exact g_iret X dX8_undo_9 rfl
def fX8_isWithin (x0 : Int32) (x1 : Int32) (x2 : Int32) (S : Sg) : Option (Int32 × Sg) :=
  (if x0 < x1 then some ((0 : Int32), S) else (if x2 < x0 then some ((0 : Int32), S) else some ((1 : Int32), S)))
set_option maxHeartbeats 4000000 in
set_option maxRecDepth 100000 in
theorem tX8_isWithin (G : Gd) (l : Launch) (D : Nat) (x0 : Int32) (x1 : Int32) (x2 : Int32) (S : Sg) : Ct LC G l rI yX8_isWithin cX8_isWithin 3 (some .boolean) (D + 0) [.int x0, .int x1, .int x2] S (fX8_isWithin x0 x1 x2 S) := by
  refine Ct.of (by decide) (Nat.le_of_ble_eq_true rfl) (fun Z hZ X => ?_)
  subst hZ
  show Go LC G Z 3 rI 0 [(0, .int x0), (1, .int x1), (2, .int x2)] [] S (fX8_isWithin x0 x1 x2 S) kz
  unfold fX8_isWithin
  refine g_iload_n 1 X 0 dX8_isWithin_0 rfl rfl rfl ?_
  refine g_iload_n 2 X 1 dX8_isWithin_1 rfl rfl rfl ?_
  refine g_icmp_lt 14 5 X dX8_isWithin_2 (by decide) rfl (fun _ => ?_) (fun _ => ?_)
  · refine g_iconst 15 X dX8_isWithin_14 rfl ci_0 ?_
    exact g_zret X dX8_isWithin_15 rfl rfl
  · refine g_iload_n 6 X 0 dX8_isWithin_5 rfl rfl rfl ?_
    refine g_iload_n 7 X 2 dX8_isWithin_6 rfl rfl rfl ?_
    refine g_icmp_gt 14 10 X dX8_isWithin_7 (by decide) rfl (fun _ => ?_) (fun _ => ?_)
    · refine g_iconst 15 X dX8_isWithin_14 rfl ci_0 ?_
      exact g_zret X dX8_isWithin_15 rfl rfl
    · refine g_iconst 11 X dX8_isWithin_10 rfl ci_1 ?_
      refine g_goto 15 X dX8_isWithin_11 (by decide) ?_
      exact g_zret X dX8_isWithin_15 rfl rfl
def bX8_faultOfDamps_2 (rec : Int32 → Sg → Option (((Int32) ⊕ Int32) × Sg)) (a1 : Int32) (S2 : Sg) : Option (((Int32) ⊕ Int32) × Sg) :=
  (if (S2.1 1 1) ≤ a1 then some (.inl a1, S2) else bd (fX7_at 1 a1 S2) (fun r3 S4 => bd (fX8_isWithin r3 (48 : Int32) (57 : Int32) S4) (fun r5 S6 => (if r5 = 0 then some (.inr a1, S6) else rec (a1 + (1 : Int32)) S6))))
def fX8_faultOfDamps  (S : Sg) : Option (Int32 × Sg) :=
  bd (lp (bX8_faultOfDamps_2) fl (0 : Int32) S) (se (fun (a10 : Int32) S11 => some ((-1 : Int32), S11)) (fun (v : Int32) S11 => some (v, S11)))
set_option maxHeartbeats 4000000 in
set_option maxRecDepth 100000 in
theorem tX8_faultOfDamps (G : Gd) (l : Launch) (D : Nat)  (S : Sg) : Ct LC G l rI yX8_faultOfDamps cX8_faultOfDamps 2 (some .int) (D + 1) [.ref (G.2.1 0)] S (fX8_faultOfDamps  S) := by
  refine Ct.of (by decide) (Nat.le_of_ble_eq_true rfl) (fun Z hZ X => ?_)
  subst hZ
  show Go LC G Z 2 rI 0 [(0, .ref (G.2.1 0))] [] S (fX8_faultOfDamps  S) kz
  unfold fX8_faultOfDamps
  refine g_iconst 1 X dX8_faultOfDamps_0 rfl ci_0 ?_
  refine g_istore_n 2 X [(1, _), (0, _)] dX8_faultOfDamps_1 rfl rfl (Nat.le_of_ble_eq_true rfl) rfl ?_
  refine g_joinR 39 (fun (a10 : Int32) => []) (fun (a10 : Int32) => []) (fun a10 S11 => ?_) (fun J3 => ?_)
  · refine g_iconst 40 X dX8_faultOfDamps_39 rfl ci_m1 ?_
    exact g_iret X dX8_faultOfDamps_40 rfl
  · refine g_sub [1, 0] rfl (g_lp (fun (a1 : Int32) => [(0, .ref (G.2.1 0)), (1, .int a1)]) (fun rec5 ih4 a1 S2 => ?_) fl (0 : Int32) _)
    unfold bX8_faultOfDamps_2
    refine g_iload_n 3 X 1 dX8_faultOfDamps_2 rfl rfl rfl ?_
    refine g_aload_n 4 X 0 dX8_faultOfDamps_3 rfl rfl rfl ?_
    refine g_getr 7 X 1 rfl flX8_14 rfl dX8_faultOfDamps_4 rfl ?_
    refine g_geti 10 X (sText (Or.inl rfl)) flX8_111 rfl dX8_faultOfDamps_7 rfl ?_
    refine g_icmp_ge 39 13 X dX8_faultOfDamps_10 (by decide) rfl (fun _ => ?_) (fun _ => ?_)
    · exact g_sub [] rfl (J3 a1 _)
    · refine g_aload_n 14 X 0 dX8_faultOfDamps_13 rfl rfl rfl ?_
      refine g_getr 17 X 1 rfl flX8_14 rfl dX8_faultOfDamps_14 rfl ?_
      refine g_iload_n 18 X 1 dX8_faultOfDamps_17 rfl rfl rfl ?_
      refine g_cVi1 21 X (tX7_at _ _ (D) _ (Or.inl rfl) _ _) mfX7_at miX7_at lkX8_405 (sText (Or.inl rfl)) rfl rfl (Nat.le_of_ble_eq_true rfl) dX8_faultOfDamps_18 rfl (fun r6 S7 => ?_)
      refine g_bipush 23 X dX8_faultOfDamps_21 rfl cb_48 ?_
      refine g_bipush 25 X dX8_faultOfDamps_23 rfl cb_57 ?_
      refine g_cSi3 28 X (tX8_isWithin _ _ (D) _ _ _ _) mfX8_isWithin msX8_isWithin lkX8_408 (Nat.le_of_ble_eq_true rfl) dX8_faultOfDamps_25 rfl (fun r8 S9 => ?_)
      refine g_if_ne 33 31 X dX8_faultOfDamps_28 (by decide) rfl (fun _ => ?_) (fun _ => ?_)
      · refine g_iinc 36 X 1 [(1, _), (0, _)] dX8_faultOfDamps_33 rfl rfl (ii_1 _) (Nat.le_of_ble_eq_true rfl) rfl ?_
        refine g_goto 2 X dX8_faultOfDamps_36 (by decide) ?_
        exact g_sub [1, 0] rfl (ih4 (a1 + (1 : Int32)) _)
      · refine g_iload_n 32 X 1 dX8_faultOfDamps_31 rfl rfl rfl ?_
        exact g_iret X dX8_faultOfDamps_32 rfl
def fX8_fitsStroke (x0 : Int32) (x1 : Int32) (S : Sg) : Option (Int32 × Sg) :=
  (if x0 = (0 : Int32) then bd (fX8_isWithin x1 (48 : Int32) (49 : Int32) S) (fun r7 S8 => gd (zb r7) (some (r7, S8))) else (if x0 = (1 : Int32) then bd (fX8_isWithin x1 (48 : Int32) (57 : Int32) S) (fun r9 S10 => gd (zb r9) (some (r9, S10))) else (if x0 = (2 : Int32) then bd (fX8_isWithin x1 (48 : Int32) (53 : Int32) S) (fun r11 S12 => gd (zb r11) (some (r11, S12))) else (if x0 = (3 : Int32) then bd (fX8_isWithin x1 (48 : Int32) (53 : Int32) S) (fun r13 S14 => gd (zb r13) (some (r13, S14))) else (if x0 = (4 : Int32) then bd (fX8_isWithin x1 (97 : Int32) (102 : Int32) S) (fun r15 S16 => gd (zb r15) (some (r15, S16))) else (if x0 = (5 : Int32) then bd (fX8_isWithin x1 (49 : Int32) (57 : Int32) S) (fun r17 S18 => gd (zb r17) (some (r17, S18))) else (if x1 = (59 : Int32) then some ((1 : Int32), S) else some ((0 : Int32), S))))))))
set_option maxHeartbeats 4000000 in
set_option maxRecDepth 100000 in
theorem tX8_fitsStroke (G : Gd) (l : Launch) (D : Nat) (x0 : Int32) (x1 : Int32) (S : Sg) : Ct LC G l rI yX8_fitsStroke cX8_fitsStroke 2 (some .boolean) (D + 1) [.int x0, .int x1] S (fX8_fitsStroke x0 x1 S) := by
  refine Ct.of (by decide) (Nat.le_of_ble_eq_true rfl) (fun Z hZ X => ?_)
  subst hZ
  show Go LC G Z 2 rI 0 [(0, .int x0), (1, .int x1)] [] S (fX8_fitsStroke x0 x1 S) kz
  unfold fX8_fitsStroke
  refine g_iload_n 1 X 0 dX8_fitsStroke_0 rfl rfl rfl ?_
  refine g_ite (fun hc1 => ?_) (fun hc1 => ?_)
  · refine g_tin 40 X (0 : Int32) hc1 dX8_fitsStroke_1 (by decide) (by decide) rfl (by decide) ?_
    refine g_iload_n 41 X 1 dX8_fitsStroke_40 rfl rfl rfl ?_
    refine g_bipush 43 X dX8_fitsStroke_41 rfl cb_48 ?_
    refine g_bipush 45 X dX8_fitsStroke_43 rfl cb_49 ?_
    refine g_cSi3 48 X (tX8_isWithin _ _ (D) _ _ _ _) mfX8_isWithin msX8_isWithin lkX8_408 (Nat.le_of_ble_eq_true rfl) dX8_fitsStroke_45 rfl (fun r7 S8 => ?_)
    exact g_gd (fun hz => g_zret X dX8_fitsStroke_48 hz rfl)
  refine g_ite (fun hc2 => ?_) (fun hc2 => ?_)
  · refine g_tin 49 X (1 : Int32) hc2 dX8_fitsStroke_1 (by decide) (by decide) rfl (by decide) ?_
    refine g_iload_n 50 X 1 dX8_fitsStroke_49 rfl rfl rfl ?_
    refine g_bipush 52 X dX8_fitsStroke_50 rfl cb_48 ?_
    refine g_bipush 54 X dX8_fitsStroke_52 rfl cb_57 ?_
    refine g_cSi3 57 X (tX8_isWithin _ _ (D) _ _ _ _) mfX8_isWithin msX8_isWithin lkX8_408 (Nat.le_of_ble_eq_true rfl) dX8_fitsStroke_54 rfl (fun r9 S10 => ?_)
    exact g_gd (fun hz => g_zret X dX8_fitsStroke_57 hz rfl)
  refine g_ite (fun hc3 => ?_) (fun hc3 => ?_)
  · refine g_tin 58 X (2 : Int32) hc3 dX8_fitsStroke_1 (by decide) (by decide) rfl (by decide) ?_
    refine g_iload_n 59 X 1 dX8_fitsStroke_58 rfl rfl rfl ?_
    refine g_bipush 61 X dX8_fitsStroke_59 rfl cb_48 ?_
    refine g_bipush 63 X dX8_fitsStroke_61 rfl cb_53 ?_
    refine g_cSi3 66 X (tX8_isWithin _ _ (D) _ _ _ _) mfX8_isWithin msX8_isWithin lkX8_408 (Nat.le_of_ble_eq_true rfl) dX8_fitsStroke_63 rfl (fun r11 S12 => ?_)
    exact g_gd (fun hz => g_zret X dX8_fitsStroke_66 hz rfl)
  refine g_ite (fun hc4 => ?_) (fun hc4 => ?_)
  · refine g_tin 58 X (3 : Int32) hc4 dX8_fitsStroke_1 (by decide) (by decide) rfl (by decide) ?_
    refine g_iload_n 59 X 1 dX8_fitsStroke_58 rfl rfl rfl ?_
    refine g_bipush 61 X dX8_fitsStroke_59 rfl cb_48 ?_
    refine g_bipush 63 X dX8_fitsStroke_61 rfl cb_53 ?_
    refine g_cSi3 66 X (tX8_isWithin _ _ (D) _ _ _ _) mfX8_isWithin msX8_isWithin lkX8_408 (Nat.le_of_ble_eq_true rfl) dX8_fitsStroke_63 rfl (fun r13 S14 => ?_)
    exact g_gd (fun hz => g_zret X dX8_fitsStroke_66 hz rfl)
  refine g_ite (fun hc5 => ?_) (fun hc5 => ?_)
  · refine g_tin 67 X (4 : Int32) hc5 dX8_fitsStroke_1 (by decide) (by decide) rfl (by decide) ?_
    refine g_iload_n 68 X 1 dX8_fitsStroke_67 rfl rfl rfl ?_
    refine g_bipush 70 X dX8_fitsStroke_68 rfl cb_97 ?_
    refine g_bipush 72 X dX8_fitsStroke_70 rfl cb_102 ?_
    refine g_cSi3 75 X (tX8_isWithin _ _ (D) _ _ _ _) mfX8_isWithin msX8_isWithin lkX8_408 (Nat.le_of_ble_eq_true rfl) dX8_fitsStroke_72 rfl (fun r15 S16 => ?_)
    exact g_gd (fun hz => g_zret X dX8_fitsStroke_75 hz rfl)
  refine g_ite (fun hc6 => ?_) (fun hc6 => ?_)
  · refine g_tin 76 X (5 : Int32) hc6 dX8_fitsStroke_1 (by decide) (by decide) rfl (by decide) ?_
    refine g_iload_n 77 X 1 dX8_fitsStroke_76 rfl rfl rfl ?_
    refine g_bipush 79 X dX8_fitsStroke_77 rfl cb_49 ?_
    refine g_bipush 81 X dX8_fitsStroke_79 rfl cb_57 ?_
    refine g_cSi3 84 X (tX8_isWithin _ _ (D) _ _ _ _) mfX8_isWithin msX8_isWithin lkX8_408 (Nat.le_of_ble_eq_true rfl) dX8_fitsStroke_81 rfl (fun r17 S18 => ?_)
    exact g_gd (fun hz => g_zret X dX8_fitsStroke_84 hz rfl)
  refine g_tout 85 X dX8_fitsStroke_1 (sw_out (fun k hk => ?_)) (by decide) ?_
  · have hk2 : k = 0 ∨ k = 1 ∨ k = 2 ∨ k = 3 ∨ k = 4 ∨ k = 5 := by omega
    rcases hk2 with rfl | rfl | rfl | rfl | rfl | rfl
    · exact fun hq => hc1 (Int32.toInt_inj.mp (by rw [hq]; rfl))
    · exact fun hq => hc2 (Int32.toInt_inj.mp (by rw [hq]; rfl))
    · exact fun hq => hc3 (Int32.toInt_inj.mp (by rw [hq]; rfl))
    · exact fun hq => hc4 (Int32.toInt_inj.mp (by rw [hq]; rfl))
    · exact fun hq => hc5 (Int32.toInt_inj.mp (by rw [hq]; rfl))
    · exact fun hq => hc6 (Int32.toInt_inj.mp (by rw [hq]; rfl))
  · refine g_iload_n 86 X 1 dX8_fitsStroke_85 rfl rfl rfl ?_
    refine g_bipush 88 X dX8_fitsStroke_86 rfl cb_59 ?_
    refine g_icmp_ne 95 91 X dX8_fitsStroke_88 (by decide) rfl (fun _ => ?_) (fun _ => ?_)
    · refine g_iconst 96 X dX8_fitsStroke_95 rfl ci_0 ?_
      exact g_zret X dX8_fitsStroke_96 rfl rfl
    · refine g_iconst 92 X dX8_fitsStroke_91 rfl ci_1 ?_
      refine g_goto 96 X dX8_fitsStroke_92 (by decide) ?_
      exact g_zret X dX8_fitsStroke_96 rfl rfl
def bX8_faultOfStrokes_10 (c1 : Int32) (rec : Int32 → Sg → Option (((Int32) ⊕ Int32) × Sg)) (a1 : Int32) (S2 : Sg) : Option (((Int32) ⊕ Int32) × Sg) :=
  (if c1 ≤ a1 then some (.inl a1, S2) else bd (fX7_at 3 a1 S2) (fun r3 S4 => bd (fX8_fitsStroke (a1 - a1 / (7 : Int32) * (7 : Int32)) r3 S4) (fun r5 S6 => (if r5 = 0 then some (.inr a1, S6) else rec (a1 + (1 : Int32)) S6))))
def fX8_faultOfStrokes  (S : Sg) : Option (Int32 × Sg) :=
  bd (lp (bX8_faultOfStrokes_10 (S.1 3 1)) fl (0 : Int32) S) (se (fun (a10 : Int32) S11 => (if (S.1 3 1) = 0 then some ((-1 : Int32), S11) else (if ((S.1 3 1) - (S.1 3 1) / (7 : Int32) * (7 : Int32)) = (6 : Int32) then some ((-1 : Int32), S11) else some ((S.1 3 1), S11)))) (fun (v : Int32) S11 => some (v, S11)))
set_option maxHeartbeats 4000000 in
set_option maxRecDepth 100000 in
theorem tX8_faultOfStrokes (G : Gd) (l : Launch) (D : Nat)  (S : Sg) : Ct LC G l rI yX8_faultOfStrokes cX8_faultOfStrokes 3 (some .int) (D + 2) [.ref (G.2.1 0)] S (fX8_faultOfStrokes  S) := by
  refine Ct.of (by decide) (Nat.le_of_ble_eq_true rfl) (fun Z hZ X => ?_)
  subst hZ
  show Go LC G Z 3 rI 0 [(0, .ref (G.2.1 0))] [] S (fX8_faultOfStrokes  S) kz
  unfold fX8_faultOfStrokes
  refine g_aload_n 1 X 0 dX8_faultOfStrokes_0 rfl rfl rfl ?_
  refine g_getr 4 X 3 rfl flX8_18 rfl dX8_faultOfStrokes_1 rfl ?_
  refine g_geti 7 X (sText (Or.inr rfl)) flX8_111 rfl dX8_faultOfStrokes_4 rfl ?_
  refine g_istore_n 8 X [(1, _), (0, _)] dX8_faultOfStrokes_7 rfl rfl (Nat.le_of_ble_eq_true rfl) rfl ?_
  refine g_iconst 9 X dX8_faultOfStrokes_8 rfl ci_0 ?_
  refine g_istore_n 10 X [(2, _), (1, _), (0, _)] dX8_faultOfStrokes_9 rfl rfl (Nat.le_of_ble_eq_true rfl) rfl ?_
  refine g_joinR 41 (fun (a10 : Int32) => [(1, .int (S.1 3 1))]) (fun (a10 : Int32) => []) (fun a10 S11 => ?_) (fun J3 => ?_)
  · refine g_iload_n 42 X 0 dX8_faultOfStrokes_41 rfl rfl rfl ?_
    refine g_if_eq 54 45 X dX8_faultOfStrokes_42 (by decide) rfl (fun _ => ?_) (fun _ => ?_)
    · refine g_iconst 55 X dX8_faultOfStrokes_54 rfl ci_m1 ?_
      refine g_goto 59 X dX8_faultOfStrokes_55 (by decide) ?_
      exact g_iret X dX8_faultOfStrokes_59 rfl
    · refine g_iload_n 46 X 0 dX8_faultOfStrokes_45 rfl rfl rfl ?_
      refine g_bipush 48 X dX8_faultOfStrokes_46 rfl cb_7 ?_
      refine g_irem 49 X dX8_faultOfStrokes_48 rfl (by decide) ?_
      refine g_bipush 51 X dX8_faultOfStrokes_49 rfl cb_6 ?_
      refine g_icmp_ne 58 54 X dX8_faultOfStrokes_51 (by decide) rfl (fun _ => ?_) (fun _ => ?_)
      · refine g_iload_n 59 X 0 dX8_faultOfStrokes_58 rfl rfl rfl ?_
        exact g_iret X dX8_faultOfStrokes_59 rfl
      · refine g_iconst 55 X dX8_faultOfStrokes_54 rfl ci_m1 ?_
        refine g_goto 59 X dX8_faultOfStrokes_55 (by decide) ?_
        exact g_iret X dX8_faultOfStrokes_59 rfl
  · refine g_sub [2, 1, 0] rfl (g_lp (fun (a1 : Int32) => [(0, .ref (G.2.1 0)), (1, .int (S.1 3 1)), (2, .int a1)]) (fun rec5 ih4 a1 S2 => ?_) fl (0 : Int32) _)
    unfold bX8_faultOfStrokes_10
    refine g_iload_n 11 X 2 dX8_faultOfStrokes_10 rfl rfl rfl ?_
    refine g_iload_n 12 X 1 dX8_faultOfStrokes_11 rfl rfl rfl ?_
    refine g_icmp_ge 41 15 X dX8_faultOfStrokes_12 (by decide) rfl (fun _ => ?_) (fun _ => ?_)
    · exact g_sub [1] rfl (J3 a1 _)
    · refine g_iload_n 16 X 2 dX8_faultOfStrokes_15 rfl rfl rfl ?_
      refine g_bipush 18 X dX8_faultOfStrokes_16 rfl cb_7 ?_
      refine g_irem 19 X dX8_faultOfStrokes_18 rfl (by decide) ?_
      refine g_aload_n 20 X 0 dX8_faultOfStrokes_19 rfl rfl rfl ?_
      refine g_getr 23 X 3 rfl flX8_18 rfl dX8_faultOfStrokes_20 rfl ?_
      refine g_iload_n 24 X 2 dX8_faultOfStrokes_23 rfl rfl rfl ?_
      refine g_cVi1 27 X (tX7_at _ _ (D + 1) _ (Or.inr rfl) _ _) mfX7_at miX7_at lkX8_405 (sText (Or.inr rfl)) rfl rfl (Nat.le_of_ble_eq_true rfl) dX8_faultOfStrokes_24 rfl (fun r6 S7 => ?_)
      refine g_cSi2 30 X (tX8_fitsStroke _ _ (D) _ _ _) mfX8_fitsStroke msX8_fitsStroke lkX8_411 (Nat.le_of_ble_eq_true rfl) dX8_faultOfStrokes_27 rfl (fun r8 S9 => ?_)
      refine g_if_ne 35 33 X dX8_faultOfStrokes_30 (by decide) rfl (fun _ => ?_) (fun _ => ?_)
      · refine g_iinc 38 X 2 [(2, _), (0, _), (1, _)] dX8_faultOfStrokes_35 rfl rfl (ii_1 _) (Nat.le_of_ble_eq_true rfl) rfl ?_
        refine g_goto 10 X dX8_faultOfStrokes_38 (by decide) ?_
        exact g_sub [1, 2, 0] rfl (ih4 (a1 + (1 : Int32)) _)
      · refine g_iload_n 34 X 2 dX8_faultOfStrokes_33 rfl rfl rfl ?_
        exact g_iret X dX8_faultOfStrokes_34 rfl
def fX8_fault (x1 : Int32) (S : Sg) : Option (Int32 × Sg) :=
  bd (fX8_isText x1 S) (fun r1 S2 => (if r1 = 0 then some ((-2 : Int32), S2) else (if x1 = 0 then bd (fX8_faultOfDamps S2) (fun r5 S6 => some (r5, S6)) else bd (fX8_faultOfStrokes S2) (fun r3 S4 => some (r3, S4)))))
set_option maxHeartbeats 4000000 in
set_option maxRecDepth 100000 in
theorem tX8_fault (G : Gd) (l : Launch) (D : Nat) (x1 : Int32) (S : Sg) : Ct LC G l rI yX8_fault cX8_fault 2 (some .int) (D + 3) [.ref (G.2.1 0), .int x1] S (fX8_fault x1 S) := by
  refine Ct.of (by decide) (Nat.le_of_ble_eq_true rfl) (fun Z hZ X => ?_)
  subst hZ
  show Go LC G Z 2 rI 0 [(0, .ref (G.2.1 0)), (1, .int x1)] [] S (fX8_fault x1 S) kz
  unfold fX8_fault
  refine g_iload_n 1 X 1 dX8_fault_0 rfl rfl rfl ?_
  refine g_cSi1 4 X (tX8_isText _ _ (D + 2) _ _) mfX8_isText msX8_isText lkX8_100 (Nat.le_of_ble_eq_true rfl) dX8_fault_1 rfl (fun r1 S2 => ?_)
  refine g_if_ne 10 7 X dX8_fault_4 (by decide) rfl (fun _ => ?_) (fun _ => ?_)
  · refine g_iload_n 11 X 1 dX8_fault_10 rfl rfl rfl ?_
    refine g_if_ne 21 14 X dX8_fault_11 (by decide) rfl (fun _ => ?_) (fun _ => ?_)
    · refine g_aload_n 22 X 0 dX8_fault_21 rfl rfl rfl ?_
      refine g_cVi0 25 X (tX8_faultOfStrokes _ _ (D)  _) mfX8_faultOfStrokes miX8_faultOfStrokes lkX8_118 rfl rfl rfl (Nat.le_of_ble_eq_true rfl) dX8_fault_22 rfl (fun r3 S4 => ?_)
      exact g_iret X dX8_fault_25 rfl
    · refine g_aload_n 15 X 0 dX8_fault_14 rfl rfl rfl ?_
      refine g_cVi0 18 X (tX8_faultOfDamps _ _ (D + 1)  _) mfX8_faultOfDamps miX8_faultOfDamps lkX8_114 rfl rfl rfl (Nat.le_of_ble_eq_true rfl) dX8_fault_15 rfl (fun r5 S6 => ?_)
      refine g_goto 25 X dX8_fault_18 (by decide) ?_
      exact g_iret X dX8_fault_25 rfl
  · refine g_bipush 9 X dX8_fault_7 rfl cb_m2 ?_
    exact g_iret X dX8_fault_9 rfl
def fX8_isDay (x0 : Int32) (S : Sg) : Option (Int32 × Sg) :=
  (if x0 < 0 then some ((0 : Int32), S) else (if (20 : Int32) ≤ x0 then some ((0 : Int32), S) else some ((1 : Int32), S)))
set_option maxHeartbeats 4000000 in
set_option maxRecDepth 100000 in
theorem tX8_isDay (G : Gd) (l : Launch) (D : Nat) (x0 : Int32) (S : Sg) : Ct LC G l rI yX8_isDay cX8_isDay 1 (some .boolean) (D + 0) [.int x0] S (fX8_isDay x0 S) := by
  refine Ct.of (by decide) (Nat.le_of_ble_eq_true rfl) (fun Z hZ X => ?_)
  subst hZ
  show Go LC G Z 1 rI 0 [(0, .int x0)] [] S (fX8_isDay x0 S) kz
  unfold fX8_isDay
  refine g_iload_n 1 X 0 dX8_isDay_0 rfl rfl rfl ?_
  refine g_if_lt 14 4 X dX8_isDay_1 (by decide) rfl (fun _ => ?_) (fun _ => ?_)
  · refine g_iconst 15 X dX8_isDay_14 rfl ci_0 ?_
    exact g_zret X dX8_isDay_15 rfl rfl
  · refine g_iload_n 5 X 0 dX8_isDay_4 rfl rfl rfl ?_
    refine g_bipush 7 X dX8_isDay_5 rfl cb_20 ?_
    refine g_icmp_ge 14 10 X dX8_isDay_7 (by decide) rfl (fun _ => ?_) (fun _ => ?_)
    · refine g_iconst 15 X dX8_isDay_14 rfl ci_0 ?_
      exact g_zret X dX8_isDay_15 rfl rfl
    · refine g_iconst 11 X dX8_isDay_10 rfl ci_1 ?_
      refine g_goto 15 X dX8_isDay_11 (by decide) ?_
      exact g_zret X dX8_isDay_15 rfl rfl
def bX8_parseDamps_30 (rec : Int32 → Sg → Option ((Int32) × Sg)) (a6 : Int32) (S7 : Sg) : Option ((Int32) × Sg) :=
  (if (20 : Int32) ≤ a6 then some (a6, S7) else bd ((if (S7.1 0 14) ≤ a6 then some ((0 : Int32), S7) else bd (fX7_at 1 a6 S7) (fun r11 S12 => some ((r11 - (48 : Int32)), S12)))) (fun (t8 : Int32) S9 => gd (ix a6 20) (rec (a6 + (1 : Int32)) (sI S9 5 (Int32.toNatClampNeg a6) t8))))
def fX8_parseDamps  (S : Sg) : Option (Unit × Sg) :=
  bd (fX8_faultOfDamps S) (fun r1 S2 => bd ((if r1 = (-1 : Int32) then some ((if (20 : Int32) < (S2.1 1 1) then (20 : Int32) else (S2.1 1 1)), S2) else some ((0 : Int32), S2))) (fun (t3 : Int32) S4 => bd (lp (bX8_parseDamps_30) fl (0 : Int32) (sI S4 0 14 t3)) (fun (a16 : Int32) S17 => some ((), S17))))
set_option maxHeartbeats 4000000 in
set_option maxRecDepth 100000 in
theorem tX8_parseDamps (G : Gd) (l : Launch) (D : Nat)  (S : Sg) : Ct LC G l rV yX8_parseDamps cX8_parseDamps 2 none (D + 2) [.ref (G.2.1 0)] S (fX8_parseDamps  S) := by
  refine Ct.of (by decide) (Nat.le_of_ble_eq_true rfl) (fun Z hZ X => ?_)
  subst hZ
  show Go LC G Z 2 rV 0 [(0, .ref (G.2.1 0))] [] S (fX8_parseDamps  S) kz
  unfold fX8_parseDamps
  refine g_aload_n 1 X 0 dX8_parseDamps_0 rfl rfl rfl ?_
  refine g_aload_n 2 X 0 dX8_parseDamps_1 rfl rfl rfl ?_
  refine g_cVi0 5 X (tX8_faultOfDamps _ _ (D)  _) mfX8_faultOfDamps miX8_faultOfDamps lkX8_114 rfl rfl rfl (Nat.le_of_ble_eq_true rfl) dX8_parseDamps_2 rfl (fun r1 S2 => ?_)
  refine g_iconst 6 X dX8_parseDamps_5 rfl ci_m1 ?_
  refine g_joinK 25 (fun (t3 : Int32) => [(0, .ref (G.2.1 0))]) (fun (t3 : Int32) => [.int t3, .ref (G.2.1 0)]) (fun t3 S4 => ?_) (fun J5 => ?_)
  · refine g_puti 28 X rfl flX8_85 fp_8_14 rfl dX8_parseDamps_25 rfl ?_
    refine g_iconst 29 X dX8_parseDamps_28 rfl ci_0 ?_
    refine g_istore_n 30 X [(1, _), (0, _)] dX8_parseDamps_29 rfl rfl (Nat.le_of_ble_eq_true rfl) rfl ?_
    refine g_joinK 71 (fun (a16 : Int32) => []) (fun (a16 : Int32) => []) (fun a16 S17 => ?_) (fun J8 => ?_)
    · exact g_vret X dX8_parseDamps_71 rfl
    · refine g_sub [1, 0] rfl (g_lp (fun (a6 : Int32) => [(0, .ref (G.2.1 0)), (1, .int a6)]) (fun rec10 ih9 a6 S7 => ?_) fl (0 : Int32) _)
      unfold bX8_parseDamps_30
      refine g_iload_n 31 X 1 dX8_parseDamps_30 rfl rfl rfl ?_
      refine g_bipush 33 X dX8_parseDamps_31 rfl cb_20 ?_
      refine g_icmp_ge 71 36 X dX8_parseDamps_33 (by decide) rfl (fun _ => ?_) (fun _ => ?_)
      · exact g_sub [] rfl (J8 a6 _)
      · refine g_aload_n 37 X 0 dX8_parseDamps_36 rfl rfl rfl ?_
        refine g_getr 40 X 5 rfl flX8_21 rfl dX8_parseDamps_37 rfl ?_
        refine g_iload_n 41 X 1 dX8_parseDamps_40 rfl rfl rfl ?_
        refine g_iload_n 42 X 1 dX8_parseDamps_41 rfl rfl rfl ?_
        refine g_aload_n 43 X 0 dX8_parseDamps_42 rfl rfl rfl ?_
        refine g_geti 46 X rfl flX8_85 rfl dX8_parseDamps_43 rfl ?_
        refine g_joinK 64 (fun (t11 : Int32) => [(0, .ref (G.2.1 0)), (1, .int a6)]) (fun (t11 : Int32) => [.int t11, .int a6, .ref (G.2.1 5)]) (fun t11 S12 => ?_) (fun J13 => ?_)
        · refine g_iast 65 X rfl dX8_parseDamps_64 rfl ?_
          refine g_iinc 68 X 1 [(1, _), (0, _)] dX8_parseDamps_65 rfl rfl (ii_1 _) (Nat.le_of_ble_eq_true rfl) rfl ?_
          refine g_goto 30 X dX8_parseDamps_68 (by decide) ?_
          exact g_sub [1, 0] rfl (ih9 (a6 + (1 : Int32)) _)
        · refine g_icmp_ge 63 49 X dX8_parseDamps_46 (by decide) rfl (fun _ => ?_) (fun _ => ?_)
          · refine g_iconst 64 X dX8_parseDamps_63 rfl ci_0 ?_
            exact g_sub [0, 1] rfl (J13 (0 : Int32) _)
          · refine g_aload_n 50 X 0 dX8_parseDamps_49 rfl rfl rfl ?_
            refine g_getr 53 X 1 rfl flX8_14 rfl dX8_parseDamps_50 rfl ?_
            refine g_iload_n 54 X 1 dX8_parseDamps_53 rfl rfl rfl ?_
            refine g_cVi1 57 X (tX7_at _ _ (D + 1) _ (Or.inl rfl) _ _) mfX7_at miX7_at lkX8_405 (sText (Or.inl rfl)) rfl rfl (Nat.le_of_ble_eq_true rfl) dX8_parseDamps_54 rfl (fun r14 S15 => ?_)
            refine g_bipush 59 X dX8_parseDamps_57 rfl cb_48 ?_
            refine g_isub 60 X dX8_parseDamps_59 rfl ?_
            refine g_goto 64 X dX8_parseDamps_60 (by decide) ?_
            exact g_sub [0, 1] rfl (J13 (r14 - (48 : Int32)) _)
  · refine g_icmp_ne 24 9 X dX8_parseDamps_6 (by decide) rfl (fun _ => ?_) (fun _ => ?_)
    · refine g_iconst 25 X dX8_parseDamps_24 rfl ci_0 ?_
      exact g_sub [0] rfl (J5 (0 : Int32) _)
    · refine g_aload_n 10 X 0 dX8_parseDamps_9 rfl rfl rfl ?_
      refine g_getr 13 X 1 rfl flX8_14 rfl dX8_parseDamps_10 rfl ?_
      refine g_geti 16 X (sText (Or.inl rfl)) flX8_111 rfl dX8_parseDamps_13 rfl ?_
      refine g_bipush 18 X dX8_parseDamps_16 rfl cb_20 ?_
      refine g_mmin 21 X lkX8_331 mm_min.1 mm_min.2.1 mm_min.2.2 (Nat.le_of_ble_eq_true rfl) dX8_parseDamps_18 rfl ?_
      refine g_goto 25 X dX8_parseDamps_21 (by decide) ?_
      exact g_sub [0] rfl (J5 (if (20 : Int32) < (S2.1 1 1) then (20 : Int32) else (S2.1 1 1)) _)
def bX8_parseStrokes_19 (rec : Int32 → Sg → Option ((Int32) × Sg)) (a3 : Int32) (S4 : Sg) : Option ((Int32) × Sg) :=
  (if (S4.1 3 1) ≤ a3 then some (a3, S4) else (if (8 : Int32) ≤ (S4.1 12 0) then some (a3, S4) else bd (fX7_at 3 a3 S4) (fun r5 S6 => bd (fX7_at 3 (a3 + (1 : Int32)) S6) (fun r7 S8 => gd (ix (S4.1 12 0) 8) (bd (fX7_at 3 (a3 + (2 : Int32)) (sI S8 13 (Int32.toNatClampNeg (S4.1 12 0)) ((((10 : Int32) * (r5 - (48 : Int32))) + r7) - (48 : Int32)))) (fun r9 S10 => bd (fX7_at 3 (a3 + (3 : Int32)) S10) (fun r11 S12 => gd (ix (S4.1 12 0) 8) (bd (fX7_at 3 (a3 + (4 : Int32)) (sI S12 14 (Int32.toNatClampNeg (S4.1 12 0)) ((((6 : Int32) * (r9 - (48 : Int32))) + r11) - (48 : Int32)))) (fun r13 S14 => gd (ix (S4.1 12 0) 8) (bd (fX7_at 3 (a3 + (5 : Int32)) (sI S14 15 (Int32.toNatClampNeg (S4.1 12 0)) (r13 - (97 : Int32)))) (fun r15 S16 => gd (ix (S4.1 12 0) 8) (rec (a3 + (7 : Int32)) (sI (sI S16 16 (Int32.toNatClampNeg (S4.1 12 0)) (r15 - (48 : Int32))) 12 0 (((sI S16 16 (Int32.toNatClampNeg (S4.1 12 0)) (r15 - (48 : Int32))).1 12 0) + (1 : Int32)))))))))))))))
def fX8_parseStrokes  (S : Sg) : Option (Unit × Sg) :=
  bd (fX8_faultOfStrokes (sI S 12 0 (0 : Int32))) (fun r1 S2 => (if r1 = (-1 : Int32) then bd (lp (bX8_parseStrokes_19) fl (0 : Int32) S2) (fun (a20 : Int32) S21 => some ((), S21)) else some ((), S2)))
set_option maxHeartbeats 4000000 in
set_option maxRecDepth 100000 in
theorem tX8_parseStrokes (G : Gd) (l : Launch) (D : Nat)  (S : Sg) : Ct LC G l rV yX8_parseStrokes cX8_parseStrokes 3 none (D + 3) [.ref (G.2.1 0)] S (fX8_parseStrokes  S) := by
  refine Ct.of (by decide) (Nat.le_of_ble_eq_true rfl) (fun Z hZ X => ?_)
  subst hZ
  show Go LC G Z 3 rV 0 [(0, .ref (G.2.1 0))] [] S (fX8_parseStrokes  S) kz
  unfold fX8_parseStrokes
  refine g_aload_n 1 X 0 dX8_parseStrokes_0 rfl rfl rfl ?_
  refine g_getr 4 X 12 rfl flX8_38 rfl dX8_parseStrokes_1 rfl ?_
  refine g_iconst 5 X dX8_parseStrokes_4 rfl ci_0 ?_
  refine g_puti 8 X rfl flX8_221 fp_0_0 rfl dX8_parseStrokes_5 rfl ?_
  refine g_aload_n 9 X 0 dX8_parseStrokes_8 rfl rfl rfl ?_
  refine g_cVi0 12 X (tX8_faultOfStrokes _ _ (D)  _) mfX8_faultOfStrokes miX8_faultOfStrokes lkX8_118 rfl rfl rfl (Nat.le_of_ble_eq_true rfl) dX8_parseStrokes_9 rfl (fun r1 S2 => ?_)
  refine g_iconst 13 X dX8_parseStrokes_12 rfl ci_m1 ?_
  refine g_icmp_eq 17 16 X dX8_parseStrokes_13 (by decide) rfl (fun _ => ?_) (fun _ => ?_)
  · refine g_iconst 18 X dX8_parseStrokes_17 rfl ci_0 ?_
    refine g_istore_n 19 X [(1, _), (0, _)] dX8_parseStrokes_18 rfl rfl (Nat.le_of_ble_eq_true rfl) rfl ?_
    refine g_joinK 189 (fun (a20 : Int32) => []) (fun (a20 : Int32) => []) (fun a20 S21 => ?_) (fun J5 => ?_)
    · exact g_vret X dX8_parseStrokes_189 rfl
    · refine g_sub [1, 0] rfl (g_lp (fun (a3 : Int32) => [(0, .ref (G.2.1 0)), (1, .int a3)]) (fun rec7 ih6 a3 S4 => ?_) fl (0 : Int32) _)
      unfold bX8_parseStrokes_19
      refine g_iload_n 20 X 1 dX8_parseStrokes_19 rfl rfl rfl ?_
      refine g_aload_n 21 X 0 dX8_parseStrokes_20 rfl rfl rfl ?_
      refine g_getr 24 X 3 rfl flX8_18 rfl dX8_parseStrokes_21 rfl ?_
      refine g_geti 27 X (sText (Or.inr rfl)) flX8_111 rfl dX8_parseStrokes_24 rfl ?_
      refine g_icmp_ge 189 30 X dX8_parseStrokes_27 (by decide) rfl (fun _ => ?_) (fun _ => ?_)
      · exact g_sub [] rfl (J5 a3 _)
      · refine g_aload_n 31 X 0 dX8_parseStrokes_30 rfl rfl rfl ?_
        refine g_getr 34 X 12 rfl flX8_38 rfl dX8_parseStrokes_31 rfl ?_
        refine g_geti 37 X rfl flX8_221 rfl dX8_parseStrokes_34 rfl ?_
        refine g_bipush 39 X dX8_parseStrokes_37 rfl cb_8 ?_
        refine g_icmp_ge 189 42 X dX8_parseStrokes_39 (by decide) rfl (fun _ => ?_) (fun _ => ?_)
        · exact g_sub [] rfl (J5 a3 _)
        · refine g_aload_n 43 X 0 dX8_parseStrokes_42 rfl rfl rfl ?_
          refine g_getr 46 X 12 rfl flX8_38 rfl dX8_parseStrokes_43 rfl ?_
          refine g_geti 49 X rfl flX8_221 rfl dX8_parseStrokes_46 rfl ?_
          refine g_istore_n 50 X [(2, _), (0, _), (1, _)] dX8_parseStrokes_49 rfl rfl (Nat.le_of_ble_eq_true rfl) rfl ?_
          refine g_aload_n 51 X 1 dX8_parseStrokes_50 rfl rfl rfl ?_
          refine g_getr 54 X 12 rfl flX8_38 rfl dX8_parseStrokes_51 rfl ?_
          refine g_getr 57 X 13 rfl flX8_130 rfl dX8_parseStrokes_54 rfl ?_
          refine g_iload_n 58 X 0 dX8_parseStrokes_57 rfl rfl rfl ?_
          refine g_bipush 60 X dX8_parseStrokes_58 rfl cb_10 ?_
          refine g_aload_n 61 X 1 dX8_parseStrokes_60 rfl rfl rfl ?_
          refine g_getr 64 X 3 rfl flX8_18 rfl dX8_parseStrokes_61 rfl ?_
          refine g_iload_n 65 X 2 dX8_parseStrokes_64 rfl rfl rfl ?_
          refine g_cVi1 68 X (tX7_at _ _ (D + 2) _ (Or.inr rfl) _ _) mfX7_at miX7_at lkX8_405 (sText (Or.inr rfl)) rfl rfl (Nat.le_of_ble_eq_true rfl) dX8_parseStrokes_65 rfl (fun r8 S9 => ?_)
          refine g_bipush 70 X dX8_parseStrokes_68 rfl cb_48 ?_
          refine g_isub 71 X dX8_parseStrokes_70 rfl ?_
          refine g_imul 72 X dX8_parseStrokes_71 rfl ?_
          refine g_aload_n 73 X 1 dX8_parseStrokes_72 rfl rfl rfl ?_
          refine g_getr 76 X 3 rfl flX8_18 rfl dX8_parseStrokes_73 rfl ?_
          refine g_iload_n 77 X 2 dX8_parseStrokes_76 rfl rfl rfl ?_
          refine g_iconst 78 X dX8_parseStrokes_77 rfl ci_1 ?_
          refine g_iadd 79 X dX8_parseStrokes_78 rfl ?_
          refine g_cVi1 82 X (tX7_at _ _ (D + 2) _ (Or.inr rfl) _ _) mfX7_at miX7_at lkX8_405 (sText (Or.inr rfl)) rfl rfl (Nat.le_of_ble_eq_true rfl) dX8_parseStrokes_79 rfl (fun r10 S11 => ?_)
          refine g_iadd 83 X dX8_parseStrokes_82 rfl ?_
          refine g_bipush 85 X dX8_parseStrokes_83 rfl cb_48 ?_
          refine g_isub 86 X dX8_parseStrokes_85 rfl ?_
          refine g_iast 87 X rfl dX8_parseStrokes_86 rfl ?_
          refine g_aload_n 88 X 1 dX8_parseStrokes_87 rfl rfl rfl ?_
          refine g_getr 91 X 12 rfl flX8_38 rfl dX8_parseStrokes_88 rfl ?_
          refine g_getr 94 X 14 rfl flX8_133 rfl dX8_parseStrokes_91 rfl ?_
          refine g_iload_n 95 X 0 dX8_parseStrokes_94 rfl rfl rfl ?_
          refine g_bipush 97 X dX8_parseStrokes_95 rfl cb_6 ?_
          refine g_aload_n 98 X 1 dX8_parseStrokes_97 rfl rfl rfl ?_
          refine g_getr 101 X 3 rfl flX8_18 rfl dX8_parseStrokes_98 rfl ?_
          refine g_iload_n 102 X 2 dX8_parseStrokes_101 rfl rfl rfl ?_
          refine g_iconst 103 X dX8_parseStrokes_102 rfl ci_2 ?_
          refine g_iadd 104 X dX8_parseStrokes_103 rfl ?_
          refine g_cVi1 107 X (tX7_at _ _ (D + 2) _ (Or.inr rfl) _ _) mfX7_at miX7_at lkX8_405 (sText (Or.inr rfl)) rfl rfl (Nat.le_of_ble_eq_true rfl) dX8_parseStrokes_104 rfl (fun r12 S13 => ?_)
          refine g_bipush 109 X dX8_parseStrokes_107 rfl cb_48 ?_
          refine g_isub 110 X dX8_parseStrokes_109 rfl ?_
          refine g_imul 111 X dX8_parseStrokes_110 rfl ?_
          refine g_aload_n 112 X 1 dX8_parseStrokes_111 rfl rfl rfl ?_
          refine g_getr 115 X 3 rfl flX8_18 rfl dX8_parseStrokes_112 rfl ?_
          refine g_iload_n 116 X 2 dX8_parseStrokes_115 rfl rfl rfl ?_
          refine g_iconst 117 X dX8_parseStrokes_116 rfl ci_3 ?_
          refine g_iadd 118 X dX8_parseStrokes_117 rfl ?_
          refine g_cVi1 121 X (tX7_at _ _ (D + 2) _ (Or.inr rfl) _ _) mfX7_at miX7_at lkX8_405 (sText (Or.inr rfl)) rfl rfl (Nat.le_of_ble_eq_true rfl) dX8_parseStrokes_118 rfl (fun r14 S15 => ?_)
          refine g_iadd 122 X dX8_parseStrokes_121 rfl ?_
          refine g_bipush 124 X dX8_parseStrokes_122 rfl cb_48 ?_
          refine g_isub 125 X dX8_parseStrokes_124 rfl ?_
          refine g_iast 126 X rfl dX8_parseStrokes_125 rfl ?_
          refine g_aload_n 127 X 1 dX8_parseStrokes_126 rfl rfl rfl ?_
          refine g_getr 130 X 12 rfl flX8_38 rfl dX8_parseStrokes_127 rfl ?_
          refine g_getr 133 X 15 rfl flX8_136 rfl dX8_parseStrokes_130 rfl ?_
          refine g_iload_n 134 X 0 dX8_parseStrokes_133 rfl rfl rfl ?_
          refine g_aload_n 135 X 1 dX8_parseStrokes_134 rfl rfl rfl ?_
          refine g_getr 138 X 3 rfl flX8_18 rfl dX8_parseStrokes_135 rfl ?_
          refine g_iload_n 139 X 2 dX8_parseStrokes_138 rfl rfl rfl ?_
          refine g_iconst 140 X dX8_parseStrokes_139 rfl ci_4 ?_
          refine g_iadd 141 X dX8_parseStrokes_140 rfl ?_
          refine g_cVi1 144 X (tX7_at _ _ (D + 2) _ (Or.inr rfl) _ _) mfX7_at miX7_at lkX8_405 (sText (Or.inr rfl)) rfl rfl (Nat.le_of_ble_eq_true rfl) dX8_parseStrokes_141 rfl (fun r16 S17 => ?_)
          refine g_bipush 146 X dX8_parseStrokes_144 rfl cb_97 ?_
          refine g_isub 147 X dX8_parseStrokes_146 rfl ?_
          refine g_iast 148 X rfl dX8_parseStrokes_147 rfl ?_
          refine g_aload_n 149 X 1 dX8_parseStrokes_148 rfl rfl rfl ?_
          refine g_getr 152 X 12 rfl flX8_38 rfl dX8_parseStrokes_149 rfl ?_
          refine g_getr 155 X 16 rfl flX8_139 rfl dX8_parseStrokes_152 rfl ?_
          refine g_iload_n 156 X 0 dX8_parseStrokes_155 rfl rfl rfl ?_
          refine g_aload_n 157 X 1 dX8_parseStrokes_156 rfl rfl rfl ?_
          refine g_getr 160 X 3 rfl flX8_18 rfl dX8_parseStrokes_157 rfl ?_
          refine g_iload_n 161 X 2 dX8_parseStrokes_160 rfl rfl rfl ?_
          refine g_iconst 162 X dX8_parseStrokes_161 rfl ci_5 ?_
          refine g_iadd 163 X dX8_parseStrokes_162 rfl ?_
          refine g_cVi1 166 X (tX7_at _ _ (D + 2) _ (Or.inr rfl) _ _) mfX7_at miX7_at lkX8_405 (sText (Or.inr rfl)) rfl rfl (Nat.le_of_ble_eq_true rfl) dX8_parseStrokes_163 rfl (fun r18 S19 => ?_)
          refine g_bipush 168 X dX8_parseStrokes_166 rfl cb_48 ?_
          refine g_isub 169 X dX8_parseStrokes_168 rfl ?_
          refine g_iast 170 X rfl dX8_parseStrokes_169 rfl ?_
          refine g_aload_n 171 X 1 dX8_parseStrokes_170 rfl rfl rfl ?_
          refine g_getr 174 X 12 rfl flX8_38 rfl dX8_parseStrokes_171 rfl ?_
          refine g_dup 175 X dX8_parseStrokes_174 rfl rfl ?_
          refine g_geti 178 X rfl flX8_221 rfl dX8_parseStrokes_175 rfl ?_
          refine g_iconst 179 X dX8_parseStrokes_178 rfl ci_1 ?_
          refine g_iadd 180 X dX8_parseStrokes_179 rfl ?_
          refine g_puti 183 X rfl flX8_221 fp_0_0 rfl dX8_parseStrokes_180 rfl ?_
          refine g_iinc 186 X 2 [(1, _), (2, _), (0, _)] dX8_parseStrokes_183 rfl rfl (ii_7 _) (Nat.le_of_ble_eq_true rfl) rfl ?_
          refine g_goto 19 X dX8_parseStrokes_186 (by decide) ?_
          exact g_sub [2, 0] rfl (ih6 (a3 + (7 : Int32)) _)
  · exact g_vret X dX8_parseStrokes_16 rfl
def fX8_bringUpToDate  (S : Sg) : Option (Unit × Sg) :=
  (if (S.1 0 17) = 0 then some ((), S) else bd (fX8_parseDamps S) (fun r1 S2 => bd (fX8_parseStrokes S2) (fun r3 S4 => bd (fX0_everyone 12 S4) (fun r5 S6 => bd (fX0_settle 12 r5 S6) (fun r7 S8 => bd (fX3_follow 21 12 5 (S8.1 0 15) S8) (fun r9 S10 => some ((), (sI S10 0 17 (0 : Int32)))))))))
set_option maxHeartbeats 4000000 in
set_option maxRecDepth 100000 in
theorem tX8_bringUpToDate (G : Gd) (l : Launch) (D : Nat)  (S : Sg) : Ct LC G l rV yX8_bringUpToDate cX8_bringUpToDate 1 none (D + 4) [.ref (G.2.1 0)] S (fX8_bringUpToDate  S) := by
  refine Ct.of (by decide) (Nat.le_of_ble_eq_true rfl) (fun Z hZ X => ?_)
  subst hZ
  show Go LC G Z 1 rV 0 [(0, .ref (G.2.1 0))] [] S (fX8_bringUpToDate  S) kz
  unfold fX8_bringUpToDate
  refine g_aload_n 1 X 0 dX8_bringUpToDate_0 rfl rfl rfl ?_
  refine g_geti 4 X rfl flX8_95 rfl dX8_bringUpToDate_1 rfl ?_
  refine g_if_ne 8 7 X dX8_bringUpToDate_4 (by decide) rfl (fun _ => ?_) (fun _ => ?_)
  · refine g_aload_n 9 X 0 dX8_bringUpToDate_8 rfl rfl rfl ?_
    refine g_cVv0 12 X (tX8_parseDamps _ _ (D + 1)  _) mfX8_parseDamps miX8_parseDamps lkX8_414 rfl rfl rfl (Nat.le_of_ble_eq_true rfl) dX8_bringUpToDate_9 rfl (fun r1 S2 => ?_)
    refine g_aload_n 13 X 0 dX8_bringUpToDate_12 rfl rfl rfl ?_
    refine g_cVv0 16 X (tX8_parseStrokes _ _ (D)  _) mfX8_parseStrokes miX8_parseStrokes lkX8_417 rfl rfl rfl (Nat.le_of_ble_eq_true rfl) dX8_bringUpToDate_13 rfl (fun r3 S4 => ?_)
    refine g_aload_n 17 X 0 dX8_bringUpToDate_16 rfl rfl rfl ?_
    refine g_getr 20 X 12 rfl flX8_38 rfl dX8_bringUpToDate_17 rfl ?_
    refine g_aload_n 21 X 0 dX8_bringUpToDate_20 rfl rfl rfl ?_
    refine g_getr 24 X 12 rfl flX8_38 rfl dX8_bringUpToDate_21 rfl ?_
    refine g_cVi0 27 X (tX0_everyone _ _ (D + 2) _ (Or.inl rfl) _) mfX0_everyone miX0_everyone lkX8_420 rfl rfl rfl (Nat.le_of_ble_eq_true rfl) dX8_bringUpToDate_24 rfl (fun r5 S6 => ?_)
    refine g_aload_n 28 X 0 dX8_bringUpToDate_27 rfl rfl rfl ?_
    refine g_getr 31 X 7 rfl flX8_31 rfl dX8_bringUpToDate_28 rfl ?_
    refine g_cVv2 34 X (tX0_settle _ _ (D + 1) _ (Or.inl rfl) _ _) mfX0_settle miX0_settle lkX8_257 rfl rfl rfl (Nat.le_of_ble_eq_true rfl) dX8_bringUpToDate_31 rfl (fun r7 S8 => ?_)
    refine g_aload_n 35 X 0 dX8_bringUpToDate_34 rfl rfl rfl ?_
    refine g_getr 38 X 21 rfl flX8_45 rfl dX8_bringUpToDate_35 rfl ?_
    refine g_aload_n 39 X 0 dX8_bringUpToDate_38 rfl rfl rfl ?_
    refine g_getr 42 X 12 rfl flX8_38 rfl dX8_bringUpToDate_39 rfl ?_
    refine g_aload_n 43 X 0 dX8_bringUpToDate_42 rfl rfl rfl ?_
    refine g_getr 46 X 5 rfl flX8_21 rfl dX8_bringUpToDate_43 rfl ?_
    refine g_aload_n 47 X 0 dX8_bringUpToDate_46 rfl rfl rfl ?_
    refine g_geti 50 X rfl flX8_89 rfl dX8_bringUpToDate_47 rfl ?_
    refine g_cVv3 53 X (tX3_follow _ _ (D + 1) _ (Or.inl rfl) _ (Or.inl rfl) _ (Or.inl rfl) _ _) mfX3_follow miX3_follow lkX8_261 rfl rfl rfl (Nat.le_of_ble_eq_true rfl) dX8_bringUpToDate_50 rfl (fun r9 S10 => ?_)
    refine g_aload_n 54 X 0 dX8_bringUpToDate_53 rfl rfl rfl ?_
    refine g_iconst 55 X dX8_bringUpToDate_54 rfl ci_0 ?_
    refine g_putz 58 X rfl flX8_95 fp_8_17 rfl rfl dX8_bringUpToDate_55 rfl ?_
    exact g_vret X dX8_bringUpToDate_58 rfl
  · exact g_vret X dX8_bringUpToDate_7 rfl
def fX8_damp (x1 : Int32) (S : Sg) : Option (Int32 × Sg) :=
  bd (fX8_isDay x1 S) (fun r1 S2 => (if r1 = 0 then some ((-2 : Int32), S2) else bd (fX8_bringUpToDate S2) (fun r3 S4 => gd (ix x1 20) (some ((S4.1 5 (Int32.toNatClampNeg x1)), S4)))))
set_option maxHeartbeats 4000000 in
set_option maxRecDepth 100000 in
theorem tX8_damp (G : Gd) (l : Launch) (D : Nat) (x1 : Int32) (S : Sg) : Ct LC G l rI yX8_damp cX8_damp 2 (some .int) (D + 5) [.ref (G.2.1 0), .int x1] S (fX8_damp x1 S) := by
  refine Ct.of (by decide) (Nat.le_of_ble_eq_true rfl) (fun Z hZ X => ?_)
  subst hZ
  show Go LC G Z 2 rI 0 [(0, .ref (G.2.1 0)), (1, .int x1)] [] S (fX8_damp x1 S) kz
  unfold fX8_damp
  refine g_iload_n 1 X 1 dX8_damp_0 rfl rfl rfl ?_
  refine g_cSi1 4 X (tX8_isDay _ _ (D + 4) _ _) mfX8_isDay msX8_isDay lkX8_121 (Nat.le_of_ble_eq_true rfl) dX8_damp_1 rfl (fun r1 S2 => ?_)
  refine g_if_ne 10 7 X dX8_damp_4 (by decide) rfl (fun _ => ?_) (fun _ => ?_)
  · refine g_aload_n 11 X 0 dX8_damp_10 rfl rfl rfl ?_
    refine g_cVv0 14 X (tX8_bringUpToDate _ _ (D)  _) mfX8_bringUpToDate miX8_bringUpToDate lkX8_124 rfl rfl rfl (Nat.le_of_ble_eq_true rfl) dX8_damp_11 rfl (fun r3 S4 => ?_)
    refine g_aload_n 15 X 0 dX8_damp_14 rfl rfl rfl ?_
    refine g_getr 18 X 5 rfl flX8_21 rfl dX8_damp_15 rfl ?_
    refine g_iload_n 19 X 1 dX8_damp_18 rfl rfl rfl ?_
    refine g_iald 20 X rfl dX8_damp_19 rfl ?_
    exact g_iret X dX8_damp_20 rfl
  · refine g_bipush 9 X dX8_damp_7 rfl cb_m2 ?_
    exact g_iret X dX8_damp_9 rfl
def fX8_isStroke (x1 : Int32) (S : Sg) : Option (Int32 × Sg) :=
  (if x1 < 0 then some ((0 : Int32), S) else (if (S.1 12 0) ≤ x1 then some ((0 : Int32), S) else some ((1 : Int32), S)))
set_option maxHeartbeats 4000000 in
set_option maxRecDepth 100000 in
theorem tX8_isStroke (G : Gd) (l : Launch) (D : Nat) (x1 : Int32) (S : Sg) : Ct LC G l rI yX8_isStroke cX8_isStroke 2 (some .boolean) (D + 0) [.ref (G.2.1 0), .int x1] S (fX8_isStroke x1 S) := by
  refine Ct.of (by decide) (Nat.le_of_ble_eq_true rfl) (fun Z hZ X => ?_)
  subst hZ
  show Go LC G Z 2 rI 0 [(0, .ref (G.2.1 0)), (1, .int x1)] [] S (fX8_isStroke x1 S) kz
  unfold fX8_isStroke
  refine g_iload_n 1 X 1 dX8_isStroke_0 rfl rfl rfl ?_
  refine g_if_lt 19 4 X dX8_isStroke_1 (by decide) rfl (fun _ => ?_) (fun _ => ?_)
  · refine g_iconst 20 X dX8_isStroke_19 rfl ci_0 ?_
    exact g_zret X dX8_isStroke_20 rfl rfl
  · refine g_iload_n 5 X 1 dX8_isStroke_4 rfl rfl rfl ?_
    refine g_aload_n 6 X 0 dX8_isStroke_5 rfl rfl rfl ?_
    refine g_getr 9 X 12 rfl flX8_38 rfl dX8_isStroke_6 rfl ?_
    refine g_geti 12 X rfl flX8_221 rfl dX8_isStroke_9 rfl ?_
    refine g_icmp_ge 19 15 X dX8_isStroke_12 (by decide) rfl (fun _ => ?_) (fun _ => ?_)
    · refine g_iconst 20 X dX8_isStroke_19 rfl ci_0 ?_
      exact g_zret X dX8_isStroke_20 rfl rfl
    · refine g_iconst 16 X dX8_isStroke_15 rfl ci_1 ?_
      refine g_goto 20 X dX8_isStroke_16 (by decide) ?_
      exact g_zret X dX8_isStroke_20 rfl rfl
def fX8_stroke (x1 : Int32) (x2 : Int32) (S : Sg) : Option (Int32 × Sg) :=
  bd (fX8_bringUpToDate S) (fun r1 S2 => bd (fX8_isStroke x1 S2) (fun r3 S4 => (if r3 = 0 then some ((-2 : Int32), S4) else (if x2 < 0 then some ((-2 : Int32), S4) else (if x2 ≤ (3 : Int32) then (if x2 = (0 : Int32) then gd (ix x1 8) (some ((S4.1 13 (Int32.toNatClampNeg x1)), S4)) else (if x2 = (1 : Int32) then gd (ix x1 8) (some ((S4.1 14 (Int32.toNatClampNeg x1)), S4)) else (if x2 = (2 : Int32) then gd (ix x1 8) (some ((S4.1 15 (Int32.toNatClampNeg x1)), S4)) else gd (ix x1 8) (some ((S4.1 16 (Int32.toNatClampNeg x1)), S4))))) else some ((-2 : Int32), S4))))))
set_option maxHeartbeats 4000000 in
set_option maxRecDepth 100000 in
theorem tX8_stroke (G : Gd) (l : Launch) (D : Nat) (x1 : Int32) (x2 : Int32) (S : Sg) : Ct LC G l rI yX8_stroke cX8_stroke 3 (some .int) (D + 5) [.ref (G.2.1 0), .int x1, .int x2] S (fX8_stroke x1 x2 S) := by
  refine Ct.of (by decide) (Nat.le_of_ble_eq_true rfl) (fun Z hZ X => ?_)
  subst hZ
  show Go LC G Z 3 rI 0 [(0, .ref (G.2.1 0)), (1, .int x1), (2, .int x2)] [] S (fX8_stroke x1 x2 S) kz
  unfold fX8_stroke
  refine g_aload_n 1 X 0 dX8_stroke_0 rfl rfl rfl ?_
  refine g_cVv0 4 X (tX8_bringUpToDate _ _ (D)  _) mfX8_bringUpToDate miX8_bringUpToDate lkX8_124 rfl rfl rfl (Nat.le_of_ble_eq_true rfl) dX8_stroke_1 rfl (fun r1 S2 => ?_)
  refine g_aload_n 5 X 0 dX8_stroke_4 rfl rfl rfl ?_
  refine g_iload_n 6 X 1 dX8_stroke_5 rfl rfl rfl ?_
  refine g_cVi1 9 X (tX8_isStroke _ _ (D + 4) _ _) mfX8_isStroke miX8_isStroke lkX8_127 rfl rfl rfl (Nat.le_of_ble_eq_true rfl) dX8_stroke_6 rfl (fun r3 S4 => ?_)
  refine g_if_eq 21 12 X dX8_stroke_9 (by decide) rfl (fun _ => ?_) (fun _ => ?_)
  · refine g_bipush 23 X dX8_stroke_21 rfl cb_m2 ?_
    exact g_iret X dX8_stroke_23 rfl
  · refine g_iload_n 13 X 2 dX8_stroke_12 rfl rfl rfl ?_
    refine g_if_lt 21 16 X dX8_stroke_13 (by decide) rfl (fun _ => ?_) (fun _ => ?_)
    · refine g_bipush 23 X dX8_stroke_21 rfl cb_m2 ?_
      exact g_iret X dX8_stroke_23 rfl
    · refine g_iload_n 17 X 2 dX8_stroke_16 rfl rfl rfl ?_
      refine g_iconst 18 X dX8_stroke_17 rfl ci_3 ?_
      refine g_icmp_le 24 21 X dX8_stroke_18 (by decide) rfl (fun _ => ?_) (fun _ => ?_)
      · refine g_iload_n 25 X 2 dX8_stroke_24 rfl rfl rfl ?_
        refine g_ite (fun hc5 => ?_) (fun hc5 => ?_)
        · refine g_tin 52 X (0 : Int32) hc5 dX8_stroke_25 (by decide) (by decide) rfl (by decide) ?_
          refine g_aload_n 53 X 0 dX8_stroke_52 rfl rfl rfl ?_
          refine g_getr 56 X 12 rfl flX8_38 rfl dX8_stroke_53 rfl ?_
          refine g_getr 59 X 13 rfl flX8_130 rfl dX8_stroke_56 rfl ?_
          refine g_iload_n 60 X 1 dX8_stroke_59 rfl rfl rfl ?_
          refine g_iald 61 X rfl dX8_stroke_60 rfl ?_
          exact g_iret X dX8_stroke_61 rfl
        refine g_ite (fun hc6 => ?_) (fun hc6 => ?_)
        · refine g_tin 62 X (1 : Int32) hc6 dX8_stroke_25 (by decide) (by decide) rfl (by decide) ?_
          refine g_aload_n 63 X 0 dX8_stroke_62 rfl rfl rfl ?_
          refine g_getr 66 X 12 rfl flX8_38 rfl dX8_stroke_63 rfl ?_
          refine g_getr 69 X 14 rfl flX8_133 rfl dX8_stroke_66 rfl ?_
          refine g_iload_n 70 X 1 dX8_stroke_69 rfl rfl rfl ?_
          refine g_iald 71 X rfl dX8_stroke_70 rfl ?_
          exact g_iret X dX8_stroke_71 rfl
        refine g_ite (fun hc7 => ?_) (fun hc7 => ?_)
        · refine g_tin 72 X (2 : Int32) hc7 dX8_stroke_25 (by decide) (by decide) rfl (by decide) ?_
          refine g_aload_n 73 X 0 dX8_stroke_72 rfl rfl rfl ?_
          refine g_getr 76 X 12 rfl flX8_38 rfl dX8_stroke_73 rfl ?_
          refine g_getr 79 X 15 rfl flX8_136 rfl dX8_stroke_76 rfl ?_
          refine g_iload_n 80 X 1 dX8_stroke_79 rfl rfl rfl ?_
          refine g_iald 81 X rfl dX8_stroke_80 rfl ?_
          exact g_iret X dX8_stroke_81 rfl
        refine g_tout 82 X dX8_stroke_25 (sw_out (fun k hk => ?_)) (by decide) ?_
        · have hk2 : k = 0 ∨ k = 1 ∨ k = 2 := by omega
          rcases hk2 with rfl | rfl | rfl
          · exact fun hq => hc5 (Int32.toInt_inj.mp (by rw [hq]; rfl))
          · exact fun hq => hc6 (Int32.toInt_inj.mp (by rw [hq]; rfl))
          · exact fun hq => hc7 (Int32.toInt_inj.mp (by rw [hq]; rfl))
        · refine g_aload_n 83 X 0 dX8_stroke_82 rfl rfl rfl ?_
          refine g_getr 86 X 12 rfl flX8_38 rfl dX8_stroke_83 rfl ?_
          refine g_getr 89 X 16 rfl flX8_139 rfl dX8_stroke_86 rfl ?_
          refine g_iload_n 90 X 1 dX8_stroke_89 rfl rfl rfl ?_
          refine g_iald 91 X rfl dX8_stroke_90 rfl ?_
          exact g_iret X dX8_stroke_91 rfl
      · refine g_bipush 23 X dX8_stroke_21 rfl cb_m2 ?_
        exact g_iret X dX8_stroke_23 rfl
def fX8_fine (x1 : Int32) (S : Sg) : Option (Int32 × Sg) :=
  (if x1 < 0 then some ((-2 : Int32), S) else (if x1 ≤ (9 : Int32) then some ((S.1 0 15), (sI (sI S 0 15 x1) 0 17 (1 : Int32))) else some ((-2 : Int32), S)))
set_option maxHeartbeats 4000000 in
set_option maxRecDepth 100000 in
theorem tX8_fine (G : Gd) (l : Launch) (D : Nat) (x1 : Int32) (S : Sg) : Ct LC G l rI yX8_fine cX8_fine 3 (some .int) (D + 0) [.ref (G.2.1 0), .int x1] S (fX8_fine x1 S) := by
  refine Ct.of (by decide) (Nat.le_of_ble_eq_true rfl) (fun Z hZ X => ?_)
  subst hZ
  show Go LC G Z 3 rI 0 [(0, .ref (G.2.1 0)), (1, .int x1)] [] S (fX8_fine x1 S) kz
  unfold fX8_fine
  refine g_iload_n 1 X 1 dX8_fine_0 rfl rfl rfl ?_
  refine g_if_lt 10 4 X dX8_fine_1 (by decide) rfl (fun _ => ?_) (fun _ => ?_)
  · refine g_bipush 12 X dX8_fine_10 rfl cb_m2 ?_
    exact g_iret X dX8_fine_12 rfl
  · refine g_iload_n 5 X 1 dX8_fine_4 rfl rfl rfl ?_
    refine g_bipush 7 X dX8_fine_5 rfl cb_9 ?_
    refine g_icmp_le 13 10 X dX8_fine_7 (by decide) rfl (fun _ => ?_) (fun _ => ?_)
    · refine g_aload_n 14 X 0 dX8_fine_13 rfl rfl rfl ?_
      refine g_geti 17 X rfl flX8_89 rfl dX8_fine_14 rfl ?_
      refine g_istore_n 18 X [(2, _), (0, _), (1, _)] dX8_fine_17 rfl rfl (Nat.le_of_ble_eq_true rfl) rfl ?_
      refine g_aload_n 19 X 1 dX8_fine_18 rfl rfl rfl ?_
      refine g_iload_n 20 X 2 dX8_fine_19 rfl rfl rfl ?_
      refine g_puti 23 X rfl flX8_89 fp_8_15 rfl dX8_fine_20 rfl ?_
      refine g_aload_n 24 X 1 dX8_fine_23 rfl rfl rfl ?_
      refine g_iconst 25 X dX8_fine_24 rfl ci_1 ?_
      refine g_putz 28 X rfl flX8_95 fp_8_17 rfl rfl dX8_fine_25 rfl ?_
      refine g_iload_n 29 X 0 dX8_fine_28 rfl rfl rfl ?_
      exact g_iret X dX8_fine_29 rfl
    · refine g_bipush 12 X dX8_fine_10 rfl cb_m2 ?_
      exact g_iret X dX8_fine_12 rfl
def fX8_isLine (x0 : Int32) (S : Sg) : Option (Int32 × Sg) :=
  (if x0 < 0 then some ((0 : Int32), S) else (if (6 : Int32) ≤ x0 then some ((0 : Int32), S) else some ((1 : Int32), S)))
set_option maxHeartbeats 4000000 in
set_option maxRecDepth 100000 in
theorem tX8_isLine (G : Gd) (l : Launch) (D : Nat) (x0 : Int32) (S : Sg) : Ct LC G l rI yX8_isLine cX8_isLine 1 (some .boolean) (D + 0) [.int x0] S (fX8_isLine x0 S) := by
  refine Ct.of (by decide) (Nat.le_of_ble_eq_true rfl) (fun Z hZ X => ?_)
  subst hZ
  show Go LC G Z 1 rI 0 [(0, .int x0)] [] S (fX8_isLine x0 S) kz
  unfold fX8_isLine
  refine g_iload_n 1 X 0 dX8_isLine_0 rfl rfl rfl ?_
  refine g_if_lt 14 4 X dX8_isLine_1 (by decide) rfl (fun _ => ?_) (fun _ => ?_)
  · refine g_iconst 15 X dX8_isLine_14 rfl ci_0 ?_
    exact g_zret X dX8_isLine_15 rfl rfl
  · refine g_iload_n 5 X 0 dX8_isLine_4 rfl rfl rfl ?_
    refine g_bipush 7 X dX8_isLine_5 rfl cb_6 ?_
    refine g_icmp_ge 14 10 X dX8_isLine_7 (by decide) rfl (fun _ => ?_) (fun _ => ?_)
    · refine g_iconst 15 X dX8_isLine_14 rfl ci_0 ?_
      exact g_zret X dX8_isLine_15 rfl rfl
    · refine g_iconst 11 X dX8_isLine_10 rfl ci_1 ?_
      refine g_goto 15 X dX8_isLine_11 (by decide) ?_
      exact g_zret X dX8_isLine_15 rfl rfl
def fX8_clean (x1 : Int32) (x2 : Int32) (S : Sg) : Option (Int32 × Sg) :=
  bd (fX8_isDay x1 S) (fun r1 S2 => (if r1 = 0 then some ((-2 : Int32), S2) else bd (fX8_isLine x2 S2) (fun r3 S4 => (if r3 = 0 then some ((-2 : Int32), S4) else bd (fX1_addWipe x1 x2 S4) (fun r5 S6 => (if r5 = 0 then some ((-4 : Int32), S6) else some (((sI S6 0 17 (1 : Int32)).1 7 4), (sI S6 0 17 (1 : Int32)))))))))
set_option maxHeartbeats 4000000 in
set_option maxRecDepth 100000 in
theorem tX8_clean (G : Gd) (l : Launch) (D : Nat) (x1 : Int32) (x2 : Int32) (S : Sg) : Ct LC G l rI yX8_clean cX8_clean 3 (some .int) (D + 1) [.ref (G.2.1 0), .int x1, .int x2] S (fX8_clean x1 x2 S) := by
  refine Ct.of (by decide) (Nat.le_of_ble_eq_true rfl) (fun Z hZ X => ?_)
  subst hZ
  show Go LC G Z 3 rI 0 [(0, .ref (G.2.1 0)), (1, .int x1), (2, .int x2)] [] S (fX8_clean x1 x2 S) kz
  unfold fX8_clean
  refine g_iload_n 1 X 1 dX8_clean_0 rfl rfl rfl ?_
  refine g_cSi1 4 X (tX8_isDay _ _ (D) _ _) mfX8_isDay msX8_isDay lkX8_121 (Nat.le_of_ble_eq_true rfl) dX8_clean_1 rfl (fun r1 S2 => ?_)
  refine g_if_eq 14 7 X dX8_clean_4 (by decide) rfl (fun _ => ?_) (fun _ => ?_)
  · refine g_bipush 16 X dX8_clean_14 rfl cb_m2 ?_
    exact g_iret X dX8_clean_16 rfl
  · refine g_iload_n 8 X 2 dX8_clean_7 rfl rfl rfl ?_
    refine g_cSi1 11 X (tX8_isLine _ _ (D) _ _) mfX8_isLine msX8_isLine lkX8_142 (Nat.le_of_ble_eq_true rfl) dX8_clean_8 rfl (fun r3 S4 => ?_)
    refine g_if_ne 17 14 X dX8_clean_11 (by decide) rfl (fun _ => ?_) (fun _ => ?_)
    · refine g_aload_n 18 X 0 dX8_clean_17 rfl rfl rfl ?_
      refine g_getr 21 X 7 rfl flX8_31 rfl dX8_clean_18 rfl ?_
      refine g_iload_n 22 X 1 dX8_clean_21 rfl rfl rfl ?_
      refine g_iload_n 23 X 2 dX8_clean_22 rfl rfl rfl ?_
      refine g_cVi2 26 X (tX1_addWipe _ _ (D) _ _ _) mfX1_addWipe miX1_addWipe lkX8_145 rfl rfl rfl (Nat.le_of_ble_eq_true rfl) dX8_clean_23 rfl (fun r5 S6 => ?_)
      refine g_if_ne 32 29 X dX8_clean_26 (by decide) rfl (fun _ => ?_) (fun _ => ?_)
      · refine g_aload_n 33 X 0 dX8_clean_32 rfl rfl rfl ?_
        refine g_iconst 34 X dX8_clean_33 rfl ci_1 ?_
        refine g_putz 37 X rfl flX8_95 fp_8_17 rfl rfl dX8_clean_34 rfl ?_
        refine g_aload_n 38 X 0 dX8_clean_37 rfl rfl rfl ?_
        refine g_getr 41 X 7 rfl flX8_31 rfl dX8_clean_38 rfl ?_
        refine g_geti 44 X rfl flX8_149 rfl dX8_clean_41 rfl ?_
        exact g_iret X dX8_clean_44 rfl
      · refine g_bipush 31 X dX8_clean_29 rfl cb_m4 ?_
        exact g_iret X dX8_clean_31 rfl
    · refine g_bipush 16 X dX8_clean_14 rfl cb_m2 ?_
      exact g_iret X dX8_clean_16 rfl
def fX8_grease (x1 : Int32) (x2 : Int32) (S : Sg) : Option (Int32 × Sg) :=
  bd (fX8_isDay x1 S) (fun r1 S2 => (if r1 = 0 then some ((-2 : Int32), S2) else bd (fX8_isLine x2 S2) (fun r3 S4 => (if r3 = 0 then some ((-2 : Int32), S4) else bd (fX1_addOil x1 x2 S4) (fun r5 S6 => (if r5 = 0 then some ((-4 : Int32), S6) else some (((sI S6 0 17 (1 : Int32)).1 7 5), (sI S6 0 17 (1 : Int32)))))))))
set_option maxHeartbeats 4000000 in
set_option maxRecDepth 100000 in
theorem tX8_grease (G : Gd) (l : Launch) (D : Nat) (x1 : Int32) (x2 : Int32) (S : Sg) : Ct LC G l rI yX8_grease cX8_grease 3 (some .int) (D + 1) [.ref (G.2.1 0), .int x1, .int x2] S (fX8_grease x1 x2 S) := by
  refine Ct.of (by decide) (Nat.le_of_ble_eq_true rfl) (fun Z hZ X => ?_)
  subst hZ
  show Go LC G Z 3 rI 0 [(0, .ref (G.2.1 0)), (1, .int x1), (2, .int x2)] [] S (fX8_grease x1 x2 S) kz
  unfold fX8_grease
  refine g_iload_n 1 X 1 dX8_grease_0 rfl rfl rfl ?_
  refine g_cSi1 4 X (tX8_isDay _ _ (D) _ _) mfX8_isDay msX8_isDay lkX8_121 (Nat.le_of_ble_eq_true rfl) dX8_grease_1 rfl (fun r1 S2 => ?_)
  refine g_if_eq 14 7 X dX8_grease_4 (by decide) rfl (fun _ => ?_) (fun _ => ?_)
  · refine g_bipush 16 X dX8_grease_14 rfl cb_m2 ?_
    exact g_iret X dX8_grease_16 rfl
  · refine g_iload_n 8 X 2 dX8_grease_7 rfl rfl rfl ?_
    refine g_cSi1 11 X (tX8_isLine _ _ (D) _ _) mfX8_isLine msX8_isLine lkX8_142 (Nat.le_of_ble_eq_true rfl) dX8_grease_8 rfl (fun r3 S4 => ?_)
    refine g_if_ne 17 14 X dX8_grease_11 (by decide) rfl (fun _ => ?_) (fun _ => ?_)
    · refine g_aload_n 18 X 0 dX8_grease_17 rfl rfl rfl ?_
      refine g_getr 21 X 7 rfl flX8_31 rfl dX8_grease_18 rfl ?_
      refine g_iload_n 22 X 1 dX8_grease_21 rfl rfl rfl ?_
      refine g_iload_n 23 X 2 dX8_grease_22 rfl rfl rfl ?_
      refine g_cVi2 26 X (tX1_addOil _ _ (D) _ _ _) mfX1_addOil miX1_addOil lkX8_152 rfl rfl rfl (Nat.le_of_ble_eq_true rfl) dX8_grease_23 rfl (fun r5 S6 => ?_)
      refine g_if_ne 32 29 X dX8_grease_26 (by decide) rfl (fun _ => ?_) (fun _ => ?_)
      · refine g_aload_n 33 X 0 dX8_grease_32 rfl rfl rfl ?_
        refine g_iconst 34 X dX8_grease_33 rfl ci_1 ?_
        refine g_putz 37 X rfl flX8_95 fp_8_17 rfl rfl dX8_grease_34 rfl ?_
        refine g_aload_n 38 X 0 dX8_grease_37 rfl rfl rfl ?_
        refine g_getr 41 X 7 rfl flX8_31 rfl dX8_grease_38 rfl ?_
        refine g_geti 44 X rfl flX8_155 rfl dX8_grease_41 rfl ?_
        exact g_iret X dX8_grease_44 rfl
      · refine g_bipush 31 X dX8_grease_29 rfl cb_m4 ?_
        exact g_iret X dX8_grease_31 rfl
    · refine g_bipush 16 X dX8_grease_14 rfl cb_m2 ?_
      exact g_iret X dX8_grease_16 rfl
def fX8_isEither (x0 : Int32) (S : Sg) : Option (Int32 × Sg) :=
  (if x0 = 0 then some ((1 : Int32), S) else (if x0 = (1 : Int32) then some ((1 : Int32), S) else some ((0 : Int32), S)))
set_option maxHeartbeats 4000000 in
set_option maxRecDepth 100000 in
theorem tX8_isEither (G : Gd) (l : Launch) (D : Nat) (x0 : Int32) (S : Sg) : Ct LC G l rI yX8_isEither cX8_isEither 1 (some .boolean) (D + 0) [.int x0] S (fX8_isEither x0 S) := by
  refine Ct.of (by decide) (Nat.le_of_ble_eq_true rfl) (fun Z hZ X => ?_)
  subst hZ
  show Go LC G Z 1 rI 0 [(0, .int x0)] [] S (fX8_isEither x0 S) kz
  unfold fX8_isEither
  refine g_iload_n 1 X 0 dX8_isEither_0 rfl rfl rfl ?_
  refine g_if_eq 9 4 X dX8_isEither_1 (by decide) rfl (fun _ => ?_) (fun _ => ?_)
  · refine g_iconst 10 X dX8_isEither_9 rfl ci_1 ?_
    refine g_goto 14 X dX8_isEither_10 (by decide) ?_
    exact g_zret X dX8_isEither_14 rfl rfl
  · refine g_iload_n 5 X 0 dX8_isEither_4 rfl rfl rfl ?_
    refine g_iconst 6 X dX8_isEither_5 rfl ci_1 ?_
    refine g_icmp_ne 13 9 X dX8_isEither_6 (by decide) rfl (fun _ => ?_) (fun _ => ?_)
    · refine g_iconst 14 X dX8_isEither_13 rfl ci_0 ?_
      exact g_zret X dX8_isEither_14 rfl rfl
    · refine g_iconst 10 X dX8_isEither_9 rfl ci_1 ?_
      refine g_goto 14 X dX8_isEither_10 (by decide) ?_
      exact g_zret X dX8_isEither_14 rfl rfl
def fX8_back (x1 : Int32) (S : Sg) : Option (Int32 × Sg) :=
  bd (fX8_isEither x1 S) (fun r1 S2 => (if r1 = 0 then some ((-2 : Int32), S2) else bd ((if x1 = 0 then some ((S2.1 7 4), S2) else some ((S2.1 7 5), S2))) (fun (t3 : Int32) S4 => (if 0 ≤ (t3 - (1 : Int32)) then bd ((if x1 = 0 then some ((), (sI S4 7 4 (t3 - (1 : Int32)))) else some ((), (sI S4 7 5 (t3 - (1 : Int32)))))) (fun (t6 : Unit) S7 => some ((t3 - (1 : Int32)), (sI S7 0 17 (1 : Int32)))) else some ((-3 : Int32), S4)))))
set_option maxHeartbeats 4000000 in
set_option maxRecDepth 100000 in
theorem tX8_back (G : Gd) (l : Launch) (D : Nat) (x1 : Int32) (S : Sg) : Ct LC G l rI yX8_back cX8_back 3 (some .int) (D + 1) [.ref (G.2.1 0), .int x1] S (fX8_back x1 S) := by
  refine Ct.of (by decide) (Nat.le_of_ble_eq_true rfl) (fun Z hZ X => ?_)
  subst hZ
  show Go LC G Z 3 rI 0 [(0, .ref (G.2.1 0)), (1, .int x1)] [] S (fX8_back x1 S) kz
  unfold fX8_back
  refine g_iload_n 1 X 1 dX8_back_0 rfl rfl rfl ?_
  refine g_cSi1 4 X (tX8_isEither _ _ (D) _ _) mfX8_isEither msX8_isEither lkX8_158 (Nat.le_of_ble_eq_true rfl) dX8_back_1 rfl (fun r1 S2 => ?_)
  refine g_if_ne 10 7 X dX8_back_4 (by decide) rfl (fun _ => ?_) (fun _ => ?_)
  · refine g_iload_n 11 X 1 dX8_back_10 rfl rfl rfl ?_
    refine g_joinK 31 (fun (t3 : Int32) => [(0, .ref (G.2.1 0)), (1, .int x1)]) (fun (t3 : Int32) => [.int t3]) (fun t3 S4 => ?_) (fun J5 => ?_)
    · refine g_iconst 32 X dX8_back_31 rfl ci_1 ?_
      refine g_isub 33 X dX8_back_32 rfl ?_
      refine g_istore_n 34 X [(2, _), (0, _), (1, _)] dX8_back_33 rfl rfl (Nat.le_of_ble_eq_true rfl) rfl ?_
      refine g_iload_n 35 X 0 dX8_back_34 rfl rfl rfl ?_
      refine g_if_ge 41 38 X dX8_back_35 (by decide) rfl (fun _ => ?_) (fun _ => ?_)
      · refine g_iload_n 42 X 2 dX8_back_41 rfl rfl rfl ?_
        refine g_joinK 64 (fun (t6 : Unit) => [(0, .ref (G.2.1 0)), (2, .int (t3 - (1 : Int32)))]) (fun (t6 : Unit) => []) (fun t6 S7 => ?_) (fun J8 => ?_)
        · refine g_aload_n 65 X 0 dX8_back_64 rfl rfl rfl ?_
          refine g_iconst 66 X dX8_back_65 rfl ci_1 ?_
          refine g_putz 69 X rfl flX8_95 fp_8_17 rfl rfl dX8_back_66 rfl ?_
          refine g_iload_n 70 X 1 dX8_back_69 rfl rfl rfl ?_
          exact g_iret X dX8_back_70 rfl
        · refine g_if_ne 56 45 X dX8_back_42 (by decide) rfl (fun _ => ?_) (fun _ => ?_)
          · refine g_aload_n 57 X 1 dX8_back_56 rfl rfl rfl ?_
            refine g_getr 60 X 7 rfl flX8_31 rfl dX8_back_57 rfl ?_
            refine g_iload_n 61 X 0 dX8_back_60 rfl rfl rfl ?_
            refine g_puti 64 X rfl flX8_155 fp_1_5 rfl dX8_back_61 rfl ?_
            exact g_sub [1, 0] rfl (J8 () _)
          · refine g_aload_n 46 X 1 dX8_back_45 rfl rfl rfl ?_
            refine g_getr 49 X 7 rfl flX8_31 rfl dX8_back_46 rfl ?_
            refine g_iload_n 50 X 0 dX8_back_49 rfl rfl rfl ?_
            refine g_puti 53 X rfl flX8_149 fp_1_4 rfl dX8_back_50 rfl ?_
            refine g_goto 64 X dX8_back_53 (by decide) ?_
            exact g_sub [1, 0] rfl (J8 () _)
      · refine g_bipush 40 X dX8_back_38 rfl cb_m3 ?_
        exact g_iret X dX8_back_40 rfl
    · refine g_if_ne 24 14 X dX8_back_11 (by decide) rfl (fun _ => ?_) (fun _ => ?_)
      · refine g_aload_n 25 X 0 dX8_back_24 rfl rfl rfl ?_
        refine g_getr 28 X 7 rfl flX8_31 rfl dX8_back_25 rfl ?_
        refine g_geti 31 X rfl flX8_155 rfl dX8_back_28 rfl ?_
        exact g_sub [0, 1] rfl (J5 (S2.1 7 5) _)
      · refine g_aload_n 15 X 0 dX8_back_14 rfl rfl rfl ?_
        refine g_getr 18 X 7 rfl flX8_31 rfl dX8_back_15 rfl ?_
        refine g_geti 21 X rfl flX8_149 rfl dX8_back_18 rfl ?_
        refine g_goto 31 X dX8_back_21 (by decide) ?_
        exact g_sub [0, 1] rfl (J5 (S2.1 7 4) _)
  · refine g_bipush 9 X dX8_back_7 rfl cb_m2 ?_
    exact g_iret X dX8_back_9 rfl
