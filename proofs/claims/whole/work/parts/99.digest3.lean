/-- digest -/
def hb (g h : Int64) : Int64 := 31 * h + g
def fauV (A : Ab) (t : Nat) : Int32 := if nI t = nI 0 then fau0 (aT A) else fau1 (aU A)
def weaV (A : Ab) (w : Nat) : Int32 := if w = 0 then nI (allU (uA (cfg A) (wdm (nI 7) 15))) else nI (dws (uA (cfg A) (wdm (nI 7) 15)))
def d1V (A : Ab) : Int64 := ha (fauV A 1) (ha (fauV A 0) (hG (fun i => ha (cnV A i)) 17 8))
def d2V (A : Ab) : Int64 := hG (strV A) (dayV A 19 (dayV A 9 (dayV A 4 (dayV A 0 (d1V A))))) (cN (cfg A))
def d3V (A : Ab) : Int64 := ha (fwV (fun d => allU (dyA (cfg A) d)) 19 1) (ha (fwV (fun d => allU (dyA (cfg A) d)) 19 0) (ha (oiV (cfg A) 1) (ha (oiV (cfg A) 0) (ha (mB (upn (cfg A)) (cN (cfg A))) (ha (misV (cfg A) 1) (ha (misV (cfg A) 0) (d2V A)))))))
def d4V (A : Ab) : Int64 := ha (weaV A 1) (ha (weaV A 0) (hb (lN (drV (cfg A) 5 7 9 1)) (hb (lN (drV (cfg A) 5 7 9 0)) (ha (nI (amn (asF A 7) 19)) (ha (nI (amn (asF A 0) 19)) (ha (pb (fun k => decide (k < cN (cfg A)) && nvB (cfg A) (sgn A) (aS A) k)) (d3V A)))))))
theorem digC_ok {S : Sg} {A : Ab} (h : RC S A) : ∃ S', fX8_digest S = some (d4V A, S') ∧ RF S' A := by
  obtain ⟨S1, e1, h1⟩ := cntC_lp h 17
  have e2 := faultC_ok h1.1 (t := 0) (by omega)
  have e3 := faultC_ok h1.1 (t := 1) (by omega)
  obtain ⟨S4, e4, h4⟩ := withDay_ok h1 (d1V A) (d := 0) (by omega)
  obtain ⟨S5, e5, h5⟩ := withDay_ok h4.c (dayV A 0 (d1V A)) (d := 4) (by omega)
  obtain ⟨S6, e6, h6⟩ := withDay_ok h5.c (dayV A 4 (dayV A 0 (d1V A))) (d := 9) (by omega)
  obtain ⟨S7, e7, h7⟩ := withDay_ok h6.c (dayV A 9 (dayV A 4 (dayV A 0 (d1V A)))) (d := 19) (by omega)
  obtain ⟨S8, e8, h8⟩ := strC_lp h7 (dayV A 19 (dayV A 9 (dayV A 4 (dayV A 0 (d1V A)))))
  obtain ⟨S9, e9, h9⟩ := misreadC_ok h8.c (w := 0) (by omega)
  obtain ⟨S10, e10, h10⟩ := misreadC_ok h9.c (w := 1) (by omega)
  obtain ⟨S11, e11, h11⟩ := mostC_ok h10.c
  obtain ⟨S12, e12, h12⟩ := oilC_ok h11.c (w := 0) (by omega)
  obtain ⟨S13, e13, h13⟩ := oilC_ok h12.c (w := 1) (by omega)
  obtain ⟨S14, e14, h14, w14⟩ := seekDry_ok h13
  have q14 := withFew_ok w14 (ha (oiV (cfg A) 1) (ha (oiV (cfg A) 0) (ha (mB (upn (cfg A)) (cN (cfg A))) (ha (misV (cfg A) 1) (ha (misV (cfg A) 0) (d2V A))))))
  obtain ⟨S15, e15, h15⟩ := neverC_ok h14.c
  obtain ⟨S16, e16, h16⟩ := askC_ok h15.c (x := 0) (by omega)
  obtain ⟨S17, e17, h17⟩ := askC_ok h16.c (x := 7) (by omega)
  obtain ⟨S18, e18, h18, w18, v18⟩ := reckon_ok h17 (x := 5) (L := 7) (day := 9) (by omega) (by omega) (by omega)
  obtain ⟨S19, e19, h19⟩ := weatherC_ok h18.c (nI 7) (n := 15) (w := 0) (by omega) (by omega) (by omega)
  obtain ⟨S20, e20, h20⟩ := weatherC_ok h19.c (nI 7) (n := 15) (w := 1) (by omega) (by omega) (by omega)
  refine ⟨S20, ?_, h20⟩
  have k1 : ((31 : Int64) * (((31 : Int64) * (hG (fun i => ha (cnV A i)) 17 8)) + Int32.toInt64 (fauV A 0))) + Int32.toInt64 (fauV A 1) = d1V A := rfl
  have k2 : hG (strV A) (dayV A 19 (dayV A 9 (dayV A 4 (dayV A 0 (d1V A))))) (cN (cfg A)) = d2V A := rfl
  change fX8_fault (nI 0) S1 = some (fauV A 0, S1) at e2
  change fX8_fault (nI 1) S1 = some (fauV A 1, S1) at e3
  change fX8_weather (nI 7) (nI 15) (nI 0) S18 = some (weaV A 0, S19) at e19
  change fX8_weather (nI 7) (nI 15) (nI 1) S19 = some (weaV A 1, S20) at e20
  rw [k2] at e8
  unfold fX8_digest
  rw [lit_0, lit_1, lit_4, lit_5, lit_7, lit_9, lit_15, lit_19, e1, bd_some, e2, bd_some, e3, bd_some]
  dsimp only
  rw [k1, e4, bd_some, e5, bd_some, e6, bd_some, e7, bd_some, e8, bd_some]
  dsimp only
  rw [e9, bd_some, e10, bd_some, e11, bd_some, e12, bd_some, e13, bd_some, e14, bd_some]
  unfold ha at q14
  rw [q14, bd_some, e15, bd_some, e16, bd_some, e17, bd_some, e18, bd_some, e19, bd_some, e20, bd_some, w18, v18]
  unfold d4V d3V ha hb
  rfl
theorem digM_ok {S : Sg} {A : Ab} (h : RM S A) : ∃ S', fX9_digest S = some (d4V A, S') ∧ RM S' A := by
  obtain ⟨S1, e1, h1⟩ := cntM_lp h 17
  obtain ⟨S2, e2, z2, r2⟩ := faultOf_ok h1 (nI 0)
  have h2 := h1.mz z2
  obtain ⟨S3, e3, z3, r3⟩ := faultOf_ok h2 (nI 1)
  have h3 := h2.mz z3
  obtain ⟨S4, e4, h4, r4⟩ := dayDig_ok h3 (d1V A) (d := 0) (by omega)
  obtain ⟨S5, e5, h5, r5⟩ := dayDig_ok h4 (dayV A 0 (d1V A)) (d := 4) (by omega)
  obtain ⟨S6, e6, h6, r6⟩ := dayDig_ok h5 (dayV A 4 (dayV A 0 (d1V A))) (d := 9) (by omega)
  obtain ⟨S7, e7, h7, r7⟩ := dayDig_ok h6 (dayV A 9 (dayV A 4 (dayV A 0 (d1V A)))) (d := 19) (by omega)
  obtain ⟨S8, e8, h8, r8⟩ := strM_lp h7 r7 (dayV A 19 (dayV A 9 (dayV A 4 (dayV A 0 (d1V A)))))
  obtain ⟨S9, e9, z9⟩ := misreadM_ok h8 (w := 0) (by omega)
  have h9 := h8.mz z9
  obtain ⟨S10, e10, z10⟩ := misreadM_ok h9 (w := 1) (by omega)
  have h10 := h9.mz z10
  obtain ⟨S11, e11, z11⟩ := mostM_ok h10
  have h11 := h10.mz z11
  obtain ⟨S12, e12, z12⟩ := oilM_ok h11 (w := 0) (by omega)
  have h12 := h11.mz z12
  obtain ⟨S13, e13, z13⟩ := oilM_ok h12 (w := 1) (by omega)
  have h13 := h12.mz z13
  obtain ⟨S14, e14, z14⟩ := dryM_ok h13 (w := 0) (by omega)
  have h14 := h13.mz z14
  obtain ⟨S15, e15, z15⟩ := dryM_ok h14 (w := 1) (by omega)
  have h15 := h14.mz z15
  obtain ⟨S16, e16, z16, y16⟩ := neverM_st h15
  have h16 := h15.mz z16
  obtain ⟨S17, e17, z17⟩ := askM_ok h16 (x := 0) (by omega)
  have h17 := h16.mz z17
  obtain ⟨S18, e18, z18⟩ := askM_ok h17 (x := 7) (by omega)
  have h18 := h17.mz z18
  obtain ⟨S19, e19, z19⟩ := drynessM_ok h18 (x := 5) (L := 7) (day := 9) (w := 0) (by omega) (by omega) (by omega) (by omega)
  have h19 := h18.mz z19
  obtain ⟨S20, e20, z20⟩ := drynessM_ok h19 (x := 5) (L := 7) (day := 9) (w := 1) (by omega) (by omega) (by omega) (by omega)
  have h20 := h19.mz z20
  obtain ⟨S21, e21, z21⟩ := weatherM_ok h20 (nI 7) (n := 15) (w := 0) (by omega) (by omega) (by omega)
  have h21 := h20.mz z21
  obtain ⟨S22, e22, z22⟩ := weatherM_ok h21 (nI 7) (n := 15) (w := 1) (by omega) (by omega) (by omega)
  refine ⟨S22, ?_, h21.mz z22⟩
  have k1 : ((31 : Int64) * (((31 : Int64) * (hG (fun i => ha (cnV A i)) 17 8)) + Int32.toInt64 (fauV A 0))) + Int32.toInt64 (fauV A 1) = d1V A := rfl
  have k2 : hG (strV A) (dayV A 19 (dayV A 9 (dayV A 4 (dayV A 0 (d1V A))))) (cN (cfg A)) = d2V A := rfl
  change fX9_faultOf (nI 0) S1 = some (fauV A 0, S2) at e2
  change fX9_faultOf (nI 1) S2 = some (fauV A 1, S3) at e3
  change fX9_weatherOf (nI 7) (nI 15) (nI 0) S20 = some (weaV A 0, S21) at e21
  change fX9_weatherOf (nI 7) (nI 15) (nI 1) S21 = some (weaV A 1, S22) at e22
  rw [k2] at e8
  unfold fX9_digest
  rw [lit_0, lit_1, lit_4, lit_5, lit_7, lit_9, lit_15, lit_19, e1, bd_some, e2, bd_some, e3, bd_some]
  dsimp only
  rw [k1, e4, bd_some, e5, bd_some, e6, bd_some, e7, bd_some, e8, bd_some]
  dsimp only
  rw [e9, bd_some, e10, bd_some, e11, bd_some, e12, bd_some, e13, bd_some, e14, bd_some, e15, bd_some, e16, bd_some, e17, bd_some, e18, bd_some, e19, bd_some, e20, bd_some, e21, bd_some, e22, bd_some]
  unfold d4V d3V ha hb
  rfl
theorem stp_digest_ok : stp_digest Inv := by
  rintro Sc Sm ⟨A, hC, hM⟩
  obtain ⟨S1, e1, h1⟩ := digC_ok hC
  obtain ⟨S2, e2, h2⟩ := digM_ok hM
  exact ⟨_, S1, S2, e1, e2, A, h1.c, h2⟩
