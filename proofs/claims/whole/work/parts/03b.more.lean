section MM
variable {L : List Shp} {G : Gd} {Z : Mc} {cc : ByteArray} {nL : Nat} {own : String} {rt : Option FieldType} {d : Nat} {ρ τ : Type} {ret : ρ → Option Value} {pc : Nat} {lvs : List (Nat × Value)} {st : List Value} {S : Sg} {x : Option (τ × Sg)} {K : τ → Sg → Option (ρ × Sg)}
/-- Math.max, Math.min -/
theorem g_mmax (pc2 : Nat) (X : Cx L G Z cc nL own rt (d + 1)) {idx : Nat} {u v : Int32} (hlk : Cond.methodLink own idx Lib.Math.max.name ∈ tbG) (hstat : Cond.static Lib.Math.max.name ∈ tbG) (hini : Cond.initialized "java/lang/Math" ∈ tbG) (hcode : Cond.code Lib.Math.max.name Lib.Math.max.code 2 (some .int) ∈ tbG) (hst : (st.map fun v => v.category).sum ≤ 8) (hd : decode cc pc = .ok (.invokestatic idx, 3)) (hp : pc + 3 = pc2) (k : Go L G Z nL ret pc2 lvs (.int (if u < v then v else u) :: st) S x K) : Go L G Z nL ret pc lvs (.int v :: .int u :: st) S x K := by
  subst hp
  intro r S' ho H locs ls hl hP hS
  obtain ⟨hx, hb, hml, hown, hts, hK, hlk9, hrt9, hj, hR, hnk⟩ := X
  have h8 : (rmD (d + 1)).locals = 40 * (d + 1) := rfl
  exact va_mmax hx hb (hml.trans hl.1.symm) hown (hts _ hlk) (hts _ hstat) (hts _ hini) (hts _ hcode) (by rw [hR]; exact Nat.le_add_left 1 d) (by rw [hR, h8]; omega) (Nat.zero_le _) (Nat.zero_le _) hd (k r S' ho H locs ls hl hP hS)
theorem g_mmin (pc2 : Nat) (X : Cx L G Z cc nL own rt (d + 1)) {idx : Nat} {u v : Int32} (hlk : Cond.methodLink own idx Lib.Math.min.name ∈ tbG) (hstat : Cond.static Lib.Math.min.name ∈ tbG) (hini : Cond.initialized "java/lang/Math" ∈ tbG) (hcode : Cond.code Lib.Math.min.name Lib.Math.min.code 2 (some .int) ∈ tbG) (hst : (st.map fun v => v.category).sum ≤ 8) (hd : decode cc pc = .ok (.invokestatic idx, 3)) (hp : pc + 3 = pc2) (k : Go L G Z nL ret pc2 lvs (.int (if v < u then v else u) :: st) S x K) : Go L G Z nL ret pc lvs (.int v :: .int u :: st) S x K := by
  subst hp
  intro r S' ho H locs ls hl hP hS
  obtain ⟨hx, hb, hml, hown, hts, hK, hlk9, hrt9, hj, hR, hnk⟩ := X
  have h8 : (rmD (d + 1)).locals = 40 * (d + 1) := rfl
  exact va_mmin hx hb (hml.trans hl.1.symm) hown (hts _ hlk) (hts _ hstat) (hts _ hini) (hts _ hcode) (by rw [hR]; exact Nat.le_add_left 1 d) (by rw [hR, h8]; omega) (Nat.zero_le _) (Nat.zero_le _) hd (k r S' ho H locs ls hl hP hS)
end MM
theorem mm_max : Cond.static Lib.Math.max.name ∈ tbG ∧ Cond.initialized "java/lang/Math" ∈ tbG ∧ Cond.code Lib.Math.max.name Lib.Math.max.code 2 (some .int) ∈ tbG := ⟨tb_in (List.mem_of_getElem? (i := 98) (by decide +kernel)) rfl, tb_in (List.mem_of_getElem? (i := 72) (by decide +kernel)) rfl, tb_in (List.mem_of_getElem? (i := 99) (by decide +kernel)) rfl⟩
theorem mm_min : Cond.static Lib.Math.min.name ∈ tbG ∧ Cond.initialized "java/lang/Math" ∈ tbG ∧ Cond.code Lib.Math.min.name Lib.Math.min.code 2 (some .int) ∈ tbG := ⟨tb_in (List.mem_of_getElem? (i := 403) (by decide +kernel)) rfl, tb_in (List.mem_of_getElem? (i := 72) (by decide +kernel)) rfl, tb_in (List.mem_of_getElem? (i := 404) (by decide +kernel)) rfl⟩
