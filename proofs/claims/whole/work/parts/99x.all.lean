/-- all steps, and the start -/
theorem stp_all_ok : stp_all Inv := ⟨stp_type_ok, stp_wipe_ok, stp_undo_ok, stp_fault_ok, stp_damp_ok, stp_stroke_ok, stp_fine_ok, stp_clean_ok, stp_grease_ok, stp_back_ok, stp_read_ok, stp_stands_ok, stp_state_ok, stp_up_ok, stp_through_ok, stp_misread_ok, stp_most_ok, stp_deep_ok, stp_oil_ok, stp_when_ok, stp_place_ok, stp_dry_ok, stp_seen_ok, stp_forget_ok, stp_never_ok, stp_sign_ok, stp_chalk_ok, stp_ask_ok, stp_dryness_ok, stp_weather_ok, stp_sheet_ok, stp_lose_ok, stp_put_ok, stp_get_ok, stp_copy_ok, stp_write_ok, stp_count_ok, stp_digest_ok⟩
def A0 : Ab := ((0, fun _ => 0), (0, fun _ => 0), 3, (0, fun _ => 0, fun _ => 0), (0, fun _ => 0, fun _ => 0), (0, fun _ => 0, fun _ => 0, fun _ => 0), (fun _ => 1, fun _ => 0, fun _ => 0, fun _ _ => 0), 0)
theorem no_lt {P : Nat → Prop} : ∀ i, i < 0 → P i := fun i h => absurd h (Nat.not_lt_zero i)
theorem cSh0 : cSh S0c (aH A0) := by
  intro j hj
  refine ⟨⟨Nat.le_refl 1, Nat.zero_le _, Nat.zero_le _⟩, ?_⟩
  have h4 : j = 0 ∨ j = 1 ∨ j = 2 ∨ j = 3 := by omega
  rcases h4 with rfl | rfl | rfl | rfl
  · exact ⟨rfl, rfl, rfl, fun i _ => rfl⟩
  · exact ⟨rfl, rfl, rfl, fun i _ => rfl⟩
  · exact ⟨rfl, rfl, rfl, fun i _ => rfl⟩
  · exact ⟨rfl, rfl, rfl, fun i _ => rfl⟩
theorem mSh0 : mSh S0m (aH A0) := by
  intro j hj
  exact ⟨⟨Nat.le_refl 1, Nat.zero_le _, Nat.zero_le _⟩, rfl, rfl, rfl, fun i _ => rfl⟩
theorem RB0 : RB S0c A0 := ⟨⟨Nat.zero_le _, rfl, no_lt⟩, ⟨Nat.zero_le _, rfl, no_lt⟩, ⟨show 3 ≤ 9 by omega, rfl⟩, ⟨Nat.zero_le _, Nat.zero_le _, rfl, rfl, no_lt, no_lt⟩, ⟨Nat.zero_le _, rfl, no_lt⟩, cSh0, ⟨Nat.zero_le _, rfl⟩⟩
theorem RM0 : RM S0m A0 := ⟨⟨Nat.zero_le _, rfl, no_lt⟩, ⟨Nat.zero_le _, rfl, no_lt⟩, ⟨show 3 ≤ 9 by omega, rfl⟩, ⟨Nat.zero_le _, Nat.zero_le _, rfl, rfl, no_lt, no_lt⟩, ⟨Nat.zero_le _, rfl, no_lt⟩, mSh0, ⟨Nat.zero_le _, rfl⟩⟩
theorem Inv0 : Inv S0c S0m := ⟨A0, ⟨RB0, Or.inl rfl⟩, RM0⟩
theorem whole_start {p : Program} {e : Env} {s : State} {m : MethodId} {below : List Frame} {meth : Method} {c : Code} (l : Launch) {b L : Nat} {xs : Nat → Int32} (hL : L ≤ 384) (C0 : lw_At p s m meth c b L xs) : W p l e room_1 s m #[Value.ref b] below meth c s.heap [] 0 0 (lw_Z below #[Value.ref b] s) (entryFrame m ([Value.ref b] : List Value).toArray 4) := start_open stp_all_ok Inv0 l hL C0
