/-! the start -/
theorem Re_init : Re σi μi := by
  refine ⟨[], 0, 0, ⟨⟨rfl, by decide, fun t p hp => by simp at hp⟩, rfl, fun t p hp => by simp at hp⟩, ⟨by omega, Or.inl (show (-1 : Int32) < 0 by decide)⟩, ⟨⟨by omega, ⟨by omega, by omega⟩, rfl, rfl, ⟨0, by omega, rfl⟩, fun i hi => absurd hi (by omega), fun i hi => absurd hi (by omega), fun i hi => absurd hi (by omega)⟩, ⟨⟨rfl, rfl, rfl, rfl, rfl⟩, fun i hi => absurd hi (by omega), fun i hi => absurd hi (by omega), fun i hi => absurd hi (by omega)⟩, ⟨fun a ha => absurd ha.1 (by simp [xL, σi]), rfl⟩, show (-1 : Int32) < 0 by decide⟩, ⟨rfl, Or.inl rfl⟩, ?_, ?_, ?_, ?_⟩
  · intro k hk
    have h4 : k = 0 ∨ k = 1 ∨ k = 2 ∨ k = 3 := by omega
    rcases h4 with rfl | rfl | rfl | rfl
    · exact ⟨rfl, rfl, fun i hi => ⟨rfl, show okV 0 from Or.inr (by decide)⟩, Or.inl rfl, 0, by omega, rfl⟩
    · exact ⟨rfl, rfl, fun i hi => ⟨rfl, show okV 0 from Or.inr (by decide)⟩, Or.inl rfl, 0, by omega, rfl⟩
    · exact ⟨rfl, rfl, fun i hi => ⟨rfl, show okV 0 from Or.inr (by decide)⟩, Or.inl rfl, 0, by omega, rfl⟩
    · exact ⟨rfl, rfl, fun i hi => ⟨rfl, show okV 0 from Or.inr (by decide)⟩, Or.inl rfl, 0, by omega, rfl⟩
  · intro k hk
    have e8 : μi 8 k = 0 := rfl
    have h5 : k = 0 ∨ k = 1 ∨ k = 2 ∨ k = 3 ∨ k = 4 := by omega
    have e0 : xi σi (20 + k) 0 = 0 := by rcases h5 with rfl | rfl | rfl | rfl | rfl <;> rfl
    rw [e8, e0]
    exact ⟨rfl, fun e => absurd e (by decide), fun e => absurd e (by decide), fun e => absurd e (by decide)⟩
  · exact ⟨⟨0, by omega, rfl, rfl⟩, fun i hi => ⟨rfl, 0, by omega, rfl⟩⟩
  · exact ⟨0, by omega, rfl, rfl, fun i hi => absurd hi (by omega)⟩
theorem whole_start {p : Program} {e : Env} {s : State} {m : MethodId} {below : List Frame} {meth : Method} {c : Code} (l : Launch) (hflags : l.flags = flags0) {b L : Nat} {xs : Nat → Int32} (hL : L ≤ 3072) (C0 : lw_At p s m meth c b L xs) : W p l e room_1 s m #[Value.ref b] below meth c s.heap [] 0 0 (lw_Z below #[Value.ref b] s) (entryFrame m ([Value.ref b] : List Value).toArray 4) :=
  start_of (Re := Re) Re_init L_letter L_told L_as L_turns L_set L_puts L_at L_halt L_bump L_deal L_seed L_jolts L_bag L_behind L_rests L_padding L_stays L_bundle L_halts L_miles L_fee L_fine L_feed L_trim L_text L_textTold L_why L_sheet L_mark L_pour L_reads L_copy L_lay L_ask L_item L_rest L_tell L_check L_keep L_back L_count l hL C0
