/-! the start: both are related there, and every call keeps it -/
theorem law_ops_RR : law_ops RR := ⟨op_guest, op_ofGuest, op_change, op_peg, op_hang, op_become, op_as, op_feed, op_text, op_law, op_dance, op_hours, op_loose, op_then, op_last, op_partner, op_dances, op_whoDanced, op_inOrder, op_wrongs, op_swap, op_go, op_allRue, op_sorriest, op_odds, op_seed, op_voice, op_trace, op_sheet, op_put, op_move, op_rues, op_judge, op_image, op_restore, op_tell, op_check, op_count, op_told⟩
theorem RR_0 : RR x0 m0 := by
  refine ⟨⟨⟨fun _ _ => 0, ⟨by decide, fun g hg => absurd hg (Nat.not_lt_zero _), fun p q hp => absurd hp (Nat.not_lt_zero _)⟩, ⟨rfl, fun g hg => absurd hg (Nat.not_lt_zero _)⟩, ⟨rfl, fun g hg => absurd hg (Nat.not_lt_zero _)⟩⟩, ⟨0, by decide, rfl, rfl⟩, rfl, ⟨⟨0, by decide, rfl, rfl, fun i hi => absurd hi (Nat.not_lt_zero _)⟩, fun i _ => rfl⟩, ⟨0, by decide, rfl, rfl, fun i hi => absurd hi (Nat.not_lt_zero _)⟩, ⟨0, by decide, rfl, rfl, fun i hi => absurd hi (Nat.not_lt_zero _), Or.inl rfl⟩, ⟨0, by decide, rfl, rfl, fun i hi => absurd hi (Nat.not_lt_zero _), Or.inl rfl⟩⟩, ⟨rfl, rfl⟩, ⟨rfl, Or.inl rfl⟩, fun i _ => rfl, ?_, ⟨0, by decide, rfl, rfl, fun i hi => absurd hi (Nat.not_lt_zero _)⟩⟩
  intro s hs
  have e : ∀ k, 46 ≤ k → x0 k = fun _ => 0 := fun k hk => by
    unfold x0
    rw [if_neg (by omega), if_neg (by omega), if_neg (by omega), if_neg (by omega)]
  rw [e (46 + 2 * s) (by omega), e (47 + 2 * s) (by omega)]
  exact ⟨⟨rfl, rfl, Or.inl rfl, 0, by decide, rfl, fun _ => rfl⟩, fun i _ => rfl⟩
theorem whole_start {p : Program} {e : Env} {s : State} {m : MethodId} {below : List Frame} {meth : Method} {c : Code} (l : Launch) {b L : Nat} {xs : Nat → Int32} (hL : L ≤ 3072) (C0 : lw_At p s m meth c b L xs) : W p l e room_1 s m #[Value.ref b] below meth c s.heap [] 0 0 (lw_Z below #[Value.ref b] s) (entryFrame m ([Value.ref b] : List Value).toArray 4) := start_open l law_ops_RR RR_0 hL C0
