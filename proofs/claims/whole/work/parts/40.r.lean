/-- a town without houses, nothing on rows and texts, nothing kept -/
theorem rel0 : Rel sgC0 sgM0 := by
  have a1 : ∀ r, r < 6 → gS sgC0 (16 * (5 + r) + 1) = -1 ∧ gA sgM0 1 r = -1 := by decide
  have a2 : ∀ r, r < 4 → gS sgC0 (16 * (11 + r) + 1) = -1 ∧ gA sgM0 3 r = -1 := by decide
  have a3 : ∀ r, r < 3 → gS sgC0 (16 * (15 + r) + 1) = -1 ∧ gA sgM0 13 r = -1 := by decide
  have a4 : ∀ k, k < 5 → gA sgM0 9 k = 0 ∧ iniV (fun _ => 0) k = 0 := by decide
  refine ⟨⟨Or.inl rfl, Or.inr rfl, Or.inl rfl⟩, by decide, fun r hr => ⟨(a1 r hr).1.trans (a1 r hr).2.symm, Or.inl (a1 r hr).2⟩, fun r hr => ⟨(a2 r hr).1.trans (a2 r hr).2.symm, Or.inl (a2 r hr).2⟩, ⟨by decide, by decide, by decide, by decide, by decide, fun f _ => rfl⟩, 0, fun _ => 0, [], ⟨by decide, Or.inl rfl, ⟨0, by decide, rfl⟩, fun i hi => absurd hi (by omega)⟩, ⟨by decide, fun c hc => by cases hc⟩, ?_, ?_, fun k hk => ⟨(a3 k hk).1.trans (a3 k hk).2.symm, Or.inl (a3 k hk).2⟩⟩
  · refine ⟨⟨by decide, Or.inl rfl, by decide, ⟨by decide, by decide, by decide, by decide, by decide, by decide, by decide⟩, fun j _ h0 => absurd h0 (by omega), fun i hi => absurd hi (by omega)⟩, ⟨by decide, fun k hk => absurd hk (by simp)⟩, ?_⟩
    unfold FD
    decide
  · refine ⟨⟨by decide, by decide, by decide, fun k hk => (a4 k hk).1.trans (a4 k hk).2.symm, fun i hi => absurd hi (by omega)⟩, by decide, fun k hk => absurd hk (by simp)⟩
theorem S_whole : S_all Rel := ⟨st_row, st_lay, st_at, st_tear, st_copy, st_mean, st_text, st_put, st_fault, st_town, st_house, st_mark, st_walk, st_tap, st_slate, st_frost, st_night, st_undo, st_keep, st_on, st_takes, st_pays, st_who, st_quarrels, st_soonest, st_intime, st_many, st_dates, st_whose, st_kinds, st_test, st_sets, st_sure, st_duel, st_odds, st_mid, st_lots, st_asked, st_upper, st_lower, st_count, st_finding, st_findings, st_digest⟩
