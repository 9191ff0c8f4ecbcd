/-! PURE PART: the start -/
def sg0 : St := fun j => if 60 ≤ j ∧ j < 141 then 1 else if 141 ≤ j ∧ j < 222 then 2 else if j = 5 then 1 else 0
theorem sg0_z {j : Nat} (h : j < 60 ∨ 222 ≤ j) (h5 : j ≠ 5) : sg0 j = 0 := by
  unfold sg0
  rw [if_neg (by omega), if_neg (by omega), if_neg h5]
theorem sg0_rr : RR mu0 114 sg0 := by
  intro j hj
  show nvX8_kS 81 j = nI (sg0 j)
  unfold nvX8_kS sg0
  simp only [Nat.reduceAdd]
  by_cases c1 : 60 ≤ j ∧ j < 141
  · rw [if_pos c1, if_pos c1]; rfl
  · rw [if_neg c1, if_neg c1]
    by_cases c2 : 141 ≤ j ∧ j < 222
    · rw [if_pos c2, if_pos c2]; rfl
    · rw [if_neg c2, if_neg c2]
      by_cases c3 : j = 5
      · rw [if_pos c3, if_pos c3]; rfl
      · rw [if_neg c3, if_neg c3]; rfl
theorem sg0_w : WF sg0 := by
  intro j hj
  unfold sg0
  by_cases c1 : 60 ≤ j ∧ j < 141
  · rw [if_pos c1]
    unfold bd
    rw [if_neg (by omega), if_neg (by omega), if_neg (by omega), if_neg (by omega), if_neg (by omega), if_neg (by omega), if_neg (by omega), if_pos (by omega)]
    omega
  · rw [if_neg c1]
    by_cases c2 : 141 ≤ j ∧ j < 222
    · rw [if_pos c2]
      unfold bd
      rw [if_neg (by omega), if_neg (by omega), if_neg (by omega), if_neg (by omega), if_neg (by omega), if_neg (by omega), if_neg (by omega), if_neg (by omega), if_pos (by omega)]
      omega
    · rw [if_neg c2]
      by_cases c3 : j = 5
      · rw [if_pos c3, c3]; decide
      · rw [if_neg c3]; exact Nat.zero_le _
theorem sg0_0 : sg0 0 = 0 := sg0_z (by omega) (by omega)
theorem mu0_z {k j : Nat} (h1 : k ≠ 114) (h2 : k ≠ 120) (h3 : k ≠ 2) (h4 : k ≠ 34) (h5 : k ≠ 66) (h6 : k ≠ 93) (h7 : k ≠ 113) : mu0.1 k j = nI 0 := by
  show m0 k j = nI 0
  unfold m0
  rw [if_neg h1, if_neg h2, if_neg h3, if_neg h4, if_neg h5, if_neg h6, if_neg h7]
  rfl
theorem sg0_n : NN mu0 2 sg0 0 9 := by
  refine ⟨⟨?_, ?_, ?_, ?_, rfl, by omega, ?_⟩, ?_, ?_, ?_⟩
  · rw [sg0_0]; rfl
  · rw [sg0_z (by omega) (by omega)]; rfl
  · rw [sg0_z (by omega) (by omega)]; rfl
  · rw [show sg0 5 = 1 from rfl]; rfl
  · intro r hr
    rw [show mu0.1 2 5 = nI 0 from rfl, bt_0, eq_comm, decide_eq_false_iff_not]
    omega
  · unfold NA
    rw [sg0_0]
    exact ⟨fun r hr => absurd hr (by omega), fun r hr => absurd hr (by omega), fun r hr => absurd hr (by omega), fun r hr => absurd hr (by omega), fun r hr => absurd hr (by omega), fun a c ha => absurd ha (by omega)⟩
  · intro c r f _ hr
    rw [sg0_0] at hr
    omega
  · intro c s t f hc hs ht
    rw [mu0_z (by omega) (by omega) (by omega) (by omega) (by omega) (by omega) (by omega), bt_0, eq_comm, decide_eq_false_iff_not]
    intro z
    rw [sg0_z (by omega) (by omega)] at z
    omega
theorem ii0 : II mu0 := by
  refine ⟨⟨sg0, 0, sg0_rr, sg0_w, fun f t s hf ht hs _ => sg0_z (by omega) (by omega), ?_, sg0_n, rfl, ⟨?_, ?_⟩, ⟨?_, ?_⟩⟩, Or.inl ⟨rfl, rfl⟩, ⟨0, by omega, rfl, rfl, fun i hi => absurd hi (by omega)⟩, ?_, rfl, rfl⟩
  · rw [sg0_z (by omega) (by omega)]; omega
  · rw [sg0_z (by omega) (by omega)]; rfl
  · intro i hi; rw [sg0_z (by omega) (by omega)] at hi; omega
  · rw [sg0_z (by omega) (by omega)]; rfl
  · intro i hi; rw [sg0_z (by omega) (by omega)] at hi; omega
  · intro s hs
    have hs' : s = 0 ∨ s = 1 ∨ s = 2 ∨ s = 3 := by omega
    refine ⟨Or.inl ⟨mu0_z (by omega) (by omega) (by omega) (by omega) (by omega) (by omega) (by omega), ?_⟩, ⟨0, by omega, mu0_z (by omega) (by omega) (by omega) (by omega) (by omega) (by omega) (by omega), mu0_z (by omega) (by omega) (by omega) (by omega) (by omega) (by omega) (by omega)⟩, fun _ _ => rfl⟩
    rcases hs' with z | z | z | z <;> subst z <;> rfl
theorem pure_main : ∃ I, I mu0 ∧ opsOK I := ⟨II, ii0, o_rock, o_out, o_turn, o_dark, o_delay, o_told, o_heard, o_counts, o_due, o_rule, o_add, o_type, o_laws, o_rocks, o_count, o_minute, o_night, o_lots, o_seed, o_behind, o_when, o_darkest, o_holds, o_bears, o_worst, o_least, o_spare, o_log, o_burn, o_sure, o_fits, o_ask, o_ship, o_image, o_restore, o_delays, o_film, o_seen, o_sheet, o_drop, o_item, o_copy⟩
