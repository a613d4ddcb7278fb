section PRY
/-! a new deed -/
def ini (h W : ab_HP) : Prop := W.1 = h.1 + 1 ∧ (∀ r k, r ≠ h.1 → ab_i W r k = ab_i h r k) ∧ (∀ r k, r ≠ h.1 → ab_r W r k = ab_r h r k) ∧ ∀ r k, r ≠ h.1 → ab_l W r k = ab_l h r k
def dkq (W : ab_HP) (r N : Nat) (kd a b c f : Int32) : Prop := (ab_i W r 0 = nI N ∧ ab_i W r 1 = a ∧ ab_i W r 2 = b ∧ ab_i W r 3 = c ∧ ab_i W r 4 = f ∧ ab_i W r 5 = kd) ∧ ab_i W r 6 = dc_cost kd c f ∧ ab_i W r 7 = dc_back kd c f ∧ ab_i W r 8 = dc_sets kd b f ∧ ab_i W r 9 = dc_clears kd b ∧ ab_i W r 10 = dc_kept kd f ∧ ab_i W r 11 = dc_care kd c f ∧ ab_i W r 12 = dc_fail N kd c f ∧ ab_i W r 13 = dc_can kd f
theorem hl_nwq (h : ab_HP) (r' k' : Nat) : ab_l (ab_nw h) r' k' = if r' = h.1 then 0 else ab_l h r' k' := rfl
theorem ini_of {h W : ab_HP} (e1 : W.1 = h.1 + 1) (e2 : ∀ r k, r ≠ h.1 → ab_i W r k = ab_i h r k) (e3 : ∀ r k, r ≠ h.1 → ab_r W r k = ab_r h r k) (e4 : ∀ r k, r ≠ h.1 → ab_l W r k = ab_l h r k) : ini h W := ⟨e1, e2, e3, e4⟩
theorem ini_0 (h : ab_HP) (N : Nat) (a b c f : Int32) : ∃ W, f_X1_init h.1 (nI N) a b c f (ab_nw h) = some W ∧ ini h W ∧ dkq W h.1 N 0 a b c f := by
  unfold f_X1_init ab_let dkq
  by_cases z0 : f = 0
  all_goals
    simp only [Option.bind_some, z0, if_true, if_false]
    refine ⟨_, rfl, ini_of rfl (fun r k q => by simp [hi_ip, hi_nw, q]) (fun r k q => by simp [hr_ip, hr_nw, q]) (fun r k q => by simp [hl_ip, hl_nwq, q]), ?_⟩
    simp [hi_ip, hi_nw, dc_cost, dc_back, dc_sets, dc_clears, dc_kept, dc_care, dc_fail, dc_can, dc_bit, z0, Int32.add_comm]
theorem ini_1 (h : ab_HP) (N : Nat) (a b c f : Int32) : ∃ W, f_X4_init h.1 (nI N) a b c f (ab_nw h) = some W ∧ ini h W ∧ dkq W h.1 N 1 a b c f := by
  unfold f_X4_init f_X1_init ab_let dkq
  by_cases z0 : f = 0
  all_goals
    simp only [Option.bind_some, z0, if_true, if_false]
    refine ⟨_, rfl, ini_of rfl (fun r k q => by simp [hi_ip, hi_nw, q]) (fun r k q => by simp [hr_ip, hr_nw, q]) (fun r k q => by simp [hl_ip, hl_nwq, q]), ?_⟩
    simp [hi_ip, hi_nw, dc_cost, dc_back, dc_sets, dc_clears, dc_kept, dc_care, dc_fail, dc_can, dc_bit, z0, Int32.add_comm]
theorem ini_2 (h : ab_HP) (N : Nat) (a b c f : Int32) : ∃ W, f_X7_init h.1 (nI N) a b c f (ab_nw h) = some W ∧ ini h W ∧ dkq W h.1 N 2 a b c f := by
  unfold f_X7_init f_X1_init ab_let dkq
  by_cases z0 : f = 0
  all_goals
    simp only [Option.bind_some, z0, if_true, if_false]
    refine ⟨_, rfl, ini_of rfl (fun r k q => by simp [hi_ip, hi_nw, q]) (fun r k q => by simp [hr_ip, hr_nw, q]) (fun r k q => by simp [hl_ip, hl_nwq, q]), ?_⟩
    simp [hi_ip, hi_nw, dc_cost, dc_back, dc_sets, dc_clears, dc_kept, dc_care, dc_fail, dc_can, dc_bit, z0, Int32.add_comm]
theorem ini_3 (h : ab_HP) (N : Nat) (a b c f : Int32) : ∃ W, f_X2_init h.1 (nI N) a b c f (ab_nw h) = some W ∧ ini h W ∧ dkq W h.1 N 3 a b c f := by
  unfold f_X2_init f_X7_init f_X1_init ab_let dkq
  by_cases z0 : f = 0
  all_goals
    simp only [Option.bind_some, z0, if_true, if_false]
    refine ⟨_, rfl, ini_of rfl (fun r k q => by simp [hi_ip, hi_nw, q]) (fun r k q => by simp [hr_ip, hr_nw, q]) (fun r k q => by simp [hl_ip, hl_nwq, q]), ?_⟩
    simp [hi_ip, hi_nw, dc_cost, dc_back, dc_sets, dc_clears, dc_kept, dc_care, dc_fail, dc_can, dc_bit, z0, Int32.add_comm]
theorem ini_4 (h : ab_HP) (N : Nat) (a b c f : Int32) : ∃ W, f_X5_init h.1 (nI N) a b c f (ab_nw h) = some W ∧ ini h W ∧ dkq W h.1 N 4 a b c f := by
  unfold f_X5_init f_X1_init ab_let dkq
  by_cases z0 : f = 0 <;> by_cases z1 : f < 5
  all_goals
    simp only [Option.bind_some, z0, z1, if_true, if_false]
    refine ⟨_, rfl, ini_of rfl (fun r k q => by simp [hi_ip, hi_nw, q]) (fun r k q => by simp [hr_ip, hr_nw, q]) (fun r k q => by simp [hl_ip, hl_nwq, q]), ?_⟩
    simp [hi_ip, hi_nw, dc_cost, dc_back, dc_sets, dc_clears, dc_kept, dc_care, dc_fail, dc_can, dc_bit, z0, z1, Int32.add_comm]
theorem ini_5 (h : ab_HP) (N : Nat) (a b c f : Int32) : ∃ W, f_X0_init h.1 (nI N) a b c f (ab_nw h) = some W ∧ ini h W ∧ dkq W h.1 N 5 a b c f := by
  unfold f_X0_init f_X4_init f_X1_init ab_let dkq
  by_cases z0 : f = 0 <;> by_cases z1 : f = 9
  all_goals
    simp only [Option.bind_some, z0, z1, if_true, if_false]
    refine ⟨_, rfl, ini_of rfl (fun r k q => by simp [hi_ip, hi_nw, q]) (fun r k q => by simp [hr_ip, hr_nw, q]) (fun r k q => by simp [hl_ip, hl_nwq, q]), ?_⟩
    simp [hi_ip, hi_nw, dc_cost, dc_back, dc_sets, dc_clears, dc_kept, dc_care, dc_fail, dc_can, dc_bit, z0, z1, Int32.add_comm]
theorem ini_6 (h : ab_HP) (N : Nat) (a b c f : Int32) : ∃ W, f_X3_init h.1 (nI N) a b c f (ab_nw h) = some W ∧ ini h W ∧ dkq W h.1 N 6 a b c f := by
  unfold f_X3_init f_X1_init ab_let dkq
  by_cases z0 : f = 0
  all_goals
    simp only [Option.bind_some, z0, if_true, if_false]
    refine ⟨_, rfl, ini_of rfl (fun r k q => by simp [hi_ip, hi_nw, q]) (fun r k q => by simp [hr_ip, hr_nw, q]) (fun r k q => by simp [hl_ip, hl_nwq, q]), ?_⟩
    simp [hi_ip, hi_nw, dc_cost, dc_back, dc_sets, dc_clears, dc_kept, dc_care, dc_fail, dc_can, dc_bit, z0, Int32.add_comm]
theorem ini_7 (h : ab_HP) (N : Nat) (a b c f : Int32) : ∃ W, f_X8_init h.1 (nI N) a b c f (ab_nw h) = some W ∧ ini h W ∧ dkq W h.1 N 7 a b c f := by
  unfold f_X8_init f_X5_init f_X1_init ab_let dkq
  by_cases z0 : f = 0 <;> by_cases z1 : f < 5
  all_goals
    simp only [Option.bind_some, z0, z1, if_true, if_false]
    refine ⟨_, rfl, ini_of rfl (fun r k q => by simp [hi_ip, hi_nw, q]) (fun r k q => by simp [hr_ip, hr_nw, q]) (fun r k q => by simp [hl_ip, hl_nwq, q]), ?_⟩
    simp [hi_ip, hi_nw, dc_cost, dc_back, dc_sets, dc_clears, dc_kept, dc_care, dc_fail, dc_can, dc_bit, z0, z1, Int32.add_comm]
end PRY
