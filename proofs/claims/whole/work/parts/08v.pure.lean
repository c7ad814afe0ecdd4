theorem all_sim : AllSim 5000 RR := by
  have hn : 5000 ≤ 5000 := Nat.le_refl _
  exact ⟨sim_room hn, sim_depth hn, sim_tip _, sim_barrel _, sim_breath _, sim_limit _, sim_minutes hn, sim_air hn, sim_fewest hn, sim_go _, sim_out hn, sim_hose hn, sim_stay _, sim_hang hn, sim_man _, sim_thing _, sim_under hn, sim_tangle _, sim_work _, sim_ofThing _, sim_tide _, sim_calm _, sim_best hn, sim_tideOf hn, sim_sign hn, sim_heard hn, sim_hear _, sim_tell hn, sim_tight hn, sim_free hn, sim_entry hn, sim_log hn, sim_told hn⟩
