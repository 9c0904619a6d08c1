/-! every call does alike -/
theorem sim_all : Sim Rel := ⟨sim_spawn, sim_fork, sim_grow, sim_load, sim_has, sim_store, sim_exit, sim_reap, sim_tick, sim_current, sim_block, sim_unblock, sim_freeFrames, sim_free, sim_frame, sim_about, sim_process, sim_told⟩
