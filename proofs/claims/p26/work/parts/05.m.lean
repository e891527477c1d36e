def mL_act : MD := (RL, yL_act, cL_act, 8, (some .int), [])
set_option maxRecDepth 100000 in
theorem wd_mL_act : q_wd mL_act ∈ q_TB := q_tb 713 (Eq.refl (some (q_wd mL_act))) (by decide +kernel)
theorem ok_mL_act : q_ok mL_act 2 := ⟨wd_mL_act, by decide +kernel, ⟨by decide +kernel, by decide +kernel, by decide +kernel⟩, by decide +kernel, q_tb 60 (by decide +kernel) (by decide +kernel)⟩
theorem st_mL_act : Cond.static yL_act ∈ q_TB := q_tb 712 (by decide +kernel) (by decide +kernel)
