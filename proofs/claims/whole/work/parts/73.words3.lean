theorem xw_tb : ∀ w ∈ (vx_atS RX11 189 EXN nmsX).filter goodWord, w ∈ TB := by decide +kernel
theorem xw_c : Cond.castable EXN EXN ∈ XW := by decide +kernel
theorem z_exn : Cond.initialized EXN ∈ TB := tb_1 22 rfl rfl
theorem z_L : Cond.initialized RL ∈ TB := tb_1 0 rfl rfl
theorem cw_L_got : Cond.codeWith yL_got cL_got 5 (some .int) [(0, 10, 13, 13)] ∈ TB := tb_4 21 rfl rfl
theorem t_L_got : Cond.static yL_got ∈ TB := tb_4 20 rfl rfl
