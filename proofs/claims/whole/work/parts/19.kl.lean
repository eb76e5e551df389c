theorem kl_X9_102 : Cond.constantLong RX9 102 255 ∈ xALL := xALL_of (i := 821) (by decide +kernel) (by decide +kernel)
theorem kl_L_42 : Cond.constantLong RL 42 4294967295 ∈ xALL := xALL_of (i := 961) (by decide +kernel) (by decide +kernel)
