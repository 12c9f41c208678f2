/-! ===== printed by wip/gen/lawgen3.py: contracts, codes that are wanting ===== -/
set_option maxRecDepth 1000000 in
theorem lx_l293 : am_cl nw_P0 0 (.invokevirtual 293) = some (325, 1) := by decide +kernel
