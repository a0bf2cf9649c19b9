/-! a piece -/
set_option maxRecDepth 1000000 in
set_option maxHeartbeats 100000000 in
theorem ok_X15_readItem : CtOk zG zT ct_X15_readItem := sorry
