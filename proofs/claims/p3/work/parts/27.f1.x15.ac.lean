/-! a piece -/
def xe_X15_readExpression_1 : ZXE := (8, 305, 305, 0, 0, [(8, 300, lb_X15_readExpression_0, (some (lbT [0x1000301300002012f0004003300030000], lbT [0x1000301300002012f0004003300030000])), 0, 0)], lb_X15_readExpression_0)
-- script left out here
set_option maxRecDepth 1000000 in
set_option maxHeartbeats 100000000 in
theorem xo_X15_readExpression_1 : LbOk zG zT ct_X15_readExpression 300 xe_X15_readExpression_1 := sorry
