/-! the library's laws of numbers, named once -/
theorem fl_good : FP.Core.Good FP.Core.b64 := FP.Core.good_b64
