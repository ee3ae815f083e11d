/-! a sound's line -/
def tl_s (s : Nat → Int32) : List Int32 := tl_d (s 0) ++ [if s 4 = 0 then 60 else 62] ++ tl_d (s 1) ++ [97 + s 2] ++ (if 0 < s 3 then [33] else [])
theorem am_0n1 : ((0 : Int32) = 1) = False := by decide
