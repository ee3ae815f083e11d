/-! the second implementation: what is caught -/
def av_bi (q : Option Nat) : Int32 := match q with
  | none => -1
  | some b => nI b
