/-! the reference: transfers told and made; plans told -/
/-- a number of the transfer at a place -/
def trN (L : List trT) (i w : Int32) : Int32 := if w = 0 then nI (L.getD i.toNatClampNeg (0, 0, 0)).1 else if w = 1 then nI (L.getD i.toNatClampNeg (0, 0, 0)).2.1 else if w = 2 then iI (L.getD i.toNatClampNeg (0, 0, 0)).2.2 else -2
/-! plans that are open -/
