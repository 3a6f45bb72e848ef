/-! the reference: a person of a text -/
def r44 (x : Int32) : pE ⊕ pS → pE ⊕ pS
  | .inl e => .inl e
  | .inr q => .inr (q.1, u1 q.2 322 44 x)
