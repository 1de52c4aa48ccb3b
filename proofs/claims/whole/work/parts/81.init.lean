def g_0 : Mm := fun _ _ _ _ => 0
def chI (o : Option (Nat × Mm)) (n : Nat) (f : Mm → Bool) : Bool := match o with
  | some r => r.1 == n && f r.2
  | none => false
set_option maxRecDepth 100000 in
theorem iv4 : chI (fX10_init 1 (nw g_0 0) 0) 167 (fun _ => true) = true := by decide +kernel
