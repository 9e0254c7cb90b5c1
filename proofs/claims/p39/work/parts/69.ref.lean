/-! the reference: what is allowed (by program) -/
def rMv (M : Nat → Nat → Int32) (a b : Nat) : Bool := bt (psg M a (M 3 (37 + a))) b || (decide (M 3 (37 + a) = 0) && (decide (M 1 (2 + a) = 1) && (decide (M 1 (2 + b) = 1) && !decide (a = b))))
def rUs (M : Nat → Nat → Int32) (a c : Nat) : Bool := !decide (M 3 (21 + c) = -1) && bt (psg M a (M 3 (37 + a))) c
def rMs (M : Nat → Nat → Int32) (a c b : Nat) : Bool := !decide (M 3 (21 + c) = -1) && (!decide (c = a) && (!decide (c = b) && bt (psg M a (M 3 (37 + a))) b))
def rCv (M : Nat → Nat → Int32) (a c b : Nat) : Bool := decide (M 3 (37 + a) = 1) && (decide (M 1 (2 + a) = 2) && (!decide (M 3 (21 + c) = -1) && (decide (M 3 (37 + c) = 0) && (decide (M 1 (2 + c) = 1) && (decide (M 1 (2 + b) = 1) && !decide (c = b))))))
def rGb (M : Nat → Nat → Int32) (a b : Nat) : Bool := bt (psg M a (M 3 (69 + a))) b && (decide (M 3 (21 + b) = -1) && (!bt (M 3 4) b && !decide (M 3 (85 + a) = nI b)))
