/-! the reference's settling: attacks, holds, says (by program) -/
section
variable {β ρ : Type} {b : (β → osM ρ) → β → osM ρ} {G : osG} {z : osS} {m : Nat} {M : Nat → Nat → Int32} {D : Nat → Nat → Int64} {Q : ρ → osS → Prop}
end
def rAt (M : Nat → Nat → Int32) (n i g b : Nat) : Int32 := if bt (M 30 0) i = true then (if M 3 (21 + g) = -1 then M 32 i else if scs M (M 24 g) = true then (if M 23 i = -1 then M 32 i else if M 3 (21 + g) = M 3 (21 + b) then 0 else (1 : Int32) + nI (fb_ct (rSp M b (M 3 (21 + g))) n)) else if M 3 (21 + g) = M 3 (21 + b) then 0 else (1 : Int32) + nI (fb_ct (rSp M b (M 3 (21 + g))) n)) else 0
def rHo (M : Nat → Nat → Int32) (n a : Nat) : Int32 := if M 3 (21 + a) = -1 then 0 else if M 24 a = -1 then (1 : Int32) + nI (fb_ct (rSp M a (-1)) n) else if scs M (M 24 a) = true then 0 else 1
def rPv (M : Nat → Nat → Int32) (i : Nat) : Int32 := if bt (M 30 0) i = true then (if scs M (M 23 i) = true then 0 else M 32 i) else 0
