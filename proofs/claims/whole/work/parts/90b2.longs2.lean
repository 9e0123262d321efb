section T
variable {w : Nat → Int64} {M : rMem} {L : rLoc} {st : List Value} {pc a b : Nat}
theorem tW_Stp {I : Instr} (h : okI I a = true) : rStp I a b pc L st (tW w M) = (rStp I a b pc L st M).map (tWx w) := by
  unfold rStp
  split <;> first
    | with_reducible exact tW_LdI
    | with_reducible exact tW_LdA
    | with_reducible exact tW_LdN
    | with_reducible exact tW_StI
    | with_reducible exact tW_StA
    | with_reducible exact tW_StN
    | with_reducible exact tW_Ldc
    | with_reducible exact tW_Inc
    | with_reducible exact tW_B2
    | with_reducible exact tW_I2l
    | with_reducible exact tW_Lcm
    | with_reducible exact tW_Dup
    | with_reducible exact tW_Du2
    | with_reducible exact tW_Pop
    | with_reducible exact tW_To
    | with_reducible exact tW_If1
    | with_reducible exact tW_If2
    | with_reducible exact tW_Acm
    | with_reducible exact tW_Inl
    | with_reducible exact tW_Tsw
    | with_reducible exact tW_Lsw
    | with_reducible exact tW_Get
    | with_reducible exact tW_Put
    | with_reducible exact tW_Gts
    | with_reducible exact tW_Iald
    | with_reducible exact tW_Iast
    | with_reducible exact tW_Aald
    | with_reducible exact tW_Aast
    | with_reducible exact tW_Alen
    | with_reducible exact tW_New
    | with_reducible exact tW_Nwq
    | exact tW_Nwa (by have h : (!decide (a = 1)) = true := h; simpa using h)
    | (exfalso; cases h; done)
    | rfl
end T
