noncomputable def xchm (mi : Nat) : Bool := xcvb mi (xr_get xcode mi) && xjvb mi (xr_get xjmp mi) && (match xr_get xcode mi with
  | E :: _ => Nat.beq E.2.2.2.2.1 0
  | [] => true) && xmok mi
noncomputable def xstR (lo n : Nat) : Bool := (List.range n).all fun i => xchm (lo + i)
/-- the first n entries -/
noncomputable def xcvn (mi : Nat) : Nat → List XE → Bool
  | 0, _ => true
  | _ + 1, [] => true
  | n + 1, E :: C => xokb mi E && (xterm E.1 || xnx E C) && xcvn mi n C
