/-! ===== the claim, out of the machine's run of the law ===== -/
def xh0 : XH := (0, 0, 0, fun _ => (99, 0), fun _ _ => 0, fun _ _ => 0, fun _ _ => .null)
/-- what is left to show, of the machine alone: on every script of at most 260 ints the law runs to its end, answers 1, and makes no more than the claim has room for -/
def xRuns : Prop := ∀ G : XG, G.2 ≤ 260 → ∃ (f : Nat) (r : XR), xgo G f 600 0 0 (x_args [.retAddr 2] 20) [] xh0 = some r ∧ r.2.2.1 = [.int 1] ∧ r.2.2.2.2.1 ≤ 600086 ∧ r.2.2.2.2.2.1 ≤ 7301441
