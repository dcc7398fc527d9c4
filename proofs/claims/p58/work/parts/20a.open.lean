/-! not yet -/
section XOPEN
variable {K : XW0} {G : XG}
theorem xg53_ok : xOk K G 53 x_g53 := by sorry
theorem xg58_ok : xOk K G 58 x_g58 := by sorry
end XOPEN
