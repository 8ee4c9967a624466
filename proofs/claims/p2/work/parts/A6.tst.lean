/-! to be filled -/
theorem TBall : TBok := sorry
