/-! ===== stand-in ===== -/
theorem slipH {l : Launch} {G : GG} (hc : CtxE l G) (hS : SlF G) : SlH l G := by
  sorry
