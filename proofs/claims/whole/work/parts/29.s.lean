/-! ===== the slip, for the law ===== -/
theorem slipH {l : Launch} {G : GG} (hc : CtxE l G) (hS : SlF G) : SlH l G := ⟨fun τ σ n t h1 h2 h3 => x_writeSlip hc hS h1 h2 h3 t, fun τ σ p h1 h2 => x_slipAt hc h1 h2 p⟩
