/-! ===== the methods with handlers: their names, tables, call sites ===== -/
def iX10_succeeds : MI := (yX10_succeeds, cX10_succeeds, 4, some .boolean, 12, 12)
def hX10_succeeds : Hs := [(0, 15, 16, 169, NSE), (0, 15, 19, 105, IAE), (0, 15, 22, 325, ISE), (0, 15, 25, 369, UOE)]
theorem npX10_succeeds : npar iX10_succeeds 2 := (by decide +kernel : (parseMethodDescriptor yX10_succeeds.desc).map (fun d => d.parameters.length) = some 2)
theorem hkX10_succeeds : HOK yX10_succeeds.cls hX10_succeeds := by
  intro q h
  simp only [hX10_succeeds, List.mem_cons, List.not_mem_nil, or_false] at h
  rcases h with rfl | rfl | rfl | rfl
  · exact ⟨by decide, by decide, TBg_at 911 (by decide +kernel)⟩
  · exact ⟨by decide, by decide, TBg_at 811 (by decide +kernel)⟩
  · exact ⟨by decide, by decide, TBg_at 1466 (by decide +kernel)⟩
  · exact ⟨by decide, by decide, TBg_at 1535 (by decide +kernel)⟩
def iL_pledge : MI := (yL_pledge, cL_pledge, 6, some .int, 1, 12)
def hL_pledge : Hs := [(0, 12, 15, 13, IAE), (0, 12, 19, 15, ISE), (0, 12, 23, 17, UOE)]
theorem npL_pledge : npar iL_pledge 5 := (by decide +kernel : (parseMethodDescriptor yL_pledge.desc).map (fun d => d.parameters.length) = some 5)
theorem hkL_pledge : HOK yL_pledge.cls hL_pledge := by
  intro q h
  simp only [hL_pledge, List.mem_cons, List.not_mem_nil, or_false] at h
  rcases h with rfl | rfl | rfl
  · exact ⟨by decide, by decide, TBg_at 571 (by decide +kernel)⟩
  · exact ⟨by decide, by decide, TBg_at 572 (by decide +kernel)⟩
  · exact ⟨by decide, by decide, TBg_at 573 (by decide +kernel)⟩
def iL_redeem : MI := (yL_redeem, cL_redeem, 4, some .int, 1, 12)
def hL_redeem : Hs := [(0, 9, 12, 23, NSE)]
theorem npL_redeem : npar iL_redeem 3 := (by decide +kernel : (parseMethodDescriptor yL_redeem.desc).map (fun d => d.parameters.length) = some 3)
theorem hkL_redeem : HOK yL_redeem.cls hL_redeem := by
  intro q h
  simp only [hL_redeem, List.mem_cons, List.not_mem_nil, or_false] at h
  subst h
  · exact ⟨by decide, by decide, TBg_at 705 (by decide +kernel)⟩
def iL_extend : MI := (yL_extend, cL_extend, 5, some .int, 2, 12)
def hL_extend : Hs := [(0, 10, 13, 23, NSE), (0, 10, 17, 13, IAE)]
theorem npL_extend : npar iL_extend 4 := (by decide +kernel : (parseMethodDescriptor yL_extend.desc).map (fun d => d.parameters.length) = some 4)
theorem hkL_extend : HOK yL_extend.cls hL_extend := by
  intro q h
  simp only [hL_extend, List.mem_cons, List.not_mem_nil, or_false] at h
  rcases h with rfl | rfl
  · exact ⟨by decide, by decide, TBg_at 705 (by decide +kernel)⟩
  · exact ⟨by decide, by decide, TBg_at 571 (by decide +kernel)⟩
def iL_passDays : MI := (yL_passDays, cL_passDays, 4, some .int, 1, 12)
def hL_passDays : Hs := [(0, 9, 12, 13, IAE)]
theorem npL_passDays : npar iL_passDays 3 := (by decide +kernel : (parseMethodDescriptor yL_passDays.desc).map (fun d => d.parameters.length) = some 3)
theorem hkL_passDays : HOK yL_passDays.cls hL_passDays := by
  intro q h
  simp only [hL_passDays, List.mem_cons, List.not_mem_nil, or_false] at h
  subst h
  · exact ⟨by decide, by decide, TBg_at 571 (by decide +kernel)⟩
def iL_setPrice : MI := (yL_setPrice, cL_setPrice, 4, some .int, 1, 12)
def hL_setPrice : Hs := [(0, 9, 12, 13, IAE)]
theorem npL_setPrice : npar iL_setPrice 3 := (by decide +kernel : (parseMethodDescriptor yL_setPrice.desc).map (fun d => d.parameters.length) = some 3)
theorem hkL_setPrice : HOK yL_setPrice.cls hL_setPrice := by
  intro q h
  simp only [hL_setPrice, List.mem_cons, List.not_mem_nil, or_false] at h
  subst h
  · exact ⟨by decide, by decide, TBg_at 571 (by decide +kernel)⟩
def iL_setRate : MI := (yL_setRate, cL_setRate, 5, some .int, 1, 12)
def hL_setRate : Hs := [(0, 10, 13, 13, IAE)]
theorem npL_setRate : npar iL_setRate 4 := (by decide +kernel : (parseMethodDescriptor yL_setRate.desc).map (fun d => d.parameters.length) = some 4)
theorem hkL_setRate : HOK yL_setRate.cls hL_setRate := by
  intro q h
  simp only [hL_setRate, List.mem_cons, List.not_mem_nil, or_false] at h
  subst h
  · exact ⟨by decide, by decide, TBg_at 571 (by decide +kernel)⟩
def iL_rateOf : MI := (yL_rateOf, cL_rateOf, 4, some .int, 1, 9)
def hL_rateOf : Hs := [(0, 9, 12, 13, IAE)]
theorem npL_rateOf : npar iL_rateOf 3 := (by decide +kernel : (parseMethodDescriptor yL_rateOf.desc).map (fun d => d.parameters.length) = some 3)
theorem hkL_rateOf : HOK yL_rateOf.cls hL_rateOf := by
  intro q h
  simp only [hL_rateOf, List.mem_cons, List.not_mem_nil, or_false] at h
  subst h
  · exact ⟨by decide, by decide, TBg_at 571 (by decide +kernel)⟩
def iL_pledgeAt : MI := (yL_pledgeAt, cL_pledgeAt, 4, some .int, 1, 9)
def hL_pledgeAt : Hs := [(0, 9, 12, 44, IOE)]
theorem npL_pledgeAt : npar iL_pledgeAt 3 := (by decide +kernel : (parseMethodDescriptor yL_pledgeAt.desc).map (fun d => d.parameters.length) = some 3)
theorem hkL_pledgeAt : HOK yL_pledgeAt.cls hL_pledgeAt := by
  intro q h
  simp only [hL_pledgeAt, List.mem_cons, List.not_mem_nil, or_false] at h
  subst h
  · exact ⟨by decide, by decide, TBg_at 817 (by decide +kernel)⟩
def iL_customerOf : MI := (yL_customerOf, cL_customerOf, 4, some .int, 1, 10)
def hL_customerOf : Hs := [(0, 9, 12, 23, NSE)]
theorem npL_customerOf : npar iL_customerOf 3 := (by decide +kernel : (parseMethodDescriptor yL_customerOf.desc).map (fun d => d.parameters.length) = some 3)
theorem hkL_customerOf : HOK yL_customerOf.cls hL_customerOf := by
  intro q h
  simp only [hL_customerOf, List.mem_cons, List.not_mem_nil, or_false] at h
  subst h
  · exact ⟨by decide, by decide, TBg_at 705 (by decide +kernel)⟩
def iL_minutesOf : MI := (yL_minutesOf, cL_minutesOf, 4, some .int, 1, 10)
def hL_minutesOf : Hs := [(0, 9, 12, 23, NSE)]
theorem npL_minutesOf : npar iL_minutesOf 3 := (by decide +kernel : (parseMethodDescriptor yL_minutesOf.desc).map (fun d => d.parameters.length) = some 3)
theorem hkL_minutesOf : HOK yL_minutesOf.cls hL_minutesOf := by
  intro q h
  simp only [hL_minutesOf, List.mem_cons, List.not_mem_nil, or_false] at h
  subst h
  · exact ⟨by decide, by decide, TBg_at 705 (by decide +kernel)⟩
def iL_loanOf : MI := (yL_loanOf, cL_loanOf, 4, some .int, 1, 10)
def hL_loanOf : Hs := [(0, 9, 12, 23, NSE)]
theorem npL_loanOf : npar iL_loanOf 3 := (by decide +kernel : (parseMethodDescriptor yL_loanOf.desc).map (fun d => d.parameters.length) = some 3)
theorem hkL_loanOf : HOK yL_loanOf.cls hL_loanOf := by
  intro q h
  simp only [hL_loanOf, List.mem_cons, List.not_mem_nil, or_false] at h
  subst h
  · exact ⟨by decide, by decide, TBg_at 705 (by decide +kernel)⟩
def iL_dueDayOf : MI := (yL_dueDayOf, cL_dueDayOf, 4, some .int, 1, 10)
def hL_dueDayOf : Hs := [(0, 9, 12, 23, NSE)]
theorem npL_dueDayOf : npar iL_dueDayOf 3 := (by decide +kernel : (parseMethodDescriptor yL_dueDayOf.desc).map (fun d => d.parameters.length) = some 3)
theorem hkL_dueDayOf : HOK yL_dueDayOf.cls hL_dueDayOf := by
  intro q h
  simp only [hL_dueDayOf, List.mem_cons, List.not_mem_nil, or_false] at h
  subst h
  · exact ⟨by decide, by decide, TBg_at 705 (by decide +kernel)⟩
def iL_pledgeByDueDay : MI := (yL_pledgeByDueDay, cL_pledgeByDueDay, 4, some .int, 1, 9)
def hL_pledgeByDueDay : Hs := [(0, 9, 12, 23, NSE)]
theorem npL_pledgeByDueDay : npar iL_pledgeByDueDay 3 := (by decide +kernel : (parseMethodDescriptor yL_pledgeByDueDay.desc).map (fun d => d.parameters.length) = some 3)
theorem hkL_pledgeByDueDay : HOK yL_pledgeByDueDay.cls hL_pledgeByDueDay := by
  intro q h
  simp only [hL_pledgeByDueDay, List.mem_cons, List.not_mem_nil, or_false] at h
  subst h
  · exact ⟨by decide, by decide, TBg_at 705 (by decide +kernel)⟩
def iL_interestOf : MI := (yL_interestOf, cL_interestOf, 4, some .int, 1, 11)
def hL_interestOf : Hs := [(0, 9, 12, 23, NSE)]
theorem npL_interestOf : npar iL_interestOf 3 := (by decide +kernel : (parseMethodDescriptor yL_interestOf.desc).map (fun d => d.parameters.length) = some 3)
theorem hkL_interestOf : HOK yL_interestOf.cls hL_interestOf := by
  intro q h
  simp only [hL_interestOf, List.mem_cons, List.not_mem_nil, or_false] at h
  subst h
  · exact ⟨by decide, by decide, TBg_at 705 (by decide +kernel)⟩
def iL_interestByWeeks : MI := (yL_interestByWeeks, cL_interestByWeeks, 4, some .int, 1, 11)
def hL_interestByWeeks : Hs := [(0, 9, 12, 23, NSE)]
theorem npL_interestByWeeks : npar iL_interestByWeeks 3 := (by decide +kernel : (parseMethodDescriptor yL_interestByWeeks.desc).map (fun d => d.parameters.length) = some 3)
theorem hkL_interestByWeeks : HOK yL_interestByWeeks.cls hL_interestByWeeks := by
  intro q h
  simp only [hL_interestByWeeks, List.mem_cons, List.not_mem_nil, or_false] at h
  subst h
  · exact ⟨by decide, by decide, TBg_at 705 (by decide +kernel)⟩
def iL_debtAfter : MI := (yL_debtAfter, cL_debtAfter, 5, some .int, 2, 11)
def hL_debtAfter : Hs := [(0, 10, 13, 23, NSE), (0, 10, 17, 13, IAE)]
theorem npL_debtAfter : npar iL_debtAfter 4 := (by decide +kernel : (parseMethodDescriptor yL_debtAfter.desc).map (fun d => d.parameters.length) = some 4)
theorem hkL_debtAfter : HOK yL_debtAfter.cls hL_debtAfter := by
  intro q h
  simp only [hL_debtAfter, List.mem_cons, List.not_mem_nil, or_false] at h
  rcases h with rfl | rfl
  · exact ⟨by decide, by decide, TBg_at 705 (by decide +kernel)⟩
  · exact ⟨by decide, by decide, TBg_at 571 (by decide +kernel)⟩
def iL_mostMinutes : MI := (yL_mostMinutes, cL_mostMinutes, 5, some .int, 1, 12)
def hL_mostMinutes : Hs := [(0, 10, 13, 13, IAE)]
theorem npL_mostMinutes : npar iL_mostMinutes 4 := (by decide +kernel : (parseMethodDescriptor yL_mostMinutes.desc).map (fun d => d.parameters.length) = some 4)
theorem hkL_mostMinutes : HOK yL_mostMinutes.cls hL_mostMinutes := by
  intro q h
  simp only [hL_mostMinutes, List.mem_cons, List.not_mem_nil, or_false] at h
  subst h
  · exact ⟨by decide, by decide, TBg_at 571 (by decide +kernel)⟩
def iL_mostMinutesByTable : MI := (yL_mostMinutesByTable, cL_mostMinutesByTable, 5, some .int, 1, 12)
def hL_mostMinutesByTable : Hs := [(0, 10, 13, 13, IAE)]
theorem npL_mostMinutesByTable : npar iL_mostMinutesByTable 4 := (by decide +kernel : (parseMethodDescriptor yL_mostMinutesByTable.desc).map (fun d => d.parameters.length) = some 4)
theorem hkL_mostMinutesByTable : HOK yL_mostMinutesByTable.cls hL_mostMinutesByTable := by
  intro q h
  simp only [hL_mostMinutesByTable, List.mem_cons, List.not_mem_nil, or_false] at h
  subst h
  · exact ⟨by decide, by decide, TBg_at 571 (by decide +kernel)⟩
def iL_debtOf : MI := (yL_debtOf, cL_debtOf, 4, some .int, 1, 12)
def hL_debtOf : Hs := [(0, 9, 12, 13, IAE)]
theorem npL_debtOf : npar iL_debtOf 3 := (by decide +kernel : (parseMethodDescriptor yL_debtOf.desc).map (fun d => d.parameters.length) = some 3)
theorem hkL_debtOf : HOK yL_debtOf.cls hL_debtOf := by
  intro q h
  simp only [hL_debtOf, List.mem_cons, List.not_mem_nil, or_false] at h
  subst h
  · exact ⟨by decide, by decide, TBg_at 571 (by decide +kernel)⟩
def iL_daysToForfeit : MI := (yL_daysToForfeit, cL_daysToForfeit, 3, some .int, 1, 9)
def hL_daysToForfeit : Hs := [(0, 8, 11, 23, NSE)]
theorem npL_daysToForfeit : npar iL_daysToForfeit 2 := (by decide +kernel : (parseMethodDescriptor yL_daysToForfeit.desc).map (fun d => d.parameters.length) = some 2)
theorem hkL_daysToForfeit : HOK yL_daysToForfeit.cls hL_daysToForfeit := by
  intro q h
  simp only [hL_daysToForfeit, List.mem_cons, List.not_mem_nil, or_false] at h
  subst h
  · exact ⟨by decide, by decide, TBg_at 705 (by decide +kernel)⟩
def iL_bid : MI := (yL_bid, cL_bid, 6, some .int, 2, 12)
def hL_bid : Hs := [(0, 12, 15, 23, NSE), (0, 12, 19, 13, IAE)]
theorem npL_bid : npar iL_bid 5 := (by decide +kernel : (parseMethodDescriptor yL_bid.desc).map (fun d => d.parameters.length) = some 5)
theorem hkL_bid : HOK yL_bid.cls hL_bid := by
  intro q h
  simp only [hL_bid, List.mem_cons, List.not_mem_nil, or_false] at h
  rcases h with rfl | rfl
  · exact ⟨by decide, by decide, TBg_at 705 (by decide +kernel)⟩
  · exact ⟨by decide, by decide, TBg_at 571 (by decide +kernel)⟩
def iL_sell : MI := (yL_sell, cL_sell, 4, some .int, 2, 12)
def hL_sell : Hs := [(0, 9, 12, 23, NSE), (0, 9, 15, 15, ISE)]
theorem npL_sell : npar iL_sell 3 := (by decide +kernel : (parseMethodDescriptor yL_sell.desc).map (fun d => d.parameters.length) = some 3)
theorem hkL_sell : HOK yL_sell.cls hL_sell := by
  intro q h
  simp only [hL_sell, List.mem_cons, List.not_mem_nil, or_false] at h
  rcases h with rfl | rfl
  · exact ⟨by decide, by decide, TBg_at 705 (by decide +kernel)⟩
  · exact ⟨by decide, by decide, TBg_at 572 (by decide +kernel)⟩
def iL_sellEvening : MI := (yL_sellEvening, cL_sellEvening, 3, some .int, 1, 12)
def hL_sellEvening : Hs := [(0, 8, 11, 15, ISE)]
theorem npL_sellEvening : npar iL_sellEvening 2 := (by decide +kernel : (parseMethodDescriptor yL_sellEvening.desc).map (fun d => d.parameters.length) = some 2)
theorem hkL_sellEvening : HOK yL_sellEvening.cls hL_sellEvening := by
  intro q h
  simp only [hL_sellEvening, List.mem_cons, List.not_mem_nil, or_false] at h
  subst h
  · exact ⟨by decide, by decide, TBg_at 572 (by decide +kernel)⟩
def iL_lotAt : MI := (yL_lotAt, cL_lotAt, 4, some .int, 1, 9)
def hL_lotAt : Hs := [(0, 9, 12, 44, IOE)]
theorem npL_lotAt : npar iL_lotAt 3 := (by decide +kernel : (parseMethodDescriptor yL_lotAt.desc).map (fun d => d.parameters.length) = some 3)
theorem hkL_lotAt : HOK yL_lotAt.cls hL_lotAt := by
  intro q h
  simp only [hL_lotAt, List.mem_cons, List.not_mem_nil, or_false] at h
  subst h
  · exact ⟨by decide, by decide, TBg_at 817 (by decide +kernel)⟩
def iL_bidOf : MI := (yL_bidOf, cL_bidOf, 5, some .int, 2, 10)
def hL_bidOf : Hs := [(0, 10, 13, 23, NSE), (0, 10, 17, 13, IAE)]
theorem npL_bidOf : npar iL_bidOf 4 := (by decide +kernel : (parseMethodDescriptor yL_bidOf.desc).map (fun d => d.parameters.length) = some 4)
theorem hkL_bidOf : HOK yL_bidOf.cls hL_bidOf := by
  intro q h
  simp only [hL_bidOf, List.mem_cons, List.not_mem_nil, or_false] at h
  rcases h with rfl | rfl
  · exact ⟨by decide, by decide, TBg_at 705 (by decide +kernel)⟩
  · exact ⟨by decide, by decide, TBg_at 571 (by decide +kernel)⟩
def iL_buyerOf : MI := (yL_buyerOf, cL_buyerOf, 4, some .int, 2, 10)
def hL_buyerOf : Hs := [(0, 9, 12, 23, NSE)]
theorem npL_buyerOf : npar iL_buyerOf 3 := (by decide +kernel : (parseMethodDescriptor yL_buyerOf.desc).map (fun d => d.parameters.length) = some 3)
theorem hkL_buyerOf : HOK yL_buyerOf.cls hL_buyerOf := by
  intro q h
  simp only [hL_buyerOf, List.mem_cons, List.not_mem_nil, or_false] at h
  subst h
  · exact ⟨by decide, by decide, TBg_at 705 (by decide +kernel)⟩
def iL_priceOf : MI := (yL_priceOf, cL_priceOf, 4, some .int, 2, 10)
def hL_priceOf : Hs := [(0, 9, 12, 23, NSE)]
theorem npL_priceOf : npar iL_priceOf 3 := (by decide +kernel : (parseMethodDescriptor yL_priceOf.desc).map (fun d => d.parameters.length) = some 3)
theorem hkL_priceOf : HOK yL_priceOf.cls hL_priceOf := by
  intro q h
  simp only [hL_priceOf, List.mem_cons, List.not_mem_nil, or_false] at h
  subst h
  · exact ⟨by decide, by decide, TBg_at 705 (by decide +kernel)⟩
def iL_eveningBuyerOf : MI := (yL_eveningBuyerOf, cL_eveningBuyerOf, 4, some .int, 2, 11)
def hL_eveningBuyerOf : Hs := [(0, 9, 12, 23, NSE)]
theorem npL_eveningBuyerOf : npar iL_eveningBuyerOf 3 := (by decide +kernel : (parseMethodDescriptor yL_eveningBuyerOf.desc).map (fun d => d.parameters.length) = some 3)
theorem hkL_eveningBuyerOf : HOK yL_eveningBuyerOf.cls hL_eveningBuyerOf := by
  intro q h
  simp only [hL_eveningBuyerOf, List.mem_cons, List.not_mem_nil, or_false] at h
  subst h
  · exact ⟨by decide, by decide, TBg_at 705 (by decide +kernel)⟩
def iL_meanLoan : MI := (yL_meanLoan, cL_meanLoan, 3, some .int, 1, 9)
def hL_meanLoan : Hs := [(0, 7, 10, 111, ARE)]
theorem npL_meanLoan : npar iL_meanLoan 2 := (by decide +kernel : (parseMethodDescriptor yL_meanLoan.desc).map (fun d => d.parameters.length) = some 2)
theorem hkL_meanLoan : HOK yL_meanLoan.cls hL_meanLoan := by
  intro q h
  simp only [hL_meanLoan, List.mem_cons, List.not_mem_nil, or_false] at h
  subst h
  · exact ⟨by decide, by decide, TBg_at 1337 (by decide +kernel)⟩
def iL_writeSlip : MI := (yL_writeSlip, cL_writeSlip, 4, some .int, 700, 10)
def hL_writeSlip : Hs := [(0, 9, 12, 23, NSE)]
theorem npL_writeSlip : npar iL_writeSlip 3 := (by decide +kernel : (parseMethodDescriptor yL_writeSlip.desc).map (fun d => d.parameters.length) = some 3)
theorem hkL_writeSlip : HOK yL_writeSlip.cls hL_writeSlip := by
  intro q h
  simp only [hL_writeSlip, List.mem_cons, List.not_mem_nil, or_false] at h
  subst h
  · exact ⟨by decide, by decide, TBg_at 705 (by decide +kernel)⟩
def iL_slipAt : MI := (yL_slipAt, cL_slipAt, 4, some .int, 1, 9)
def hL_slipAt : Hs := [(0, 9, 12, 44, IOE)]
theorem npL_slipAt : npar iL_slipAt 3 := (by decide +kernel : (parseMethodDescriptor yL_slipAt.desc).map (fun d => d.parameters.length) = some 3)
theorem hkL_slipAt : HOK yL_slipAt.cls hL_slipAt := by
  intro q h
  simp only [hL_slipAt, List.mem_cons, List.not_mem_nil, or_false] at h
  subst h
  · exact ⟨by decide, by decide, TBg_at 817 (by decide +kernel)⟩
def iL_type : MI := (yL_type, cL_type, 4, some .int, 1, 9)
def hL_type : Hs := [(0, 9, 12, 13, IAE), (0, 9, 15, 15, ISE)]
theorem npL_type : npar iL_type 3 := (by decide +kernel : (parseMethodDescriptor yL_type.desc).map (fun d => d.parameters.length) = some 3)
theorem hkL_type : HOK yL_type.cls hL_type := by
  intro q h
  simp only [hL_type, List.mem_cons, List.not_mem_nil, or_false] at h
  rcases h with rfl | rfl
  · exact ⟨by decide, by decide, TBg_at 571 (by decide +kernel)⟩
  · exact ⟨by decide, by decide, TBg_at 572 (by decide +kernel)⟩
def iL_execute : MI := (yL_execute, cL_execute, 3, some .int, 300, 14)
def hL_execute : Hs := [(0, 8, 11, 13, IAE), (0, 8, 14, 15, ISE)]
theorem npL_execute : npar iL_execute 2 := (by decide +kernel : (parseMethodDescriptor yL_execute.desc).map (fun d => d.parameters.length) = some 2)
theorem hkL_execute : HOK yL_execute.cls hL_execute := by
  intro q h
  simp only [hL_execute, List.mem_cons, List.not_mem_nil, or_false] at h
  rcases h with rfl | rfl
  · exact ⟨by decide, by decide, TBg_at 571 (by decide +kernel)⟩
  · exact ⟨by decide, by decide, TBg_at 572 (by decide +kernel)⟩
def iL_errorPosition : MI := (yL_errorPosition, cL_errorPosition, 3, some .int, 1, 9)
def hL_errorPosition : Hs := [(0, 8, 11, 23, NSE)]
theorem npL_errorPosition : npar iL_errorPosition 2 := (by decide +kernel : (parseMethodDescriptor yL_errorPosition.desc).map (fun d => d.parameters.length) = some 2)
theorem hkL_errorPosition : HOK yL_errorPosition.cls hL_errorPosition := by
  intro q h
  simp only [hL_errorPosition, List.mem_cons, List.not_mem_nil, or_false] at h
  subst h
  · exact ⟨by decide, by decide, TBg_at 705 (by decide +kernel)⟩
def iL_failedCommand : MI := (yL_failedCommand, cL_failedCommand, 3, some .int, 1, 9)
def hL_failedCommand : Hs := [(0, 8, 11, 23, NSE)]
theorem npL_failedCommand : npar iL_failedCommand 2 := (by decide +kernel : (parseMethodDescriptor yL_failedCommand.desc).map (fun d => d.parameters.length) = some 2)
theorem hkL_failedCommand : HOK yL_failedCommand.cls hL_failedCommand := by
  intro q h
  simp only [hL_failedCommand, List.mem_cons, List.not_mem_nil, or_false] at h
  subst h
  · exact ⟨by decide, by decide, TBg_at 705 (by decide +kernel)⟩
def iL_undo : MI := (yL_undo, cL_undo, 3, some .int, 1, 12)
def hL_undo : Hs := [(0, 8, 11, 15, ISE)]
theorem npL_undo : npar iL_undo 2 := (by decide +kernel : (parseMethodDescriptor yL_undo.desc).map (fun d => d.parameters.length) = some 2)
theorem hkL_undo : HOK yL_undo.cls hL_undo := by
  intro q h
  simp only [hL_undo, List.mem_cons, List.not_mem_nil, or_false] at h
  subst h
  · exact ⟨by decide, by decide, TBg_at 572 (by decide +kernel)⟩
def iL_restore : MI := (yL_restore, cL_restore, 3, some .int, 1, 11)
def hL_restore : Hs := [(0, 8, 11, 15, ISE)]
theorem npL_restore : npar iL_restore 2 := (by decide +kernel : (parseMethodDescriptor yL_restore.desc).map (fun d => d.parameters.length) = some 2)
theorem hkL_restore : HOK yL_restore.cls hL_restore := by
  intro q h
  simp only [hL_restore, List.mem_cons, List.not_mem_nil, or_false] at h
  subst h
  · exact ⟨by decide, by decide, TBg_at 572 (by decide +kernel)⟩
theorem cvxX10_356 : CVX RX10 356 iX10_succeeds hX10_succeeds 1 := ⟨TX10, 10, rfl, rfl, TBg_at 1531 (by decide +kernel), TBg_at 1533 (by decide +kernel), TBg_at 19 (by decide +kernel), TBg_at 62 (by decide +kernel), TBg_at 1534 (by decide +kernel), by decide +kernel, by decide +kernel⟩
theorem csxL_143 : CSX RL 143 iL_pledge hL_pledge := ⟨TBg_at 568 (by decide +kernel), TBg_at 569 (by decide +kernel), TBg_at 61 (by decide +kernel), TBg_at 570 (by decide +kernel), by decide +kernel, by decide +kernel⟩
theorem csxL_152 : CSX RL 152 iL_redeem hL_redeem := ⟨TBg_at 702 (by decide +kernel), TBg_at 703 (by decide +kernel), TBg_at 61 (by decide +kernel), TBg_at 704 (by decide +kernel), by decide +kernel, by decide +kernel⟩
theorem csxL_156 : CSX RL 156 iL_extend hL_extend := ⟨TBg_at 746 (by decide +kernel), TBg_at 747 (by decide +kernel), TBg_at 61 (by decide +kernel), TBg_at 748 (by decide +kernel), by decide +kernel, by decide +kernel⟩
theorem csxL_160 : CSX RL 160 iL_passDays hL_passDays := ⟨TBg_at 762 (by decide +kernel), TBg_at 763 (by decide +kernel), TBg_at 61 (by decide +kernel), TBg_at 764 (by decide +kernel), by decide +kernel, by decide +kernel⟩
theorem csxL_163 : CSX RL 163 iL_setPrice hL_setPrice := ⟨TBg_at 778 (by decide +kernel), TBg_at 779 (by decide +kernel), TBg_at 61 (by decide +kernel), TBg_at 780 (by decide +kernel), by decide +kernel, by decide +kernel⟩
theorem csxL_166 : CSX RL 166 iL_setRate hL_setRate := ⟨TBg_at 790 (by decide +kernel), TBg_at 791 (by decide +kernel), TBg_at 61 (by decide +kernel), TBg_at 792 (by decide +kernel), by decide +kernel, by decide +kernel⟩
theorem csxL_177 : CSX RL 177 iL_rateOf hL_rateOf := ⟨TBg_at 804 (by decide +kernel), TBg_at 805 (by decide +kernel), TBg_at 61 (by decide +kernel), TBg_at 806 (by decide +kernel), by decide +kernel, by decide +kernel⟩
theorem csxL_192 : CSX RL 192 iL_pledgeAt hL_pledgeAt := ⟨TBg_at 814 (by decide +kernel), TBg_at 815 (by decide +kernel), TBg_at 61 (by decide +kernel), TBg_at 816 (by decide +kernel), by decide +kernel, by decide +kernel⟩
theorem csxL_195 : CSX RL 195 iL_customerOf hL_customerOf := ⟨TBg_at 862 (by decide +kernel), TBg_at 863 (by decide +kernel), TBg_at 61 (by decide +kernel), TBg_at 864 (by decide +kernel), by decide +kernel, by decide +kernel⟩
theorem csxL_198 : CSX RL 198 iL_minutesOf hL_minutesOf := ⟨TBg_at 870 (by decide +kernel), TBg_at 871 (by decide +kernel), TBg_at 61 (by decide +kernel), TBg_at 872 (by decide +kernel), by decide +kernel, by decide +kernel⟩
theorem csxL_201 : CSX RL 201 iL_loanOf hL_loanOf := ⟨TBg_at 882 (by decide +kernel), TBg_at 883 (by decide +kernel), TBg_at 61 (by decide +kernel), TBg_at 884 (by decide +kernel), by decide +kernel, by decide +kernel⟩
theorem csxL_204 : CSX RL 204 iL_dueDayOf hL_dueDayOf := ⟨TBg_at 889 (by decide +kernel), TBg_at 890 (by decide +kernel), TBg_at 61 (by decide +kernel), TBg_at 891 (by decide +kernel), by decide +kernel, by decide +kernel⟩
theorem csxL_207 : CSX RL 207 iL_pledgeByDueDay hL_pledgeByDueDay := ⟨TBg_at 896 (by decide +kernel), TBg_at 897 (by decide +kernel), TBg_at 61 (by decide +kernel), TBg_at 898 (by decide +kernel), by decide +kernel, by decide +kernel⟩
theorem csxL_210 : CSX RL 210 iL_interestOf hL_interestOf := ⟨TBg_at 914 (by decide +kernel), TBg_at 915 (by decide +kernel), TBg_at 61 (by decide +kernel), TBg_at 916 (by decide +kernel), by decide +kernel, by decide +kernel⟩
theorem csxL_213 : CSX RL 213 iL_interestByWeeks hL_interestByWeeks := ⟨TBg_at 922 (by decide +kernel), TBg_at 923 (by decide +kernel), TBg_at 61 (by decide +kernel), TBg_at 924 (by decide +kernel), by decide +kernel, by decide +kernel⟩
theorem csxL_216 : CSX RL 216 iL_debtAfter hL_debtAfter := ⟨TBg_at 930 (by decide +kernel), TBg_at 931 (by decide +kernel), TBg_at 61 (by decide +kernel), TBg_at 932 (by decide +kernel), by decide +kernel, by decide +kernel⟩
theorem csxL_223 : CSX RL 223 iL_mostMinutes hL_mostMinutes := ⟨TBg_at 938 (by decide +kernel), TBg_at 939 (by decide +kernel), TBg_at 61 (by decide +kernel), TBg_at 940 (by decide +kernel), by decide +kernel, by decide +kernel⟩
theorem csxL_226 : CSX RL 226 iL_mostMinutesByTable hL_mostMinutesByTable := ⟨TBg_at 963 (by decide +kernel), TBg_at 964 (by decide +kernel), TBg_at 61 (by decide +kernel), TBg_at 965 (by decide +kernel), by decide +kernel, by decide +kernel⟩
theorem csxL_229 : CSX RL 229 iL_debtOf hL_debtOf := ⟨TBg_at 1202 (by decide +kernel), TBg_at 1203 (by decide +kernel), TBg_at 61 (by decide +kernel), TBg_at 1204 (by decide +kernel), by decide +kernel, by decide +kernel⟩
theorem csxL_232 : CSX RL 232 iL_daysToForfeit hL_daysToForfeit := ⟨TBg_at 1214 (by decide +kernel), TBg_at 1215 (by decide +kernel), TBg_at 61 (by decide +kernel), TBg_at 1216 (by decide +kernel), by decide +kernel, by decide +kernel⟩
theorem csxL_236 : CSX RL 236 iL_bid hL_bid := ⟨TBg_at 1222 (by decide +kernel), TBg_at 1223 (by decide +kernel), TBg_at 61 (by decide +kernel), TBg_at 1224 (by decide +kernel), by decide +kernel, by decide +kernel⟩
theorem csxL_239 : CSX RL 239 iL_sell hL_sell := ⟨TBg_at 1239 (by decide +kernel), TBg_at 1240 (by decide +kernel), TBg_at 61 (by decide +kernel), TBg_at 1241 (by decide +kernel), by decide +kernel, by decide +kernel⟩
theorem csxL_242 : CSX RL 242 iL_sellEvening hL_sellEvening := ⟨TBg_at 1264 (by decide +kernel), TBg_at 1265 (by decide +kernel), TBg_at 61 (by decide +kernel), TBg_at 1266 (by decide +kernel), by decide +kernel, by decide +kernel⟩
theorem csxL_249 : CSX RL 249 iL_lotAt hL_lotAt := ⟨TBg_at 1289 (by decide +kernel), TBg_at 1290 (by decide +kernel), TBg_at 61 (by decide +kernel), TBg_at 1291 (by decide +kernel), by decide +kernel, by decide +kernel⟩
theorem csxL_252 : CSX RL 252 iL_bidOf hL_bidOf := ⟨TBg_at 1297 (by decide +kernel), TBg_at 1298 (by decide +kernel), TBg_at 61 (by decide +kernel), TBg_at 1299 (by decide +kernel), by decide +kernel, by decide +kernel⟩
theorem csxL_255 : CSX RL 255 iL_buyerOf hL_buyerOf := ⟨TBg_at 1306 (by decide +kernel), TBg_at 1307 (by decide +kernel), TBg_at 61 (by decide +kernel), TBg_at 1308 (by decide +kernel), by decide +kernel, by decide +kernel⟩
theorem csxL_258 : CSX RL 258 iL_priceOf hL_priceOf := ⟨TBg_at 1315 (by decide +kernel), TBg_at 1316 (by decide +kernel), TBg_at 61 (by decide +kernel), TBg_at 1317 (by decide +kernel), by decide +kernel, by decide +kernel⟩
theorem csxL_269 : CSX RL 269 iL_eveningBuyerOf hL_eveningBuyerOf := ⟨TBg_at 1323 (by decide +kernel), TBg_at 1324 (by decide +kernel), TBg_at 61 (by decide +kernel), TBg_at 1325 (by decide +kernel), by decide +kernel, by decide +kernel⟩
theorem csxL_289 : CSX RL 289 iL_meanLoan hL_meanLoan := ⟨TBg_at 1334 (by decide +kernel), TBg_at 1335 (by decide +kernel), TBg_at 61 (by decide +kernel), TBg_at 1336 (by decide +kernel), by decide +kernel, by decide +kernel⟩
theorem csxL_298 : CSX RL 298 iL_writeSlip hL_writeSlip := ⟨TBg_at 1361 (by decide +kernel), TBg_at 1362 (by decide +kernel), TBg_at 61 (by decide +kernel), TBg_at 1363 (by decide +kernel), by decide +kernel, by decide +kernel⟩
theorem csxL_301 : CSX RL 301 iL_slipAt hL_slipAt := ⟨TBg_at 1440 (by decide +kernel), TBg_at 1441 (by decide +kernel), TBg_at 61 (by decide +kernel), TBg_at 1442 (by decide +kernel), by decide +kernel, by decide +kernel⟩
theorem csxL_304 : CSX RL 304 iL_type hL_type := ⟨TBg_at 1458 (by decide +kernel), TBg_at 1459 (by decide +kernel), TBg_at 61 (by decide +kernel), TBg_at 1460 (by decide +kernel), by decide +kernel, by decide +kernel⟩
theorem csxL_308 : CSX RL 308 iL_execute hL_execute := ⟨TBg_at 1473 (by decide +kernel), TBg_at 1474 (by decide +kernel), TBg_at 61 (by decide +kernel), TBg_at 1475 (by decide +kernel), by decide +kernel, by decide +kernel⟩
theorem csxL_311 : CSX RL 311 iL_errorPosition hL_errorPosition := ⟨TBg_at 1553 (by decide +kernel), TBg_at 1554 (by decide +kernel), TBg_at 61 (by decide +kernel), TBg_at 1555 (by decide +kernel), by decide +kernel, by decide +kernel⟩
theorem csxL_314 : CSX RL 314 iL_failedCommand hL_failedCommand := ⟨TBg_at 1561 (by decide +kernel), TBg_at 1562 (by decide +kernel), TBg_at 61 (by decide +kernel), TBg_at 1563 (by decide +kernel), by decide +kernel, by decide +kernel⟩
theorem csxL_317 : CSX RL 317 iL_undo hL_undo := ⟨TBg_at 1569 (by decide +kernel), TBg_at 1570 (by decide +kernel), TBg_at 61 (by decide +kernel), TBg_at 1571 (by decide +kernel), by decide +kernel, by decide +kernel⟩
theorem csxL_324 : CSX RL 324 iL_restore hL_restore := ⟨TBg_at 1581 (by decide +kernel), TBg_at 1582 (by decide +kernel), TBg_at 61 (by decide +kernel), TBg_at 1583 (by decide +kernel), by decide +kernel, by decide +kernel⟩
