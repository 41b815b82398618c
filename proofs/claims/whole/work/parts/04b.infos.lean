/-! ===== the methods: name, code, locals, answer, what they may make, how deep they call ===== -/
def iX1_copyFrom : MI := (yX1_copyFrom, cX1_copyFrom, 2, none, 0, 3)
theorem npX1_copyFrom : npar iX1_copyFrom 1 := (by decide +kernel : (parseMethodDescriptor yX1_copyFrom.desc).map (fun d => d.parameters.length) = some 1)
def iX1_coinsFromSums : MI := (yX1_coinsFromSums, cX1_coinsFromSums, 1, some .int, 0, 3)
theorem npX1_coinsFromSums : npar iX1_coinsFromSums 0 := (by decide +kernel : (parseMethodDescriptor yX1_coinsFromSums.desc).map (fun d => d.parameters.length) = some 0)
def iX1_enterPledge : MI := (yX1_enterPledge, cX1_enterPledge, 3, none, 0, 3)
theorem npX1_enterPledge : npar iX1_enterPledge 2 := (by decide +kernel : (parseMethodDescriptor yX1_enterPledge.desc).map (fun d => d.parameters.length) = some 2)
def iX1_enterRedemption : MI := (yX1_enterRedemption, cX1_enterRedemption, 3, none, 0, 3)
theorem npX1_enterRedemption : npar iX1_enterRedemption 2 := (by decide +kernel : (parseMethodDescriptor yX1_enterRedemption.desc).map (fun d => d.parameters.length) = some 2)
def iX1_enterExtension : MI := (yX1_enterExtension, cX1_enterExtension, 2, none, 0, 3)
theorem npX1_enterExtension : npar iX1_enterExtension 1 := (by decide +kernel : (parseMethodDescriptor yX1_enterExtension.desc).map (fun d => d.parameters.length) = some 1)
def iX1_enterSale : MI := (yX1_enterSale, cX1_enterSale, 3, none, 0, 3)
theorem npX1_enterSale : npar iX1_enterSale 2 := (by decide +kernel : (parseMethodDescriptor yX1_enterSale.desc).map (fun d => d.parameters.length) = some 2)
def iX2_copyFrom : MI := (yX2_copyFrom, cX2_copyFrom, 2, none, 0, 8)
theorem npX2_copyFrom : npar iX2_copyFrom 1 := (by decide +kernel : (parseMethodDescriptor yX2_copyFrom.desc).map (fun d => d.parameters.length) = some 1)
def iX2_changeRate : MI := (yX2_changeRate, cX2_changeRate, 4, some .int, 1, 8)
theorem npX2_changeRate : npar iX2_changeRate 2 := (by decide +kernel : (parseMethodDescriptor yX2_changeRate.desc).map (fun d => d.parameters.length) = some 2)
def iX2_sumByDays : MI := (yX2_sumByDays, cX2_sumByDays, 5, some .int, 0, 8)
theorem npX2_sumByDays : npar iX2_sumByDays 2 := (by decide +kernel : (parseMethodDescriptor yX2_sumByDays.desc).map (fun d => d.parameters.length) = some 2)
def iX2_sumByWeeks : MI := (yX2_sumByWeeks, cX2_sumByWeeks, 7, some .int, 0, 8)
theorem npX2_sumByWeeks : npar iX2_sumByWeeks 2 := (by decide +kernel : (parseMethodDescriptor yX2_sumByWeeks.desc).map (fun d => d.parameters.length) = some 2)
def iX2_weekdayOfLeastRate : MI := (yX2_weekdayOfLeastRate, cX2_weekdayOfLeastRate, 4, some .int, 0, 8)
theorem npX2_weekdayOfLeastRate : npar iX2_weekdayOfLeastRate 0 := (by decide +kernel : (parseMethodDescriptor yX2_weekdayOfLeastRate.desc).map (fun d => d.parameters.length) = some 0)
def iX4_collectOffers : MI := (yX4_collectOffers, cX4_collectOffers, 6, none, 0, 3)
theorem npX4_collectOffers : npar iX4_collectOffers 1 := (by decide +kernel : (parseMethodDescriptor yX4_collectOffers.desc).map (fun d => d.parameters.length) = some 1)
def iX4_bestSum : MI := (yX4_bestSum, cX4_bestSum, 4, some .int, 0, 8)
theorem npX4_bestSum : npar iX4_bestSum 1 := (by decide +kernel : (parseMethodDescriptor yX4_bestSum.desc).map (fun d => d.parameters.length) = some 1)
def iX4_bestSumFrom : MI := (yX4_bestSumFrom, cX4_bestSumFrom, 6, some .int, 0, 3)
theorem npX4_bestSumFrom : npar iX4_bestSumFrom 2 := (by decide +kernel : (parseMethodDescriptor yX4_bestSumFrom.desc).map (fun d => d.parameters.length) = some 2)
def iX4_plan : MI := (yX4_plan, cX4_plan, 5, some .int, 0, 9)
theorem npX4_plan : npar iX4_plan 1 := (by decide +kernel : (parseMethodDescriptor yX4_plan.desc).map (fun d => d.parameters.length) = some 1)
def iX4_firstBestBuyer : MI := (yX4_firstBestBuyer, cX4_firstBestBuyer, 5, some .int, 0, 3)
theorem npX4_firstBestBuyer : npar iX4_firstBestBuyer 2 := (by decide +kernel : (parseMethodDescriptor yX4_firstBestBuyer.desc).map (fun d => d.parameters.length) = some 2)
def iX4_buyerAt : MI := (yX4_buyerAt, cX4_buyerAt, 2, some .int, 0, 3)
theorem npX4_buyerAt : npar iX4_buyerAt 1 := (by decide +kernel : (parseMethodDescriptor yX4_buyerAt.desc).map (fun d => d.parameters.length) = some 1)
def iX4_bestSumByTrying : MI := (yX4_bestSumByTrying, cX4_bestSumByTrying, 2, some .int, 0, 17)
theorem npX4_bestSumByTrying : npar iX4_bestSumByTrying 1 := (by decide +kernel : (parseMethodDescriptor yX4_bestSumByTrying.desc).map (fun d => d.parameters.length) = some 1)
def iX4_fillTopOffers : MI := (yX4_fillTopOffers, cX4_fillTopOffers, 3, none, 0, 8)
theorem npX4_fillTopOffers : npar iX4_fillTopOffers 0 := (by decide +kernel : (parseMethodDescriptor yX4_fillTopOffers.desc).map (fun d => d.parameters.length) = some 0)
def iX4_hopeFrom : MI := (yX4_hopeFrom, cX4_hopeFrom, 5, some .int, 0, 3)
theorem npX4_hopeFrom : npar iX4_hopeFrom 2 := (by decide +kernel : (parseMethodDescriptor yX4_hopeFrom.desc).map (fun d => d.parameters.length) = some 2)
def iX4_tryFrom (d : Nat) : MI := (yX4_tryFrom, cX4_tryFrom, 8, some .int, 0, d)
theorem npX4_tryFrom (d : Nat) : npar (iX4_tryFrom d) 5 := (by decide +kernel : (parseMethodDescriptor yX4_tryFrom.desc).map (fun d => d.parameters.length) = some 5)
def iX5_prepare : MI := (yX5_prepare, cX5_prepare, 2, none, 0, 10)
theorem npX5_prepare : npar iX5_prepare 1 := (by decide +kernel : (parseMethodDescriptor yX5_prepare.desc).map (fun d => d.parameters.length) = some 1)
def iX5_keepPrepared : MI := (yX5_keepPrepared, cX5_keepPrepared, 1, none, 0, 8)
theorem npX5_keepPrepared : npar iX5_keepPrepared 0 := (by decide +kernel : (parseMethodDescriptor yX5_keepPrepared.desc).map (fun d => d.parameters.length) = some 0)
def iX5_bringPreparedTo : MI := (yX5_bringPreparedTo, cX5_bringPreparedTo, 2, none, 0, 10)
theorem npX5_bringPreparedTo : npar iX5_bringPreparedTo 1 := (by decide +kernel : (parseMethodDescriptor yX5_bringPreparedTo.desc).map (fun d => d.parameters.length) = some 1)
def iX5_stepBack : MI := (yX5_stepBack, cX5_stepBack, 2, none, 0, 10)
theorem npX5_stepBack : npar iX5_stepBack 1 := (by decide +kernel : (parseMethodDescriptor yX5_stepBack.desc).map (fun d => d.parameters.length) = some 1)
def iX5_forget : MI := (yX5_forget, cX5_forget, 1, none, 0, 3)
theorem npX5_forget : npar iX5_forget 0 := (by decide +kernel : (parseMethodDescriptor yX5_forget.desc).map (fun d => d.parameters.length) = some 0)
def iX6_copyFrom : MI := (yX6_copyFrom, cX6_copyFrom, 2, none, 0, 8)
theorem npX6_copyFrom : npar iX6_copyFrom 1 := (by decide +kernel : (parseMethodDescriptor yX6_copyFrom.desc).map (fun d => d.parameters.length) = some 1)
def iX6_buyerAlone : MI := (yX6_buyerAlone, cX6_buyerAlone, 3, some .int, 0, 3)
theorem npX6_buyerAlone : npar iX6_buyerAlone 0 := (by decide +kernel : (parseMethodDescriptor yX6_buyerAlone.desc).map (fun d => d.parameters.length) = some 0)
def iX6_priceAlone : MI := (yX6_priceAlone, cX6_priceAlone, 4, some .int, 0, 8)
theorem npX6_priceAlone : npar iX6_priceAlone 1 := (by decide +kernel : (parseMethodDescriptor yX6_priceAlone.desc).map (fun d => d.parameters.length) = some 1)
def iX7_add : MI := (yX7_add, cX7_add, 2, some .int, 0, 3)
theorem npX7_add : npar iX7_add 1 := (by decide +kernel : (parseMethodDescriptor yX7_add.desc).map (fun d => d.parameters.length) = some 1)
def iX7_empty : MI := (yX7_empty, cX7_empty, 1, none, 0, 3)
theorem npX7_empty : npar iX7_empty 0 := (by decide +kernel : (parseMethodDescriptor yX7_empty.desc).map (fun d => d.parameters.length) = some 0)
def iX7_parse : MI := (yX7_parse, cX7_parse, 4, some .boolean, 0, 10)
theorem npX7_parse : npar iX7_parse 0 := (by decide +kernel : (parseMethodDescriptor yX7_parse.desc).map (fun d => d.parameters.length) = some 0)
def iX7_readCommand : MI := (yX7_readCommand, cX7_readCommand, 4, some .int, 0, 9)
theorem npX7_readCommand : npar iX7_readCommand 1 := (by decide +kernel : (parseMethodDescriptor yX7_readCommand.desc).map (fun d => d.parameters.length) = some 1)
def iX7_match : MI := (yX7_match, cX7_match, 8, some .int, 0, 8)
theorem npX7_match : npar iX7_match 3 := (by decide +kernel : (parseMethodDescriptor yX7_match.desc).map (fun d => d.parameters.length) = some 3)
def iX7_isPlaceholder : MI := (yX7_isPlaceholder, cX7_isPlaceholder, 1, some .boolean, 0, 3)
theorem npX7_isPlaceholder : npar iX7_isPlaceholder 1 := (by decide +kernel : (parseMethodDescriptor yX7_isPlaceholder.desc).map (fun d => d.parameters.length) = some 1)
def iX7_matchSign : MI := (yX7_matchSign, cX7_matchSign, 3, some .int, 0, 4)
theorem npX7_matchSign : npar iX7_matchSign 2 := (by decide +kernel : (parseMethodDescriptor yX7_matchSign.desc).map (fun d => d.parameters.length) = some 2)
def iX7_skipDigits : MI := (yX7_skipDigits, cX7_skipDigits, 4, some .int, 0, 3)
theorem npX7_skipDigits : npar iX7_skipDigits 2 := (by decide +kernel : (parseMethodDescriptor yX7_skipDigits.desc).map (fun d => d.parameters.length) = some 2)
def iX7_numberBetween : MI := (yX7_numberBetween, cX7_numberBetween, 5, some .int, 0, 3)
theorem npX7_numberBetween : npar iX7_numberBetween 2 := (by decide +kernel : (parseMethodDescriptor yX7_numberBetween.desc).map (fun d => d.parameters.length) = some 2)
def iX8_collect : MI := (yX8_collect, cX8_collect, 5, none, 0, 10)
theorem npX8_collect : npar iX8_collect 2 := (by decide +kernel : (parseMethodDescriptor yX8_collect.desc).map (fun d => d.parameters.length) = some 2)
def iX8_wholeDebt : MI := (yX8_wholeDebt, cX8_wholeDebt, 3, some .int, 0, 3)
theorem npX8_wholeDebt : npar iX8_wholeDebt 0 := (by decide +kernel : (parseMethodDescriptor yX8_wholeDebt.desc).map (fun d => d.parameters.length) = some 0)
def iX8_mostBySets : MI := (yX8_mostBySets, cX8_mostBySets, 4, some .int, 0, 8)
theorem npX8_mostBySets : npar iX8_mostBySets 1 := (by decide +kernel : (parseMethodDescriptor yX8_mostBySets.desc).map (fun d => d.parameters.length) = some 1)
def iX8_fillSets : MI := (yX8_fillSets, cX8_fillSets, 4, none, 0, 3)
theorem npX8_fillSets : npar iX8_fillSets 0 := (by decide +kernel : (parseMethodDescriptor yX8_fillSets.desc).map (fun d => d.parameters.length) = some 0)
def iX8_mostByTable : MI := (yX8_mostByTable, cX8_mostByTable, 3, some .int, 0, 10)
theorem npX8_mostByTable : npar iX8_mostByTable 1 := (by decide +kernel : (parseMethodDescriptor yX8_mostByTable.desc).map (fun d => d.parameters.length) = some 1)
def iX8_fillTable : MI := (yX8_fillTable, cX8_fillTable, 4, some .int, 0, 9)
theorem npX8_fillTable : npar iX8_fillTable 0 := (by decide +kernel : (parseMethodDescriptor yX8_fillTable.desc).map (fun d => d.parameters.length) = some 0)
def iX8_addToTable : MI := (yX8_addToTable, cX8_addToTable, 6, none, 0, 8)
theorem npX8_addToTable : npar iX8_addToTable 3 := (by decide +kernel : (parseMethodDescriptor yX8_addToTable.desc).map (fun d => d.parameters.length) = some 3)
def iX9_copyFrom : MI := (yX9_copyFrom, cX9_copyFrom, 3, none, 0, 9)
theorem npX9_copyFrom : npar iX9_copyFrom 1 := (by decide +kernel : (parseMethodDescriptor yX9_copyFrom.desc).map (fun d => d.parameters.length) = some 1)
def iX9_indexOf : MI := (yX9_indexOf, cX9_indexOf, 3, some .int, 0, 3)
theorem npX9_indexOf : npar iX9_indexOf 1 := (by decide +kernel : (parseMethodDescriptor yX9_indexOf.desc).map (fun d => d.parameters.length) = some 1)
def iX9_requireItem : MI := (yX9_requireItem, cX9_requireItem, 3, some (.object "MinutePawnshop$Item"), 1, 8)
theorem npX9_requireItem : npar iX9_requireItem 1 := (by decide +kernel : (parseMethodDescriptor yX9_requireItem.desc).map (fun d => d.parameters.length) = some 1)
def iX9_requirePledge : MI := (yX9_requirePledge, cX9_requirePledge, 3, some (.object "MinutePawnshop$Item"), 1, 8)
theorem npX9_requirePledge : npar iX9_requirePledge 1 := (by decide +kernel : (parseMethodDescriptor yX9_requirePledge.desc).map (fun d => d.parameters.length) = some 1)
def iX9_requireLot : MI := (yX9_requireLot, cX9_requireLot, 3, some (.object "MinutePawnshop$Item"), 1, 8)
theorem npX9_requireLot : npar iX9_requireLot 1 := (by decide +kernel : (parseMethodDescriptor yX9_requireLot.desc).map (fun d => d.parameters.length) = some 1)
def iX9_countOf : MI := (yX9_countOf, cX9_countOf, 4, some .int, 0, 3)
theorem npX9_countOf : npar iX9_countOf 1 := (by decide +kernel : (parseMethodDescriptor yX9_countOf.desc).map (fun d => d.parameters.length) = some 1)
def iX9_nthOf : MI := (yX9_nthOf, cX9_nthOf, 5, some (.object "MinutePawnshop$Item"), 0, 3)
theorem npX9_nthOf : npar iX9_nthOf 2 := (by decide +kernel : (parseMethodDescriptor yX9_nthOf.desc).map (fun d => d.parameters.length) = some 2)
def iX9_pledgeOfDueRank : MI := (yX9_pledgeOfDueRank, cX9_pledgeOfDueRank, 3, some (.object "MinutePawnshop$Item"), 0, 4)
theorem npX9_pledgeOfDueRank : npar iX9_pledgeOfDueRank 1 := (by decide +kernel : (parseMethodDescriptor yX9_pledgeOfDueRank.desc).map (fun d => d.parameters.length) = some 1)
def iX9_pledgesDueBefore : MI := (yX9_pledgesDueBefore, cX9_pledgesDueBefore, 6, some .int, 0, 3)
theorem npX9_pledgesDueBefore : npar iX9_pledgesDueBefore 1 := (by decide +kernel : (parseMethodDescriptor yX9_pledgesDueBefore.desc).map (fun d => d.parameters.length) = some 1)
def iX9_takePledge : MI := (yX9_takePledge, cX9_takePledge, 6, some .int, 1, 8)
theorem npX9_takePledge : npar iX9_takePledge 3 := (by decide +kernel : (parseMethodDescriptor yX9_takePledge.desc).map (fun d => d.parameters.length) = some 3)
def iX9_redeemPledge : MI := (yX9_redeemPledge, cX9_redeemPledge, 4, some .int, 1, 10)
theorem npX9_redeemPledge : npar iX9_redeemPledge 1 := (by decide +kernel : (parseMethodDescriptor yX9_redeemPledge.desc).map (fun d => d.parameters.length) = some 1)
def iX9_extendPledge : MI := (yX9_extendPledge, cX9_extendPledge, 5, some .int, 2, 10)
theorem npX9_extendPledge : npar iX9_extendPledge 2 := (by decide +kernel : (parseMethodDescriptor yX9_extendPledge.desc).map (fun d => d.parameters.length) = some 2)
def iX9_letDaysPass : MI := (yX9_letDaysPass, cX9_letDaysPass, 4, some .int, 1, 9)
theorem npX9_letDaysPass : npar iX9_letDaysPass 1 := (by decide +kernel : (parseMethodDescriptor yX9_letDaysPass.desc).map (fun d => d.parameters.length) = some 1)
def iX9_forfeitOverdue : MI := (yX9_forfeitOverdue, cX9_forfeitOverdue, 3, some .int, 0, 8)
theorem npX9_forfeitOverdue : npar iX9_forfeitOverdue 0 := (by decide +kernel : (parseMethodDescriptor yX9_forfeitOverdue.desc).map (fun d => d.parameters.length) = some 0)
def iX9_changePrice : MI := (yX9_changePrice, cX9_changePrice, 3, some .int, 1, 8)
theorem npX9_changePrice : npar iX9_changePrice 1 := (by decide +kernel : (parseMethodDescriptor yX9_changePrice.desc).map (fun d => d.parameters.length) = some 1)
def iX9_interestByDays : MI := (yX9_interestByDays, cX9_interestByDays, 3, some .int, 0, 9)
theorem npX9_interestByDays : npar iX9_interestByDays 2 := (by decide +kernel : (parseMethodDescriptor yX9_interestByDays.desc).map (fun d => d.parameters.length) = some 2)
def iX9_interestFromWeeks : MI := (yX9_interestFromWeeks, cX9_interestFromWeeks, 2, some .int, 0, 9)
theorem npX9_interestFromWeeks : npar iX9_interestFromWeeks 1 := (by decide +kernel : (parseMethodDescriptor yX9_interestFromWeeks.desc).map (fun d => d.parameters.length) = some 1)
def iX9_placeBid : MI := (yX9_placeBid, cX9_placeBid, 6, some .int, 2, 9)
theorem npX9_placeBid : npar iX9_placeBid 3 := (by decide +kernel : (parseMethodDescriptor yX9_placeBid.desc).map (fun d => d.parameters.length) = some 3)
def iX9_sellLot : MI := (yX9_sellLot, cX9_sellLot, 5, some .int, 2, 9)
theorem npX9_sellLot : npar iX9_sellLot 1 := (by decide +kernel : (parseMethodDescriptor yX9_sellLot.desc).map (fun d => d.parameters.length) = some 1)
def iX9_sellLotsOf : MI := (yX9_sellLotsOf, cX9_sellLotsOf, 5, some .int, 1, 10)
theorem npX9_sellLotsOf : npar iX9_sellLotsOf 1 := (by decide +kernel : (parseMethodDescriptor yX9_sellLotsOf.desc).map (fun d => d.parameters.length) = some 1)
def iX9_removeAt : MI := (yX9_removeAt, cX9_removeAt, 4, none, 0, 3)
theorem npX9_removeAt : npar iX9_removeAt 1 := (by decide +kernel : (parseMethodDescriptor yX9_removeAt.desc).map (fun d => d.parameters.length) = some 1)
def iX9_minutesInStock : MI := (yX9_minutesInStock, cX9_minutesInStock, 3, some .int, 0, 3)
theorem npX9_minutesInStock : npar iX9_minutesInStock 0 := (by decide +kernel : (parseMethodDescriptor yX9_minutesInStock.desc).map (fun d => d.parameters.length) = some 0)
def iX9_sumOfPledgedLoans : MI := (yX9_sumOfPledgedLoans, cX9_sumOfPledgedLoans, 3, some .int, 0, 3)
theorem npX9_sumOfPledgedLoans : npar iX9_sumOfPledgedLoans 0 := (by decide +kernel : (parseMethodDescriptor yX9_sumOfPledgedLoans.desc).map (fun d => d.parameters.length) = some 0)
def iX9_interestsAgree : MI := (yX9_interestsAgree, cX9_interestsAgree, 2, some .boolean, 0, 10)
theorem npX9_interestsAgree : npar iX9_interestsAgree 0 := (by decide +kernel : (parseMethodDescriptor yX9_interestsAgree.desc).map (fun d => d.parameters.length) = some 0)
def iX10_pledge : MI := (yX10_pledge, cX10_pledge, 5, some .int, 1, 11)
theorem npX10_pledge : npar iX10_pledge 3 := (by decide +kernel : (parseMethodDescriptor yX10_pledge.desc).map (fun d => d.parameters.length) = some 3)
def iX10_redeem : MI := (yX10_redeem, cX10_redeem, 3, some .int, 1, 11)
theorem npX10_redeem : npar iX10_redeem 1 := (by decide +kernel : (parseMethodDescriptor yX10_redeem.desc).map (fun d => d.parameters.length) = some 1)
def iX10_extend : MI := (yX10_extend, cX10_extend, 4, some .int, 2, 11)
theorem npX10_extend : npar iX10_extend 2 := (by decide +kernel : (parseMethodDescriptor yX10_extend.desc).map (fun d => d.parameters.length) = some 2)
def iX10_passDays : MI := (yX10_passDays, cX10_passDays, 3, some .int, 1, 11)
theorem npX10_passDays : npar iX10_passDays 1 := (by decide +kernel : (parseMethodDescriptor yX10_passDays.desc).map (fun d => d.parameters.length) = some 1)
def iX10_setPrice : MI := (yX10_setPrice, cX10_setPrice, 3, some .int, 1, 11)
theorem npX10_setPrice : npar iX10_setPrice 1 := (by decide +kernel : (parseMethodDescriptor yX10_setPrice.desc).map (fun d => d.parameters.length) = some 1)
def iX10_setRate : MI := (yX10_setRate, cX10_setRate, 4, some .int, 1, 11)
theorem npX10_setRate : npar iX10_setRate 2 := (by decide +kernel : (parseMethodDescriptor yX10_setRate.desc).map (fun d => d.parameters.length) = some 2)
def iX10_day : MI := (yX10_day, cX10_day, 1, some .int, 0, 3)
theorem npX10_day : npar iX10_day 0 := (by decide +kernel : (parseMethodDescriptor yX10_day.desc).map (fun d => d.parameters.length) = some 0)
def iX10_price : MI := (yX10_price, cX10_price, 1, some .int, 0, 3)
theorem npX10_price : npar iX10_price 0 := (by decide +kernel : (parseMethodDescriptor yX10_price.desc).map (fun d => d.parameters.length) = some 0)
def iX10_rateOf : MI := (yX10_rateOf, cX10_rateOf, 2, some .int, 1, 8)
theorem npX10_rateOf : npar iX10_rateOf 1 := (by decide +kernel : (parseMethodDescriptor yX10_rateOf.desc).map (fun d => d.parameters.length) = some 1)
def iX10_coins : MI := (yX10_coins, cX10_coins, 1, some .int, 0, 3)
theorem npX10_coins : npar iX10_coins 0 := (by decide +kernel : (parseMethodDescriptor yX10_coins.desc).map (fun d => d.parameters.length) = some 0)
def iX10_coinsByAccounts : MI := (yX10_coinsByAccounts, cX10_coinsByAccounts, 1, some .int, 0, 4)
theorem npX10_coinsByAccounts : npar iX10_coinsByAccounts 0 := (by decide +kernel : (parseMethodDescriptor yX10_coinsByAccounts.desc).map (fun d => d.parameters.length) = some 0)
def iX10_pledgeCount : MI := (yX10_pledgeCount, cX10_pledgeCount, 1, some .int, 0, 4)
theorem npX10_pledgeCount : npar iX10_pledgeCount 0 := (by decide +kernel : (parseMethodDescriptor yX10_pledgeCount.desc).map (fun d => d.parameters.length) = some 0)
def iX10_pledgeAt : MI := (yX10_pledgeAt, cX10_pledgeAt, 3, some .int, 1, 8)
theorem npX10_pledgeAt : npar iX10_pledgeAt 1 := (by decide +kernel : (parseMethodDescriptor yX10_pledgeAt.desc).map (fun d => d.parameters.length) = some 1)
def iX10_customerOf : MI := (yX10_customerOf, cX10_customerOf, 2, some .int, 1, 9)
theorem npX10_customerOf : npar iX10_customerOf 1 := (by decide +kernel : (parseMethodDescriptor yX10_customerOf.desc).map (fun d => d.parameters.length) = some 1)
def iX10_minutesOf : MI := (yX10_minutesOf, cX10_minutesOf, 2, some .int, 1, 9)
theorem npX10_minutesOf : npar iX10_minutesOf 1 := (by decide +kernel : (parseMethodDescriptor yX10_minutesOf.desc).map (fun d => d.parameters.length) = some 1)
def iX10_loanOf : MI := (yX10_loanOf, cX10_loanOf, 2, some .int, 1, 9)
theorem npX10_loanOf : npar iX10_loanOf 1 := (by decide +kernel : (parseMethodDescriptor yX10_loanOf.desc).map (fun d => d.parameters.length) = some 1)
def iX10_dueDayOf : MI := (yX10_dueDayOf, cX10_dueDayOf, 2, some .int, 1, 9)
theorem npX10_dueDayOf : npar iX10_dueDayOf 1 := (by decide +kernel : (parseMethodDescriptor yX10_dueDayOf.desc).map (fun d => d.parameters.length) = some 1)
def iX10_pledgeByDueDay : MI := (yX10_pledgeByDueDay, cX10_pledgeByDueDay, 3, some .int, 1, 8)
theorem npX10_pledgeByDueDay : npar iX10_pledgeByDueDay 1 := (by decide +kernel : (parseMethodDescriptor yX10_pledgeByDueDay.desc).map (fun d => d.parameters.length) = some 1)
def iX10_interestOf : MI := (yX10_interestOf, cX10_interestOf, 2, some .int, 1, 10)
theorem npX10_interestOf : npar iX10_interestOf 1 := (by decide +kernel : (parseMethodDescriptor yX10_interestOf.desc).map (fun d => d.parameters.length) = some 1)
def iX10_interestByWeeks : MI := (yX10_interestByWeeks, cX10_interestByWeeks, 2, some .int, 1, 10)
theorem npX10_interestByWeeks : npar iX10_interestByWeeks 1 := (by decide +kernel : (parseMethodDescriptor yX10_interestByWeeks.desc).map (fun d => d.parameters.length) = some 1)
def iX10_debtAfter : MI := (yX10_debtAfter, cX10_debtAfter, 4, some .int, 2, 10)
theorem npX10_debtAfter : npar iX10_debtAfter 2 := (by decide +kernel : (parseMethodDescriptor yX10_debtAfter.desc).map (fun d => d.parameters.length) = some 2)
def iX10_cheapestWeekday : MI := (yX10_cheapestWeekday, cX10_cheapestWeekday, 1, some .int, 0, 9)
theorem npX10_cheapestWeekday : npar iX10_cheapestWeekday 0 := (by decide +kernel : (parseMethodDescriptor yX10_cheapestWeekday.desc).map (fun d => d.parameters.length) = some 0)
def iX10_mostMinutes : MI := (yX10_mostMinutes, cX10_mostMinutes, 3, some .int, 1, 11)
theorem npX10_mostMinutes : npar iX10_mostMinutes 2 := (by decide +kernel : (parseMethodDescriptor yX10_mostMinutes.desc).map (fun d => d.parameters.length) = some 2)
def iX10_mostMinutesByTable : MI := (yX10_mostMinutesByTable, cX10_mostMinutesByTable, 3, some .int, 1, 11)
theorem npX10_mostMinutesByTable : npar iX10_mostMinutesByTable 2 := (by decide +kernel : (parseMethodDescriptor yX10_mostMinutesByTable.desc).map (fun d => d.parameters.length) = some 2)
def iX10_checkPurse : MI := (yX10_checkPurse, cX10_checkPurse, 2, none, 1, 8)
theorem npX10_checkPurse : npar iX10_checkPurse 2 := (by decide +kernel : (parseMethodDescriptor yX10_checkPurse.desc).map (fun d => d.parameters.length) = some 2)
def iX10_debtOf : MI := (yX10_debtOf, cX10_debtOf, 2, some .int, 1, 11)
theorem npX10_debtOf : npar iX10_debtOf 1 := (by decide +kernel : (parseMethodDescriptor yX10_debtOf.desc).map (fun d => d.parameters.length) = some 1)
def iX10_daysToForfeit : MI := (yX10_daysToForfeit, cX10_daysToForfeit, 2, some .int, 1, 8)
theorem npX10_daysToForfeit : npar iX10_daysToForfeit 0 := (by decide +kernel : (parseMethodDescriptor yX10_daysToForfeit.desc).map (fun d => d.parameters.length) = some 0)
def iX10_bid : MI := (yX10_bid, cX10_bid, 5, some .int, 2, 11)
theorem npX10_bid : npar iX10_bid 3 := (by decide +kernel : (parseMethodDescriptor yX10_bid.desc).map (fun d => d.parameters.length) = some 3)
def iX10_sell : MI := (yX10_sell, cX10_sell, 3, some .int, 2, 11)
theorem npX10_sell : npar iX10_sell 1 := (by decide +kernel : (parseMethodDescriptor yX10_sell.desc).map (fun d => d.parameters.length) = some 1)
def iX10_sellEvening : MI := (yX10_sellEvening, cX10_sellEvening, 2, some .int, 1, 11)
theorem npX10_sellEvening : npar iX10_sellEvening 0 := (by decide +kernel : (parseMethodDescriptor yX10_sellEvening.desc).map (fun d => d.parameters.length) = some 0)
def iX10_lotCount : MI := (yX10_lotCount, cX10_lotCount, 1, some .int, 0, 4)
theorem npX10_lotCount : npar iX10_lotCount 0 := (by decide +kernel : (parseMethodDescriptor yX10_lotCount.desc).map (fun d => d.parameters.length) = some 0)
def iX10_lotAt : MI := (yX10_lotAt, cX10_lotAt, 3, some .int, 1, 8)
theorem npX10_lotAt : npar iX10_lotAt 1 := (by decide +kernel : (parseMethodDescriptor yX10_lotAt.desc).map (fun d => d.parameters.length) = some 1)
def iX10_bidOf : MI := (yX10_bidOf, cX10_bidOf, 4, some .int, 2, 9)
theorem npX10_bidOf : npar iX10_bidOf 2 := (by decide +kernel : (parseMethodDescriptor yX10_bidOf.desc).map (fun d => d.parameters.length) = some 2)
def iX10_buyerOf : MI := (yX10_buyerOf, cX10_buyerOf, 4, some .int, 2, 9)
theorem npX10_buyerOf : npar iX10_buyerOf 1 := (by decide +kernel : (parseMethodDescriptor yX10_buyerOf.desc).map (fun d => d.parameters.length) = some 1)
def iX10_priceOf : MI := (yX10_priceOf, cX10_priceOf, 4, some .int, 2, 9)
theorem npX10_priceOf : npar iX10_priceOf 1 := (by decide +kernel : (parseMethodDescriptor yX10_priceOf.desc).map (fun d => d.parameters.length) = some 1)
def iX10_bestEvening : MI := (yX10_bestEvening, cX10_bestEvening, 1, some .int, 0, 9)
theorem npX10_bestEvening : npar iX10_bestEvening 0 := (by decide +kernel : (parseMethodDescriptor yX10_bestEvening.desc).map (fun d => d.parameters.length) = some 0)
def iX10_bestEveningByTrying : MI := (yX10_bestEveningByTrying, cX10_bestEveningByTrying, 1, some .int, 0, 18)
theorem npX10_bestEveningByTrying : npar iX10_bestEveningByTrying 0 := (by decide +kernel : (parseMethodDescriptor yX10_bestEveningByTrying.desc).map (fun d => d.parameters.length) = some 0)
def iX10_eveningBuyerOf : MI := (yX10_eveningBuyerOf, cX10_eveningBuyerOf, 4, some .int, 2, 10)
theorem npX10_eveningBuyerOf : npar iX10_eveningBuyerOf 1 := (by decide +kernel : (parseMethodDescriptor yX10_eveningBuyerOf.desc).map (fun d => d.parameters.length) = some 1)
def iX10_redeemedMinutes : MI := (yX10_redeemedMinutes, cX10_redeemedMinutes, 1, some .int, 0, 3)
theorem npX10_redeemedMinutes : npar iX10_redeemedMinutes 0 := (by decide +kernel : (parseMethodDescriptor yX10_redeemedMinutes.desc).map (fun d => d.parameters.length) = some 0)
def iX10_forfeitedMinutes : MI := (yX10_forfeitedMinutes, cX10_forfeitedMinutes, 1, some .int, 0, 3)
theorem npX10_forfeitedMinutes : npar iX10_forfeitedMinutes 0 := (by decide +kernel : (parseMethodDescriptor yX10_forfeitedMinutes.desc).map (fun d => d.parameters.length) = some 0)
def iX10_soldMinutes : MI := (yX10_soldMinutes, cX10_soldMinutes, 1, some .int, 0, 3)
theorem npX10_soldMinutes : npar iX10_soldMinutes 0 := (by decide +kernel : (parseMethodDescriptor yX10_soldMinutes.desc).map (fun d => d.parameters.length) = some 0)
def iX10_pledgedMinutes : MI := (yX10_pledgedMinutes, cX10_pledgedMinutes, 1, some .long, 0, 3)
theorem npX10_pledgedMinutes : npar iX10_pledgedMinutes 0 := (by decide +kernel : (parseMethodDescriptor yX10_pledgedMinutes.desc).map (fun d => d.parameters.length) = some 0)
def iX10_meanLoan : MI := (yX10_meanLoan, cX10_meanLoan, 2, some .double, 1, 8)
theorem npX10_meanLoan : npar iX10_meanLoan 0 := (by decide +kernel : (parseMethodDescriptor yX10_meanLoan.desc).map (fun d => d.parameters.length) = some 0)
def iX10_isConsistent : MI := (yX10_isConsistent, cX10_isConsistent, 4, some .boolean, 0, 11)
theorem npX10_isConsistent : npar iX10_isConsistent 0 := (by decide +kernel : (parseMethodDescriptor yX10_isConsistent.desc).map (fun d => d.parameters.length) = some 0)
def iX10_writeSlip : MI := (yX10_writeSlip, cX10_writeSlip, 3, some .int, 700, 9)
theorem npX10_writeSlip : npar iX10_writeSlip 1 := (by decide +kernel : (parseMethodDescriptor yX10_writeSlip.desc).map (fun d => d.parameters.length) = some 1)
def iX10_appendDueDay : MI := (yX10_appendDueDay, cX10_appendDueDay, 2, none, 60, 8)
theorem npX10_appendDueDay : npar iX10_appendDueDay 1 := (by decide +kernel : (parseMethodDescriptor yX10_appendDueDay.desc).map (fun d => d.parameters.length) = some 1)
def iX10_appendBids : MI := (yX10_appendBids, cX10_appendBids, 3, none, 450, 8)
theorem npX10_appendBids : npar iX10_appendBids 1 := (by decide +kernel : (parseMethodDescriptor yX10_appendBids.desc).map (fun d => d.parameters.length) = some 1)
def iX10_slipAt : MI := (yX10_slipAt, cX10_slipAt, 2, some .char, 1, 8)
theorem npX10_slipAt : npar iX10_slipAt 1 := (by decide +kernel : (parseMethodDescriptor yX10_slipAt.desc).map (fun d => d.parameters.length) = some 1)
def iX10_type : MI := (yX10_type, cX10_type, 2, some .int, 1, 8)
theorem npX10_type : npar iX10_type 1 := (by decide +kernel : (parseMethodDescriptor yX10_type.desc).map (fun d => d.parameters.length) = some 1)
def iX10_execute : MI := (yX10_execute, cX10_execute, 3, some .int, 300, 13)
theorem npX10_execute : npar iX10_execute 0 := (by decide +kernel : (parseMethodDescriptor yX10_execute.desc).map (fun d => d.parameters.length) = some 0)
def iX10_run : MI := (yX10_run, cX10_run, 5, none, 12, 11)
theorem npX10_run : npar iX10_run 4 := (by decide +kernel : (parseMethodDescriptor yX10_run.desc).map (fun d => d.parameters.length) = some 4)
def iX10_errorPosition : MI := (yX10_errorPosition, cX10_errorPosition, 1, some .int, 1, 8)
theorem npX10_errorPosition : npar iX10_errorPosition 0 := (by decide +kernel : (parseMethodDescriptor yX10_errorPosition.desc).map (fun d => d.parameters.length) = some 0)
def iX10_failedCommand : MI := (yX10_failedCommand, cX10_failedCommand, 1, some .int, 1, 8)
theorem npX10_failedCommand : npar iX10_failedCommand 0 := (by decide +kernel : (parseMethodDescriptor yX10_failedCommand.desc).map (fun d => d.parameters.length) = some 0)
def iX10_undo : MI := (yX10_undo, cX10_undo, 1, some .int, 1, 11)
theorem npX10_undo : npar iX10_undo 0 := (by decide +kernel : (parseMethodDescriptor yX10_undo.desc).map (fun d => d.parameters.length) = some 0)
def iX10_save : MI := (yX10_save, cX10_save, 1, some .int, 0, 10)
theorem npX10_save : npar iX10_save 0 := (by decide +kernel : (parseMethodDescriptor yX10_save.desc).map (fun d => d.parameters.length) = some 0)
def iX10_restore : MI := (yX10_restore, cX10_restore, 1, some .int, 1, 10)
theorem npX10_restore : npar iX10_restore 0 := (by decide +kernel : (parseMethodDescriptor yX10_restore.desc).map (fun d => d.parameters.length) = some 0)
def iX11_thrown : MI := (yX11_thrown, cX11_thrown, 1, some .int, 0, 3)
theorem npX11_thrown : npar iX11_thrown 0 := (by decide +kernel : (parseMethodDescriptor yX11_thrown.desc).map (fun d => d.parameters.length) = some 0)
def iX11_fail : MI := (yX11_fail, cX11_fail, 2, some .int, 0, 3)
theorem npX11_fail : npar iX11_fail 1 := (by decide +kernel : (parseMethodDescriptor yX11_fail.desc).map (fun d => d.parameters.length) = some 1)
def iX11_isIn : MI := (yX11_isIn, cX11_isIn, 3, some .boolean, 0, 3)
theorem npX11_isIn : npar iX11_isIn 3 := (by decide +kernel : (parseMethodDescriptor yX11_isIn.desc).map (fun d => d.parameters.length) = some 3)
def iX11_lays : MI := (yX11_lays, cX11_lays, 3, none, 0, 3)
theorem npX11_lays : npar iX11_lays 2 := (by decide +kernel : (parseMethodDescriptor yX11_lays.desc).map (fun d => d.parameters.length) = some 2)
def iX11_begins : MI := (yX11_begins, cX11_begins, 1, none, 0, 4)
theorem npX11_begins : npar iX11_begins 0 := (by decide +kernel : (parseMethodDescriptor yX11_begins.desc).map (fun d => d.parameters.length) = some 0)
def iX11_ends : MI := (yX11_ends, cX11_ends, 3, some .int, 0, 4)
theorem npX11_ends : npar iX11_ends 1 := (by decide +kernel : (parseMethodDescriptor yX11_ends.desc).map (fun d => d.parameters.length) = some 1)
def iX11_of : MI := (yX11_of, cX11_of, 2, some .int, 0, 3)
theorem npX11_of : npar iX11_of 2 := (by decide +kernel : (parseMethodDescriptor yX11_of.desc).map (fun d => d.parameters.length) = some 2)
def iX11_isLot : MI := (yX11_isLot, cX11_isLot, 2, some .boolean, 0, 4)
theorem npX11_isLot : npar iX11_isLot 1 := (by decide +kernel : (parseMethodDescriptor yX11_isLot.desc).map (fun d => d.parameters.length) = some 1)
def iX11_find : MI := (yX11_find, cX11_find, 3, some .int, 0, 4)
theorem npX11_find : npar iX11_find 1 := (by decide +kernel : (parseMethodDescriptor yX11_find.desc).map (fun d => d.parameters.length) = some 1)
def iX11_findOf : MI := (yX11_findOf, cX11_findOf, 4, some .int, 0, 5)
theorem npX11_findOf : npar iX11_findOf 2 := (by decide +kernel : (parseMethodDescriptor yX11_findOf.desc).map (fun d => d.parameters.length) = some 2)
def iX11_count : MI := (yX11_count, cX11_count, 4, some .int, 0, 5)
theorem npX11_count : npar iX11_count 1 := (by decide +kernel : (parseMethodDescriptor yX11_count.desc).map (fun d => d.parameters.length) = some 1)
def iX11_placed : MI := (yX11_placed, cX11_placed, 5, some .int, 0, 5)
theorem npX11_placed : npar iX11_placed 2 := (by decide +kernel : (parseMethodDescriptor yX11_placed.desc).map (fun d => d.parameters.length) = some 2)
def iX11_goes : MI := (yX11_goes, cX11_goes, 3, none, 0, 4)
theorem npX11_goes : npar iX11_goes 1 := (by decide +kernel : (parseMethodDescriptor yX11_goes.desc).map (fun d => d.parameters.length) = some 1)
def iX11_pledges : MI := (yX11_pledges, cX11_pledges, 7, some .int, 0, 4)
theorem npX11_pledges : npar iX11_pledges 3 := (by decide +kernel : (parseMethodDescriptor yX11_pledges.desc).map (fun d => d.parameters.length) = some 3)
def iX11_pledge : MI := (yX11_pledge, cX11_pledge, 4, some .int, 0, 5)
theorem npX11_pledge : npar iX11_pledge 3 := (by decide +kernel : (parseMethodDescriptor yX11_pledge.desc).map (fun d => d.parameters.length) = some 3)
def iX11_interest : MI := (yX11_interest, cX11_interest, 5, some .int, 0, 4)
theorem npX11_interest : npar iX11_interest 2 := (by decide +kernel : (parseMethodDescriptor yX11_interest.desc).map (fun d => d.parameters.length) = some 2)
def iX11_debt : MI := (yX11_debt, cX11_debt, 2, some .int, 0, 5)
theorem npX11_debt : npar iX11_debt 1 := (by decide +kernel : (parseMethodDescriptor yX11_debt.desc).map (fun d => d.parameters.length) = some 1)
def iX11_redeems : MI := (yX11_redeems, cX11_redeems, 3, some .int, 0, 6)
theorem npX11_redeems : npar iX11_redeems 1 := (by decide +kernel : (parseMethodDescriptor yX11_redeems.desc).map (fun d => d.parameters.length) = some 1)
def iX11_redeem : MI := (yX11_redeem, cX11_redeem, 2, some .int, 0, 7)
theorem npX11_redeem : npar iX11_redeem 1 := (by decide +kernel : (parseMethodDescriptor yX11_redeem.desc).map (fun d => d.parameters.length) = some 1)
def iX11_extends1 : MI := (yX11_extends1, cX11_extends1, 4, some .int, 0, 5)
theorem npX11_extends1 : npar iX11_extends1 2 := (by decide +kernel : (parseMethodDescriptor yX11_extends1.desc).map (fun d => d.parameters.length) = some 2)
def iX11_extend : MI := (yX11_extend, cX11_extend, 3, some .int, 0, 6)
theorem npX11_extend : npar iX11_extend 2 := (by decide +kernel : (parseMethodDescriptor yX11_extend.desc).map (fun d => d.parameters.length) = some 2)
def iX11_passes : MI := (yX11_passes, cX11_passes, 5, some .int, 0, 5)
theorem npX11_passes : npar iX11_passes 1 := (by decide +kernel : (parseMethodDescriptor yX11_passes.desc).map (fun d => d.parameters.length) = some 1)
def iX11_passDays : MI := (yX11_passDays, cX11_passDays, 2, some .int, 0, 6)
theorem npX11_passDays : npar iX11_passDays 1 := (by decide +kernel : (parseMethodDescriptor yX11_passDays.desc).map (fun d => d.parameters.length) = some 1)
def iX11_prices : MI := (yX11_prices, cX11_prices, 3, some .int, 0, 4)
theorem npX11_prices : npar iX11_prices 1 := (by decide +kernel : (parseMethodDescriptor yX11_prices.desc).map (fun d => d.parameters.length) = some 1)
def iX11_setPrice : MI := (yX11_setPrice, cX11_setPrice, 2, some .int, 0, 5)
theorem npX11_setPrice : npar iX11_setPrice 1 := (by decide +kernel : (parseMethodDescriptor yX11_setPrice.desc).map (fun d => d.parameters.length) = some 1)
def iX11_rates : MI := (yX11_rates, cX11_rates, 4, some .int, 0, 4)
theorem npX11_rates : npar iX11_rates 2 := (by decide +kernel : (parseMethodDescriptor yX11_rates.desc).map (fun d => d.parameters.length) = some 2)
def iX11_setRate : MI := (yX11_setRate, cX11_setRate, 3, some .int, 0, 5)
theorem npX11_setRate : npar iX11_setRate 2 := (by decide +kernel : (parseMethodDescriptor yX11_setRate.desc).map (fun d => d.parameters.length) = some 2)
def iX11_tells : MI := (yX11_tells, cX11_tells, 2, some .int, 0, 3)
theorem npX11_tells : npar iX11_tells 1 := (by decide +kernel : (parseMethodDescriptor yX11_tells.desc).map (fun d => d.parameters.length) = some 1)
def iX11_day : MI := (yX11_day, cX11_day, 1, some .int, 0, 4)
theorem npX11_day : npar iX11_day 0 := (by decide +kernel : (parseMethodDescriptor yX11_day.desc).map (fun d => d.parameters.length) = some 0)
def iX11_price : MI := (yX11_price, cX11_price, 1, some .int, 0, 4)
theorem npX11_price : npar iX11_price 0 := (by decide +kernel : (parseMethodDescriptor yX11_price.desc).map (fun d => d.parameters.length) = some 0)
def iX11_rateOf : MI := (yX11_rateOf, cX11_rateOf, 2, some .int, 0, 4)
theorem npX11_rateOf : npar iX11_rateOf 1 := (by decide +kernel : (parseMethodDescriptor yX11_rateOf.desc).map (fun d => d.parameters.length) = some 1)
def iX11_coins : MI := (yX11_coins, cX11_coins, 1, some .int, 0, 4)
theorem npX11_coins : npar iX11_coins 0 := (by decide +kernel : (parseMethodDescriptor yX11_coins.desc).map (fun d => d.parameters.length) = some 0)
def iX11_coinsByAccounts : MI := (yX11_coinsByAccounts, cX11_coinsByAccounts, 1, some .int, 0, 4)
theorem npX11_coinsByAccounts : npar iX11_coinsByAccounts 0 := (by decide +kernel : (parseMethodDescriptor yX11_coinsByAccounts.desc).map (fun d => d.parameters.length) = some 0)
def iX11_pledgeCount : MI := (yX11_pledgeCount, cX11_pledgeCount, 1, some .int, 0, 6)
theorem npX11_pledgeCount : npar iX11_pledgeCount 0 := (by decide +kernel : (parseMethodDescriptor yX11_pledgeCount.desc).map (fun d => d.parameters.length) = some 0)
def iX11_pledgeAt : MI := (yX11_pledgeAt, cX11_pledgeAt, 3, some .int, 0, 6)
theorem npX11_pledgeAt : npar iX11_pledgeAt 1 := (by decide +kernel : (parseMethodDescriptor yX11_pledgeAt.desc).map (fun d => d.parameters.length) = some 1)
def iX11_tellsOf : MI := (yX11_tellsOf, cX11_tellsOf, 3, some .int, 0, 4)
theorem npX11_tellsOf : npar iX11_tellsOf 2 := (by decide +kernel : (parseMethodDescriptor yX11_tellsOf.desc).map (fun d => d.parameters.length) = some 2)
def iX11_customerOf : MI := (yX11_customerOf, cX11_customerOf, 2, some .int, 0, 6)
theorem npX11_customerOf : npar iX11_customerOf 1 := (by decide +kernel : (parseMethodDescriptor yX11_customerOf.desc).map (fun d => d.parameters.length) = some 1)
def iX11_minutesOf : MI := (yX11_minutesOf, cX11_minutesOf, 2, some .int, 0, 5)
theorem npX11_minutesOf : npar iX11_minutesOf 1 := (by decide +kernel : (parseMethodDescriptor yX11_minutesOf.desc).map (fun d => d.parameters.length) = some 1)
def iX11_loanOf : MI := (yX11_loanOf, cX11_loanOf, 2, some .int, 0, 5)
theorem npX11_loanOf : npar iX11_loanOf 1 := (by decide +kernel : (parseMethodDescriptor yX11_loanOf.desc).map (fun d => d.parameters.length) = some 1)
def iX11_dueDayOf : MI := (yX11_dueDayOf, cX11_dueDayOf, 2, some .int, 0, 6)
theorem npX11_dueDayOf : npar iX11_dueDayOf 1 := (by decide +kernel : (parseMethodDescriptor yX11_dueDayOf.desc).map (fun d => d.parameters.length) = some 1)
def iX11_pledgeByDueDay : MI := (yX11_pledgeByDueDay, cX11_pledgeByDueDay, 5, some .int, 0, 5)
theorem npX11_pledgeByDueDay : npar iX11_pledgeByDueDay 1 := (by decide +kernel : (parseMethodDescriptor yX11_pledgeByDueDay.desc).map (fun d => d.parameters.length) = some 1)
def iX11_interestOf : MI := (yX11_interestOf, cX11_interestOf, 3, some .int, 0, 6)
theorem npX11_interestOf : npar iX11_interestOf 1 := (by decide +kernel : (parseMethodDescriptor yX11_interestOf.desc).map (fun d => d.parameters.length) = some 1)
def iX11_interestByWeeks : MI := (yX11_interestByWeeks, cX11_interestByWeeks, 2, some .int, 0, 7)
theorem npX11_interestByWeeks : npar iX11_interestByWeeks 1 := (by decide +kernel : (parseMethodDescriptor yX11_interestByWeeks.desc).map (fun d => d.parameters.length) = some 1)
def iX11_debtAfter : MI := (yX11_debtAfter, cX11_debtAfter, 4, some .int, 0, 6)
theorem npX11_debtAfter : npar iX11_debtAfter 2 := (by decide +kernel : (parseMethodDescriptor yX11_debtAfter.desc).map (fun d => d.parameters.length) = some 2)
def iX11_cheapestWeekday : MI := (yX11_cheapestWeekday, cX11_cheapestWeekday, 4, some .int, 0, 3)
theorem npX11_cheapestWeekday : npar iX11_cheapestWeekday 0 := (by decide +kernel : (parseMethodDescriptor yX11_cheapestWeekday.desc).map (fun d => d.parameters.length) = some 0)
def iX11_mostMinutes : MI := (yX11_mostMinutes, cX11_mostMinutes, 9, some .int, 0, 6)
theorem npX11_mostMinutes : npar iX11_mostMinutes 2 := (by decide +kernel : (parseMethodDescriptor yX11_mostMinutes.desc).map (fun d => d.parameters.length) = some 2)
def iX11_mostMinutesByTable : MI := (yX11_mostMinutesByTable, cX11_mostMinutesByTable, 3, some .int, 0, 7)
theorem npX11_mostMinutesByTable : npar iX11_mostMinutesByTable 2 := (by decide +kernel : (parseMethodDescriptor yX11_mostMinutesByTable.desc).map (fun d => d.parameters.length) = some 2)
def iX11_debtOf : MI := (yX11_debtOf, cX11_debtOf, 4, some .int, 0, 6)
theorem npX11_debtOf : npar iX11_debtOf 1 := (by decide +kernel : (parseMethodDescriptor yX11_debtOf.desc).map (fun d => d.parameters.length) = some 1)
def iX11_daysToForfeit : MI := (yX11_daysToForfeit, cX11_daysToForfeit, 4, some .int, 0, 5)
theorem npX11_daysToForfeit : npar iX11_daysToForfeit 0 := (by decide +kernel : (parseMethodDescriptor yX11_daysToForfeit.desc).map (fun d => d.parameters.length) = some 0)
def iX11_offer : MI := (yX11_offer, cX11_offer, 3, some .int, 0, 4)
theorem npX11_offer : npar iX11_offer 2 := (by decide +kernel : (parseMethodDescriptor yX11_offer.desc).map (fun d => d.parameters.length) = some 2)
def iX11_bids : MI := (yX11_bids, cX11_bids, 5, some .int, 0, 5)
theorem npX11_bids : npar iX11_bids 3 := (by decide +kernel : (parseMethodDescriptor yX11_bids.desc).map (fun d => d.parameters.length) = some 3)
def iX11_bid : MI := (yX11_bid, cX11_bid, 4, some .int, 0, 6)
theorem npX11_bid : npar iX11_bid 3 := (by decide +kernel : (parseMethodDescriptor yX11_bid.desc).map (fun d => d.parameters.length) = some 3)
def iX11_buyer : MI := (yX11_buyer, cX11_buyer, 4, some .int, 0, 5)
theorem npX11_buyer : npar iX11_buyer 1 := (by decide +kernel : (parseMethodDescriptor yX11_buyer.desc).map (fun d => d.parameters.length) = some 1)
def iX11_paid : MI := (yX11_paid, cX11_paid, 5, some .int, 0, 5)
theorem npX11_paid : npar iX11_paid 2 := (by decide +kernel : (parseMethodDescriptor yX11_paid.desc).map (fun d => d.parameters.length) = some 2)
def iX11_sold : MI := (yX11_sold, cX11_sold, 3, none, 0, 5)
theorem npX11_sold : npar iX11_sold 2 := (by decide +kernel : (parseMethodDescriptor yX11_sold.desc).map (fun d => d.parameters.length) = some 2)
def iX11_sells : MI := (yX11_sells, cX11_sells, 4, some .int, 0, 6)
theorem npX11_sells : npar iX11_sells 1 := (by decide +kernel : (parseMethodDescriptor yX11_sells.desc).map (fun d => d.parameters.length) = some 1)
def iX11_sell : MI := (yX11_sell, cX11_sell, 2, some .int, 0, 7)
theorem npX11_sell : npar iX11_sell 1 := (by decide +kernel : (parseMethodDescriptor yX11_sell.desc).map (fun d => d.parameters.length) = some 1)
def iX11_mayGet : MI := (yX11_mayGet, cX11_mayGet, 4, some .boolean, 0, 5)
theorem npX11_mayGet : npar iX11_mayGet 3 := (by decide +kernel : (parseMethodDescriptor yX11_mayGet.desc).map (fun d => d.parameters.length) = some 3)
def iX11_evenings : MI := (yX11_evenings, cX11_evenings, 6, none, 0, 6)
theorem npX11_evenings : npar iX11_evenings 0 := (by decide +kernel : (parseMethodDescriptor yX11_evenings.desc).map (fun d => d.parameters.length) = some 0)
def iX11_gets : MI := (yX11_gets, cX11_gets, 4, some .int, 0, 6)
theorem npX11_gets : npar iX11_gets 2 := (by decide +kernel : (parseMethodDescriptor yX11_gets.desc).map (fun d => d.parameters.length) = some 2)
def iX11_sellsAll : MI := (yX11_sellsAll, cX11_sellsAll, 5, some .int, 0, 7)
theorem npX11_sellsAll : npar iX11_sellsAll 0 := (by decide +kernel : (parseMethodDescriptor yX11_sellsAll.desc).map (fun d => d.parameters.length) = some 0)
def iX11_sellEvening : MI := (yX11_sellEvening, cX11_sellEvening, 1, some .int, 0, 8)
theorem npX11_sellEvening : npar iX11_sellEvening 0 := (by decide +kernel : (parseMethodDescriptor yX11_sellEvening.desc).map (fun d => d.parameters.length) = some 0)
def iX11_lotCount : MI := (yX11_lotCount, cX11_lotCount, 1, some .int, 0, 6)
theorem npX11_lotCount : npar iX11_lotCount 0 := (by decide +kernel : (parseMethodDescriptor yX11_lotCount.desc).map (fun d => d.parameters.length) = some 0)
def iX11_lotAt : MI := (yX11_lotAt, cX11_lotAt, 3, some .int, 0, 6)
theorem npX11_lotAt : npar iX11_lotAt 1 := (by decide +kernel : (parseMethodDescriptor yX11_lotAt.desc).map (fun d => d.parameters.length) = some 1)
def iX11_bidOf : MI := (yX11_bidOf, cX11_bidOf, 4, some .int, 0, 6)
theorem npX11_bidOf : npar iX11_bidOf 2 := (by decide +kernel : (parseMethodDescriptor yX11_bidOf.desc).map (fun d => d.parameters.length) = some 2)
def iX11_buyerOf : MI := (yX11_buyerOf, cX11_buyerOf, 3, some .int, 0, 6)
theorem npX11_buyerOf : npar iX11_buyerOf 1 := (by decide +kernel : (parseMethodDescriptor yX11_buyerOf.desc).map (fun d => d.parameters.length) = some 1)
def iX11_priceOf : MI := (yX11_priceOf, cX11_priceOf, 3, some .int, 0, 6)
theorem npX11_priceOf : npar iX11_priceOf 1 := (by decide +kernel : (parseMethodDescriptor yX11_priceOf.desc).map (fun d => d.parameters.length) = some 1)
def iX11_bestEvening : MI := (yX11_bestEvening, cX11_bestEvening, 1, some .int, 0, 7)
theorem npX11_bestEvening : npar iX11_bestEvening 0 := (by decide +kernel : (parseMethodDescriptor yX11_bestEvening.desc).map (fun d => d.parameters.length) = some 0)
def iX11_bestEveningByTrying : MI := (yX11_bestEveningByTrying, cX11_bestEveningByTrying, 1, some .int, 0, 8)
theorem npX11_bestEveningByTrying : npar iX11_bestEveningByTrying 0 := (by decide +kernel : (parseMethodDescriptor yX11_bestEveningByTrying.desc).map (fun d => d.parameters.length) = some 0)
def iX11_eveningBuyerOf : MI := (yX11_eveningBuyerOf, cX11_eveningBuyerOf, 6, some .int, 0, 7)
theorem npX11_eveningBuyerOf : npar iX11_eveningBuyerOf 1 := (by decide +kernel : (parseMethodDescriptor yX11_eveningBuyerOf.desc).map (fun d => d.parameters.length) = some 1)
def iX11_redeemedMinutes : MI := (yX11_redeemedMinutes, cX11_redeemedMinutes, 1, some .int, 0, 4)
theorem npX11_redeemedMinutes : npar iX11_redeemedMinutes 0 := (by decide +kernel : (parseMethodDescriptor yX11_redeemedMinutes.desc).map (fun d => d.parameters.length) = some 0)
def iX11_forfeitedMinutes : MI := (yX11_forfeitedMinutes, cX11_forfeitedMinutes, 1, some .int, 0, 4)
theorem npX11_forfeitedMinutes : npar iX11_forfeitedMinutes 0 := (by decide +kernel : (parseMethodDescriptor yX11_forfeitedMinutes.desc).map (fun d => d.parameters.length) = some 0)
def iX11_soldMinutes : MI := (yX11_soldMinutes, cX11_soldMinutes, 1, some .int, 0, 4)
theorem npX11_soldMinutes : npar iX11_soldMinutes 0 := (by decide +kernel : (parseMethodDescriptor yX11_soldMinutes.desc).map (fun d => d.parameters.length) = some 0)
def iX11_pledgedMinutes : MI := (yX11_pledgedMinutes, cX11_pledgedMinutes, 1, some .long, 0, 4)
theorem npX11_pledgedMinutes : npar iX11_pledgedMinutes 0 := (by decide +kernel : (parseMethodDescriptor yX11_pledgedMinutes.desc).map (fun d => d.parameters.length) = some 0)
def iX11_meanLoan : MI := (yX11_meanLoan, cX11_meanLoan, 4, some .double, 0, 6)
theorem npX11_meanLoan : npar iX11_meanLoan 0 := (by decide +kernel : (parseMethodDescriptor yX11_meanLoan.desc).map (fun d => d.parameters.length) = some 0)
def iX11_isConsistent : MI := (yX11_isConsistent, cX11_isConsistent, 3, some .boolean, 0, 4)
theorem npX11_isConsistent : npar iX11_isConsistent 0 := (by decide +kernel : (parseMethodDescriptor yX11_isConsistent.desc).map (fun d => d.parameters.length) = some 0)
def iX11_writes : MI := (yX11_writes, cX11_writes, 2, none, 0, 3)
theorem npX11_writes : npar iX11_writes 1 := (by decide +kernel : (parseMethodDescriptor yX11_writes.desc).map (fun d => d.parameters.length) = some 1)
def iX11_writesNumber : MI := (yX11_writesNumber, cX11_writesNumber, 3, none, 0, 4)
theorem npX11_writesNumber : npar iX11_writesNumber 1 := (by decide +kernel : (parseMethodDescriptor yX11_writesNumber.desc).map (fun d => d.parameters.length) = some 1)
def iX11_writesThree : MI := (yX11_writesThree, cX11_writesThree, 4, none, 0, 4)
theorem npX11_writesThree : npar iX11_writesThree 3 := (by decide +kernel : (parseMethodDescriptor yX11_writesThree.desc).map (fun d => d.parameters.length) = some 3)
def iX11_writeSlip : MI := (yX11_writeSlip, cX11_writeSlip, 4, some .int, 0, 5)
theorem npX11_writeSlip : npar iX11_writeSlip 1 := (by decide +kernel : (parseMethodDescriptor yX11_writeSlip.desc).map (fun d => d.parameters.length) = some 1)
def iX11_slipAt : MI := (yX11_slipAt, cX11_slipAt, 2, some .char, 0, 4)
theorem npX11_slipAt : npar iX11_slipAt 1 := (by decide +kernel : (parseMethodDescriptor yX11_slipAt.desc).map (fun d => d.parameters.length) = some 1)
def iX11_type : MI := (yX11_type, cX11_type, 2, some .int, 0, 4)
theorem npX11_type : npar iX11_type 1 := (by decide +kernel : (parseMethodDescriptor yX11_type.desc).map (fun d => d.parameters.length) = some 1)
def iX11_sign : MI := (yX11_sign, cX11_sign, 1, some .int, 0, 3)
theorem npX11_sign : npar iX11_sign 0 := (by decide +kernel : (parseMethodDescriptor yX11_sign.desc).map (fun d => d.parameters.length) = some 0)
def iX11_mark : MI := (yX11_mark, cX11_mark, 2, none, 0, 4)
theorem npX11_mark : npar iX11_mark 1 := (by decide +kernel : (parseMethodDescriptor yX11_mark.desc).map (fun d => d.parameters.length) = some 1)
def iX11_digits : MI := (yX11_digits, cX11_digits, 4, some .int, 0, 4)
theorem npX11_digits : npar iX11_digits 1 := (by decide +kernel : (parseMethodDescriptor yX11_digits.desc).map (fun d => d.parameters.length) = some 1)
def iX11_behind : MI := (yX11_behind, cX11_behind, 2, some .int, 0, 5)
theorem npX11_behind : npar iX11_behind 1 := (by decide +kernel : (parseMethodDescriptor yX11_behind.desc).map (fun d => d.parameters.length) = some 1)
def iX11_word : MI := (yX11_word, cX11_word, 5, some .int, 0, 4)
theorem npX11_word : npar iX11_word 0 := (by decide +kernel : (parseMethodDescriptor yX11_word.desc).map (fun d => d.parameters.length) = some 0)
def iX11_does : MI := (yX11_does, cX11_does, 5, some .int, 0, 8)
theorem npX11_does : npar iX11_does 4 := (by decide +kernel : (parseMethodDescriptor yX11_does.desc).map (fun d => d.parameters.length) = some 4)
def iX11_command : MI := (yX11_command, cX11_command, 6, none, 0, 9)
theorem npX11_command : npar iX11_command 0 := (by decide +kernel : (parseMethodDescriptor yX11_command.desc).map (fun d => d.parameters.length) = some 0)
def iX11_commands : MI := (yX11_commands, cX11_commands, 2, some .int, 0, 10)
theorem npX11_commands : npar iX11_commands 0 := (by decide +kernel : (parseMethodDescriptor yX11_commands.desc).map (fun d => d.parameters.length) = some 0)
def iX11_execute : MI := (yX11_execute, cX11_execute, 2, some .int, 0, 11)
theorem npX11_execute : npar iX11_execute 0 := (by decide +kernel : (parseMethodDescriptor yX11_execute.desc).map (fun d => d.parameters.length) = some 0)
def iX11_errorPosition : MI := (yX11_errorPosition, cX11_errorPosition, 1, some .int, 0, 3)
theorem npX11_errorPosition : npar iX11_errorPosition 0 := (by decide +kernel : (parseMethodDescriptor yX11_errorPosition.desc).map (fun d => d.parameters.length) = some 0)
def iX11_failedCommand : MI := (yX11_failedCommand, cX11_failedCommand, 1, some .int, 0, 3)
theorem npX11_failedCommand : npar iX11_failedCommand 0 := (by decide +kernel : (parseMethodDescriptor yX11_failedCommand.desc).map (fun d => d.parameters.length) = some 0)
def iX11_undo : MI := (yX11_undo, cX11_undo, 2, some .int, 0, 3)
theorem npX11_undo : npar iX11_undo 0 := (by decide +kernel : (parseMethodDescriptor yX11_undo.desc).map (fun d => d.parameters.length) = some 0)
def iX11_save : MI := (yX11_save, cX11_save, 1, some .int, 0, 4)
theorem npX11_save : npar iX11_save 0 := (by decide +kernel : (parseMethodDescriptor yX11_save.desc).map (fun d => d.parameters.length) = some 0)
def iX11_restore : MI := (yX11_restore, cX11_restore, 1, some .int, 0, 4)
theorem npX11_restore : npar iX11_restore 0 := (by decide +kernel : (parseMethodDescriptor yX11_restore.desc).map (fun d => d.parameters.length) = some 0)
theorem cvX4_49 : CV RX4 49 iX4_collectOffers 7 := ⟨TX4, 5, rfl, rfl, TBg_at 469 (by decide +kernel), TBg_at 471 (by decide +kernel), TBg_at 0 (by decide +kernel), TBg_at 70 (by decide +kernel), TBg_at 472 (by decide +kernel), by decide +kernel, by decide +kernel⟩
theorem cvX4_59 : CV RX4 59 iX4_bestSumFrom 7 := ⟨TX4, 5, rfl, rfl, TBg_at 474 (by decide +kernel), TBg_at 476 (by decide +kernel), TBg_at 1 (by decide +kernel), TBg_at 70 (by decide +kernel), TBg_at 477 (by decide +kernel), by decide +kernel, by decide +kernel⟩
theorem cvX4_63 : CV RX4 63 iX4_bestSum 7 := ⟨TX4, 5, rfl, rfl, TBg_at 1279 (by decide +kernel), TBg_at 466 (by decide +kernel), TBg_at 467 (by decide +kernel), TBg_at 70 (by decide +kernel), TBg_at 468 (by decide +kernel), by decide +kernel, by decide +kernel⟩
theorem cvX4_67 : CV RX4 67 iX4_firstBestBuyer 7 := ⟨TX4, 5, rfl, rfl, TBg_at 1280 (by decide +kernel), TBg_at 1282 (by decide +kernel), TBg_at 11 (by decide +kernel), TBg_at 70 (by decide +kernel), TBg_at 1283 (by decide +kernel), by decide +kernel, by decide +kernel⟩
theorem cvX4_70 : CV RX4 70 iX4_fillTopOffers 7 := ⟨TX4, 5, rfl, rfl, TBg_at 486 (by decide +kernel), TBg_at 488 (by decide +kernel), TBg_at 2 (by decide +kernel), TBg_at 70 (by decide +kernel), TBg_at 489 (by decide +kernel), by decide +kernel, by decide +kernel⟩
theorem csX4_73_0 : CS RX4 73 (iX4_tryFrom 0) := ⟨TBg_at 493 (by decide +kernel), TBg_at 494 (by decide +kernel), TBg_at 70 (by decide +kernel), TBg_at 495 (by decide +kernel), by decide +kernel, by decide +kernel⟩
theorem csX4_73 (d : Nat) : CS RX4 73 (iX4_tryFrom d) := csX4_73_0
theorem cvX4_82 : CV RX4 82 iX4_hopeFrom 7 := ⟨TX4, 5, rfl, rfl, TBg_at 496 (by decide +kernel), TBg_at 498 (by decide +kernel), TBg_at 3 (by decide +kernel), TBg_at 70 (by decide +kernel), TBg_at 499 (by decide +kernel), by decide +kernel, by decide +kernel⟩
theorem cvX5_25 : CV RX5 25 iX9_copyFrom 2 := ⟨TX9, 6, rfl, rfl, TBg_at 582 (by decide +kernel), TBg_at 549 (by decide +kernel), TBg_at 550 (by decide +kernel), TBg_at 63 (by decide +kernel), TBg_at 551 (by decide +kernel), by decide +kernel, by decide +kernel⟩
theorem cvX7_36 : CV RX7 36 iX7_readCommand 9 := ⟨TX7, 6, rfl, rfl, TBg_at 1484 (by decide +kernel), TBg_at 1486 (by decide +kernel), TBg_at 14 (by decide +kernel), TBg_at 71 (by decide +kernel), TBg_at 1487 (by decide +kernel), by decide +kernel, by decide +kernel⟩
theorem cvX7_47 : CV RX7 47 iX7_match 9 := ⟨TX7, 6, rfl, rfl, TBg_at 1490 (by decide +kernel), TBg_at 1492 (by decide +kernel), TBg_at 15 (by decide +kernel), TBg_at 71 (by decide +kernel), TBg_at 1493 (by decide +kernel), by decide +kernel, by decide +kernel⟩
theorem cvX7_60 : CV RX7 60 iX7_matchSign 9 := ⟨TX7, 6, rfl, rfl, TBg_at 1510 (by decide +kernel), TBg_at 1512 (by decide +kernel), TBg_at 16 (by decide +kernel), TBg_at 71 (by decide +kernel), TBg_at 1513 (by decide +kernel), by decide +kernel, by decide +kernel⟩
theorem csX7_70 : CS RX7 70 iX7_isPlaceholder := ⟨TBg_at 1519 (by decide +kernel), TBg_at 1520 (by decide +kernel), TBg_at 71 (by decide +kernel), TBg_at 1521 (by decide +kernel), by decide +kernel, by decide +kernel⟩
theorem cvX7_74 : CV RX7 74 iX7_numberBetween 9 := ⟨TX7, 6, rfl, rfl, TBg_at 1522 (by decide +kernel), TBg_at 1524 (by decide +kernel), TBg_at 18 (by decide +kernel), TBg_at 71 (by decide +kernel), TBg_at 1525 (by decide +kernel), by decide +kernel, by decide +kernel⟩
theorem cvX7_77 : CV RX7 77 iX7_skipDigits 9 := ⟨TX7, 6, rfl, rfl, TBg_at 1514 (by decide +kernel), TBg_at 1516 (by decide +kernel), TBg_at 17 (by decide +kernel), TBg_at 71 (by decide +kernel), TBg_at 1517 (by decide +kernel), by decide +kernel, by decide +kernel⟩
theorem cvX8_52 : CV RX8 52 iX9_interestByDays 2 := ⟨TX9, 6, rfl, rfl, TBg_at 953 (by decide +kernel), TBg_at 529 (by decide +kernel), TBg_at 530 (by decide +kernel), TBg_at 63 (by decide +kernel), TBg_at 531 (by decide +kernel), by decide +kernel, by decide +kernel⟩
theorem cvX8_58 : CV RX8 58 iX8_fillSets 6 := ⟨TX8, 6, rfl, rfl, TBg_at 958 (by decide +kernel), TBg_at 960 (by decide +kernel), TBg_at 8 (by decide +kernel), TBg_at 69 (by decide +kernel), TBg_at 961 (by decide +kernel), by decide +kernel, by decide +kernel⟩
theorem cvX8_67 : CV RX8 67 iX8_fillTable 6 := ⟨TX8, 6, rfl, rfl, TBg_at 974 (by decide +kernel), TBg_at 976 (by decide +kernel), TBg_at 9 (by decide +kernel), TBg_at 69 (by decide +kernel), TBg_at 977 (by decide +kernel), by decide +kernel, by decide +kernel⟩
theorem cvX8_78 : CV RX8 78 iX8_addToTable 6 := ⟨TX8, 6, rfl, rfl, TBg_at 1197 (by decide +kernel), TBg_at 1199 (by decide +kernel), TBg_at 10 (by decide +kernel), TBg_at 69 (by decide +kernel), TBg_at 1200 (by decide +kernel), by decide +kernel, by decide +kernel⟩
theorem cvX9_42 : CV RX9 42 iX2_copyFrom 3 := ⟨TX2, 2, rfl, rfl, TBg_at 552 (by decide +kernel), TBg_at 553 (by decide +kernel), TBg_at 554 (by decide +kernel), TBg_at 64 (by decide +kernel), TBg_at 555 (by decide +kernel), by decide +kernel, by decide +kernel⟩
theorem cvX9_46 : CV RX9 46 iX1_copyFrom 4 := ⟨TX1, 9, rfl, rfl, TBg_at 559 (by decide +kernel), TBg_at 560 (by decide +kernel), TBg_at 561 (by decide +kernel), TBg_at 66 (by decide +kernel), TBg_at 562 (by decide +kernel), by decide +kernel, by decide +kernel⟩
theorem cvX9_49 : CV RX9 49 iX6_copyFrom 5 := ⟨TX6, 8, rfl, rfl, TBg_at 563 (by decide +kernel), TBg_at 564 (by decide +kernel), TBg_at 565 (by decide +kernel), TBg_at 67 (by decide +kernel), TBg_at 566 (by decide +kernel), by decide +kernel, by decide +kernel⟩
theorem cvX9_55 : CV RX9 55 iX9_indexOf 2 := ⟨TX9, 6, rfl, rfl, TBg_at 718 (by decide +kernel), TBg_at 719 (by decide +kernel), TBg_at 720 (by decide +kernel), TBg_at 63 (by decide +kernel), TBg_at 721 (by decide +kernel), by decide +kernel, by decide +kernel⟩
theorem cvX9_74 : CV RX9 74 iX9_pledgesDueBefore 2 := ⟨TX9, 6, rfl, rfl, TBg_at 907 (by decide +kernel), TBg_at 909 (by decide +kernel), TBg_at 7 (by decide +kernel), TBg_at 63 (by decide +kernel), TBg_at 910 (by decide +kernel), by decide +kernel, by decide +kernel⟩
theorem cvX9_113 : CV RX9 113 iX1_enterPledge 4 := ⟨TX1, 9, rfl, rfl, TBg_at 691 (by decide +kernel), TBg_at 692 (by decide +kernel), TBg_at 693 (by decide +kernel), TBg_at 66 (by decide +kernel), TBg_at 694 (by decide +kernel), by decide +kernel, by decide +kernel⟩
theorem cvX9_117 : CV RX9 117 iX9_requirePledge 2 := ⟨TX9, 6, rfl, rfl, TBg_at 714 (by decide +kernel), TBg_at 715 (by decide +kernel), TBg_at 716 (by decide +kernel), TBg_at 63 (by decide +kernel), TBg_at 717 (by decide +kernel), by decide +kernel, by decide +kernel⟩
theorem cvX9_121 : CV RX9 121 iX9_interestByDays 2 := ⟨TX9, 6, rfl, rfl, TBg_at 528 (by decide +kernel), TBg_at 529 (by decide +kernel), TBg_at 530 (by decide +kernel), TBg_at 63 (by decide +kernel), TBg_at 531 (by decide +kernel), by decide +kernel, by decide +kernel⟩
theorem cvX9_125 : CV RX9 125 iX1_enterRedemption 4 := ⟨TX1, 9, rfl, rfl, TBg_at 738 (by decide +kernel), TBg_at 739 (by decide +kernel), TBg_at 740 (by decide +kernel), TBg_at 66 (by decide +kernel), TBg_at 741 (by decide +kernel), by decide +kernel, by decide +kernel⟩
theorem cvX9_128 : CV RX9 128 iX9_removeAt 2 := ⟨TX9, 6, rfl, rfl, TBg_at 742 (by decide +kernel), TBg_at 744 (by decide +kernel), TBg_at 5 (by decide +kernel), TBg_at 63 (by decide +kernel), TBg_at 745 (by decide +kernel), by decide +kernel, by decide +kernel⟩
theorem cvX9_134 : CV RX9 134 iX1_enterExtension 4 := ⟨TX1, 9, rfl, rfl, TBg_at 758 (by decide +kernel), TBg_at 759 (by decide +kernel), TBg_at 760 (by decide +kernel), TBg_at 66 (by decide +kernel), TBg_at 761 (by decide +kernel), by decide +kernel, by decide +kernel⟩
theorem cvX9_137 : CV RX9 137 iX9_forfeitOverdue 2 := ⟨TX9, 6, rfl, rfl, TBg_at 773 (by decide +kernel), TBg_at 775 (by decide +kernel), TBg_at 6 (by decide +kernel), TBg_at 63 (by decide +kernel), TBg_at 776 (by decide +kernel), by decide +kernel, by decide +kernel⟩
theorem cvX9_156 : CV RX9 156 iX2_sumByDays 3 := ⟨TX2, 2, rfl, rfl, TBg_at 532 (by decide +kernel), TBg_at 533 (by decide +kernel), TBg_at 534 (by decide +kernel), TBg_at 64 (by decide +kernel), TBg_at 535 (by decide +kernel), by decide +kernel, by decide +kernel⟩
theorem cvX9_160 : CV RX9 160 iX2_sumByWeeks 3 := ⟨TX2, 2, rfl, rfl, TBg_at 540 (by decide +kernel), TBg_at 541 (by decide +kernel), TBg_at 542 (by decide +kernel), TBg_at 64 (by decide +kernel), TBg_at 543 (by decide +kernel), by decide +kernel, by decide +kernel⟩
theorem cvX9_163 : CV RX9 163 iX9_requireLot 2 := ⟨TX9, 6, rfl, rfl, TBg_at 1233 (by decide +kernel), TBg_at 1234 (by decide +kernel), TBg_at 1235 (by decide +kernel), TBg_at 63 (by decide +kernel), TBg_at 1236 (by decide +kernel), by decide +kernel, by decide +kernel⟩
theorem cvX9_168 : CV RX9 168 iX6_buyerAlone 5 := ⟨TX6, 8, rfl, rfl, TBg_at 1250 (by decide +kernel), TBg_at 1251 (by decide +kernel), TBg_at 1252 (by decide +kernel), TBg_at 67 (by decide +kernel), TBg_at 1253 (by decide +kernel), by decide +kernel, by decide +kernel⟩
theorem cvX9_173 : CV RX9 173 iX6_priceAlone 5 := ⟨TX6, 8, rfl, rfl, TBg_at 1255 (by decide +kernel), TBg_at 1256 (by decide +kernel), TBg_at 1257 (by decide +kernel), TBg_at 67 (by decide +kernel), TBg_at 1258 (by decide +kernel), by decide +kernel, by decide +kernel⟩
theorem cvX9_176 : CV RX9 176 iX1_enterSale 4 := ⟨TX1, 9, rfl, rfl, TBg_at 1260 (by decide +kernel), TBg_at 1261 (by decide +kernel), TBg_at 1262 (by decide +kernel), TBg_at 66 (by decide +kernel), TBg_at 1263 (by decide +kernel), by decide +kernel, by decide +kernel⟩
theorem cvX9_179 : CV RX9 179 iX4_plan 7 := ⟨TX4, 5, rfl, rfl, TBg_at 1275 (by decide +kernel), TBg_at 1276 (by decide +kernel), TBg_at 1277 (by decide +kernel), TBg_at 70 (by decide +kernel), TBg_at 1278 (by decide +kernel), by decide +kernel, by decide +kernel⟩
theorem cvX9_187 : CV RX9 187 iX4_buyerAt 7 := ⟨TX4, 5, rfl, rfl, TBg_at 1285 (by decide +kernel), TBg_at 1286 (by decide +kernel), TBg_at 1287 (by decide +kernel), TBg_at 70 (by decide +kernel), TBg_at 1288 (by decide +kernel), by decide +kernel, by decide +kernel⟩
theorem cvX9_190 : CV RX9 190 iX9_interestFromWeeks 2 := ⟨TX9, 6, rfl, rfl, TBg_at 536 (by decide +kernel), TBg_at 537 (by decide +kernel), TBg_at 538 (by decide +kernel), TBg_at 63 (by decide +kernel), TBg_at 539 (by decide +kernel), by decide +kernel, by decide +kernel⟩
theorem cvX10_65 : CV RX10 65 iX5_prepare 8 := ⟨TX5, 3, rfl, rfl, TBg_at 578 (by decide +kernel), TBg_at 579 (by decide +kernel), TBg_at 580 (by decide +kernel), TBg_at 68 (by decide +kernel), TBg_at 581 (by decide +kernel), by decide +kernel, by decide +kernel⟩
theorem cvX10_69 : CV RX10 69 iX9_takePledge 2 := ⟨TX9, 6, rfl, rfl, TBg_at 583 (by decide +kernel), TBg_at 584 (by decide +kernel), TBg_at 585 (by decide +kernel), TBg_at 63 (by decide +kernel), TBg_at 586 (by decide +kernel), by decide +kernel, by decide +kernel⟩
theorem cvX10_73 : CV RX10 73 iX5_keepPrepared 8 := ⟨TX5, 3, rfl, rfl, TBg_at 695 (by decide +kernel), TBg_at 696 (by decide +kernel), TBg_at 697 (by decide +kernel), TBg_at 68 (by decide +kernel), TBg_at 698 (by decide +kernel), by decide +kernel, by decide +kernel⟩
theorem cvX10_76 : CV RX10 76 iX9_redeemPledge 2 := ⟨TX9, 6, rfl, rfl, TBg_at 710 (by decide +kernel), TBg_at 711 (by decide +kernel), TBg_at 712 (by decide +kernel), TBg_at 63 (by decide +kernel), TBg_at 713 (by decide +kernel), by decide +kernel, by decide +kernel⟩
theorem cvX10_80 : CV RX10 80 iX9_extendPledge 2 := ⟨TX9, 6, rfl, rfl, TBg_at 753 (by decide +kernel), TBg_at 754 (by decide +kernel), TBg_at 755 (by decide +kernel), TBg_at 63 (by decide +kernel), TBg_at 756 (by decide +kernel), by decide +kernel, by decide +kernel⟩
theorem cvX10_84 : CV RX10 84 iX9_letDaysPass 2 := ⟨TX9, 6, rfl, rfl, TBg_at 769 (by decide +kernel), TBg_at 770 (by decide +kernel), TBg_at 771 (by decide +kernel), TBg_at 63 (by decide +kernel), TBg_at 772 (by decide +kernel), by decide +kernel, by decide +kernel⟩
theorem cvX10_87 : CV RX10 87 iX9_changePrice 2 := ⟨TX9, 6, rfl, rfl, TBg_at 785 (by decide +kernel), TBg_at 786 (by decide +kernel), TBg_at 787 (by decide +kernel), TBg_at 63 (by decide +kernel), TBg_at 788 (by decide +kernel), by decide +kernel, by decide +kernel⟩
theorem cvX10_94 : CV RX10 94 iX2_changeRate 3 := ⟨TX2, 2, rfl, rfl, TBg_at 797 (by decide +kernel), TBg_at 798 (by decide +kernel), TBg_at 799 (by decide +kernel), TBg_at 64 (by decide +kernel), TBg_at 800 (by decide +kernel), by decide +kernel, by decide +kernel⟩
theorem cvX10_125 : CV RX10 125 iX1_coinsFromSums 4 := ⟨TX1, 9, rfl, rfl, TBg_at 434 (by decide +kernel), TBg_at 435 (by decide +kernel), TBg_at 436 (by decide +kernel), TBg_at 66 (by decide +kernel), TBg_at 437 (by decide +kernel), by decide +kernel, by decide +kernel⟩
theorem cvX10_129 : CV RX10 129 iX9_countOf 2 := ⟨TX9, 6, rfl, rfl, TBg_at 442 (by decide +kernel), TBg_at 443 (by decide +kernel), TBg_at 444 (by decide +kernel), TBg_at 63 (by decide +kernel), TBg_at 445 (by decide +kernel), by decide +kernel, by decide +kernel⟩
theorem cvX10_133 : CV RX10 133 iX9_nthOf 2 := ⟨TX9, 6, rfl, rfl, TBg_at 845 (by decide +kernel), TBg_at 846 (by decide +kernel), TBg_at 847 (by decide +kernel), TBg_at 63 (by decide +kernel), TBg_at 848 (by decide +kernel), by decide +kernel, by decide +kernel⟩
theorem cvX10_147 : CV RX10 147 iX9_requirePledge 2 := ⟨TX9, 6, rfl, rfl, TBg_at 869 (by decide +kernel), TBg_at 715 (by decide +kernel), TBg_at 716 (by decide +kernel), TBg_at 63 (by decide +kernel), TBg_at 717 (by decide +kernel), by decide +kernel, by decide +kernel⟩
theorem cvX10_154 : CV RX10 154 iX9_requireItem 2 := ⟨TX9, 6, rfl, rfl, TBg_at 877 (by decide +kernel), TBg_at 878 (by decide +kernel), TBg_at 879 (by decide +kernel), TBg_at 63 (by decide +kernel), TBg_at 880 (by decide +kernel), by decide +kernel, by decide +kernel⟩
theorem cvX10_166 : CV RX10 166 iX9_pledgeOfDueRank 2 := ⟨TX9, 6, rfl, rfl, TBg_at 903 (by decide +kernel), TBg_at 904 (by decide +kernel), TBg_at 905 (by decide +kernel), TBg_at 63 (by decide +kernel), TBg_at 906 (by decide +kernel), by decide +kernel, by decide +kernel⟩
theorem cvX10_174 : CV RX10 174 iX9_interestByDays 2 := ⟨TX9, 6, rfl, rfl, TBg_at 921 (by decide +kernel), TBg_at 529 (by decide +kernel), TBg_at 530 (by decide +kernel), TBg_at 63 (by decide +kernel), TBg_at 531 (by decide +kernel), by decide +kernel, by decide +kernel⟩
theorem cvX10_178 : CV RX10 178 iX9_interestFromWeeks 2 := ⟨TX9, 6, rfl, rfl, TBg_at 929 (by decide +kernel), TBg_at 537 (by decide +kernel), TBg_at 538 (by decide +kernel), TBg_at 63 (by decide +kernel), TBg_at 539 (by decide +kernel), by decide +kernel, by decide +kernel⟩
theorem cvX10_184 : CV RX10 184 iX2_weekdayOfLeastRate 3 := ⟨TX2, 2, rfl, rfl, TBg_at 450 (by decide +kernel), TBg_at 451 (by decide +kernel), TBg_at 452 (by decide +kernel), TBg_at 64 (by decide +kernel), TBg_at 453 (by decide +kernel), by decide +kernel, by decide +kernel⟩
theorem csX10_187 : CS RX10 187 iX10_checkPurse := ⟨TBg_at 945 (by decide +kernel), TBg_at 946 (by decide +kernel), TBg_at 62 (by decide +kernel), TBg_at 947 (by decide +kernel), by decide +kernel, by decide +kernel⟩
theorem cvX10_191 : CV RX10 191 iX8_collect 6 := ⟨TX8, 6, rfl, rfl, TBg_at 949 (by decide +kernel), TBg_at 950 (by decide +kernel), TBg_at 951 (by decide +kernel), TBg_at 69 (by decide +kernel), TBg_at 952 (by decide +kernel), by decide +kernel, by decide +kernel⟩
theorem cvX10_195 : CV RX10 195 iX8_mostBySets 6 := ⟨TX8, 6, rfl, rfl, TBg_at 954 (by decide +kernel), TBg_at 955 (by decide +kernel), TBg_at 956 (by decide +kernel), TBg_at 69 (by decide +kernel), TBg_at 957 (by decide +kernel), by decide +kernel, by decide +kernel⟩
theorem cvX10_198 : CV RX10 198 iX8_mostByTable 6 := ⟨TX8, 6, rfl, rfl, TBg_at 970 (by decide +kernel), TBg_at 971 (by decide +kernel), TBg_at 972 (by decide +kernel), TBg_at 69 (by decide +kernel), TBg_at 973 (by decide +kernel), by decide +kernel, by decide +kernel⟩
theorem cvX10_205 : CV RX10 205 iX8_wholeDebt 6 := ⟨TX8, 6, rfl, rfl, TBg_at 1210 (by decide +kernel), TBg_at 1211 (by decide +kernel), TBg_at 1212 (by decide +kernel), TBg_at 69 (by decide +kernel), TBg_at 1213 (by decide +kernel), by decide +kernel, by decide +kernel⟩
theorem cvX10_210 : CV RX10 210 iX9_placeBid 2 := ⟨TX9, 6, rfl, rfl, TBg_at 1229 (by decide +kernel), TBg_at 1230 (by decide +kernel), TBg_at 1231 (by decide +kernel), TBg_at 63 (by decide +kernel), TBg_at 1232 (by decide +kernel), by decide +kernel, by decide +kernel⟩
theorem cvX10_213 : CV RX10 213 iX9_sellLot 2 := ⟨TX9, 6, rfl, rfl, TBg_at 1246 (by decide +kernel), TBg_at 1247 (by decide +kernel), TBg_at 1248 (by decide +kernel), TBg_at 63 (by decide +kernel), TBg_at 1249 (by decide +kernel), by decide +kernel, by decide +kernel⟩
theorem cvX10_216 : CV RX10 216 iX9_sellLotsOf 2 := ⟨TX9, 6, rfl, rfl, TBg_at 1271 (by decide +kernel), TBg_at 1272 (by decide +kernel), TBg_at 1273 (by decide +kernel), TBg_at 63 (by decide +kernel), TBg_at 1274 (by decide +kernel), by decide +kernel, by decide +kernel⟩
theorem cvX10_222 : CV RX10 222 iX9_requireLot 2 := ⟨TX9, 6, rfl, rfl, TBg_at 1304 (by decide +kernel), TBg_at 1234 (by decide +kernel), TBg_at 1235 (by decide +kernel), TBg_at 63 (by decide +kernel), TBg_at 1236 (by decide +kernel), by decide +kernel, by decide +kernel⟩
theorem cvX10_230 : CV RX10 230 iX6_buyerAlone 5 := ⟨TX6, 8, rfl, rfl, TBg_at 1313 (by decide +kernel), TBg_at 1251 (by decide +kernel), TBg_at 1252 (by decide +kernel), TBg_at 67 (by decide +kernel), TBg_at 1253 (by decide +kernel), by decide +kernel, by decide +kernel⟩
theorem cvX10_235 : CV RX10 235 iX6_priceAlone 5 := ⟨TX6, 8, rfl, rfl, TBg_at 1322 (by decide +kernel), TBg_at 1256 (by decide +kernel), TBg_at 1257 (by decide +kernel), TBg_at 67 (by decide +kernel), TBg_at 1258 (by decide +kernel), by decide +kernel, by decide +kernel⟩
theorem cvX10_238 : CV RX10 238 iX4_bestSum 7 := ⟨TX4, 5, rfl, rfl, TBg_at 465 (by decide +kernel), TBg_at 466 (by decide +kernel), TBg_at 467 (by decide +kernel), TBg_at 70 (by decide +kernel), TBg_at 468 (by decide +kernel), by decide +kernel, by decide +kernel⟩
theorem cvX10_242 : CV RX10 242 iX4_bestSumByTrying 7 := ⟨TX4, 5, rfl, rfl, TBg_at 482 (by decide +kernel), TBg_at 483 (by decide +kernel), TBg_at 484 (by decide +kernel), TBg_at 70 (by decide +kernel), TBg_at 485 (by decide +kernel), by decide +kernel, by decide +kernel⟩
theorem cvX10_245 : CV RX10 245 iX4_plan 7 := ⟨TX4, 5, rfl, rfl, TBg_at 1330 (by decide +kernel), TBg_at 1276 (by decide +kernel), TBg_at 1277 (by decide +kernel), TBg_at 70 (by decide +kernel), TBg_at 1278 (by decide +kernel), by decide +kernel, by decide +kernel⟩
theorem cvX10_248 : CV RX10 248 iX9_indexOf 2 := ⟨TX9, 6, rfl, rfl, TBg_at 1331 (by decide +kernel), TBg_at 719 (by decide +kernel), TBg_at 720 (by decide +kernel), TBg_at 63 (by decide +kernel), TBg_at 721 (by decide +kernel), by decide +kernel, by decide +kernel⟩
theorem cvX10_251 : CV RX10 251 iX4_buyerAt 7 := ⟨TX4, 5, rfl, rfl, TBg_at 1332 (by decide +kernel), TBg_at 1286 (by decide +kernel), TBg_at 1287 (by decide +kernel), TBg_at 70 (by decide +kernel), TBg_at 1288 (by decide +kernel), by decide +kernel, by decide +kernel⟩
theorem cvX10_272 : CV RX10 272 iX9_sumOfPledgedLoans 2 := ⟨TX9, 6, rfl, rfl, TBg_at 1357 (by decide +kernel), TBg_at 1358 (by decide +kernel), TBg_at 1359 (by decide +kernel), TBg_at 63 (by decide +kernel), TBg_at 1360 (by decide +kernel), by decide +kernel, by decide +kernel⟩
theorem cvX10_275 : CV RX10 275 iX9_minutesInStock 2 := ⟨TX9, 6, rfl, rfl, TBg_at 520 (by decide +kernel), TBg_at 521 (by decide +kernel), TBg_at 522 (by decide +kernel), TBg_at 63 (by decide +kernel), TBg_at 523 (by decide +kernel), by decide +kernel, by decide +kernel⟩
theorem cvX10_278 : CV RX10 278 iX9_interestsAgree 2 := ⟨TX9, 6, rfl, rfl, TBg_at 524 (by decide +kernel), TBg_at 525 (by decide +kernel), TBg_at 526 (by decide +kernel), TBg_at 63 (by decide +kernel), TBg_at 527 (by decide +kernel), by decide +kernel, by decide +kernel⟩
theorem cvX10_301 : CV RX10 301 iX10_appendBids 1 := ⟨TX10, 10, rfl, rfl, TBg_at 1429 (by decide +kernel), TBg_at 1431 (by decide +kernel), TBg_at 12 (by decide +kernel), TBg_at 62 (by decide +kernel), TBg_at 1432 (by decide +kernel), by decide +kernel, by decide +kernel⟩
theorem cvX10_305 : CV RX10 305 iX10_appendDueDay 1 := ⟨TX10, 10, rfl, rfl, TBg_at 1434 (by decide +kernel), TBg_at 1436 (by decide +kernel), TBg_at 13 (by decide +kernel), TBg_at 62 (by decide +kernel), TBg_at 1437 (by decide +kernel), by decide +kernel, by decide +kernel⟩
theorem cvX10_330 : CV RX10 330 iX7_add 9 := ⟨TX7, 6, rfl, rfl, TBg_at 1469 (by decide +kernel), TBg_at 1470 (by decide +kernel), TBg_at 1471 (by decide +kernel), TBg_at 71 (by decide +kernel), TBg_at 1472 (by decide +kernel), by decide +kernel, by decide +kernel⟩
theorem cvX10_334 : CV RX10 334 iX7_parse 9 := ⟨TX7, 6, rfl, rfl, TBg_at 1480 (by decide +kernel), TBg_at 1481 (by decide +kernel), TBg_at 1482 (by decide +kernel), TBg_at 71 (by decide +kernel), TBg_at 1483 (by decide +kernel), by decide +kernel, by decide +kernel⟩
theorem cvX10_337 : CV RX10 337 iX7_empty 9 := ⟨TX7, 6, rfl, rfl, TBg_at 1526 (by decide +kernel), TBg_at 1527 (by decide +kernel), TBg_at 1528 (by decide +kernel), TBg_at 71 (by decide +kernel), TBg_at 1529 (by decide +kernel), by decide +kernel, by decide +kernel⟩
theorem cvX10_360 : CV RX10 360 iX5_bringPreparedTo 8 := ⟨TX5, 3, rfl, rfl, TBg_at 1548 (by decide +kernel), TBg_at 1549 (by decide +kernel), TBg_at 1550 (by decide +kernel), TBg_at 68 (by decide +kernel), TBg_at 1551 (by decide +kernel), by decide +kernel, by decide +kernel⟩
theorem cvX10_365 : CV RX10 365 iX10_run 1 := ⟨TX10, 10, rfl, rfl, TBg_at 1536 (by decide +kernel), TBg_at 1538 (by decide +kernel), TBg_at 20 (by decide +kernel), TBg_at 62 (by decide +kernel), TBg_at 1539 (by decide +kernel), by decide +kernel, by decide +kernel⟩
theorem cvX10_390 : CV RX10 390 iX5_stepBack 8 := ⟨TX5, 3, rfl, rfl, TBg_at 1577 (by decide +kernel), TBg_at 1578 (by decide +kernel), TBg_at 1579 (by decide +kernel), TBg_at 68 (by decide +kernel), TBg_at 1580 (by decide +kernel), by decide +kernel, by decide +kernel⟩
theorem cvX10_393 : CV RX10 393 iX9_copyFrom 2 := ⟨TX9, 6, rfl, rfl, TBg_at 548 (by decide +kernel), TBg_at 549 (by decide +kernel), TBg_at 550 (by decide +kernel), TBg_at 63 (by decide +kernel), TBg_at 551 (by decide +kernel), by decide +kernel, by decide +kernel⟩
theorem cvX10_398 : CV RX10 398 iX5_forget 8 := ⟨TX5, 3, rfl, rfl, TBg_at 1589 (by decide +kernel), TBg_at 1590 (by decide +kernel), TBg_at 1591 (by decide +kernel), TBg_at 68 (by decide +kernel), TBg_at 1592 (by decide +kernel), by decide +kernel, by decide +kernel⟩
theorem csX11_53 : CS RX11 53 iX11_lays := ⟨TBg_at 1678 (by decide +kernel), TBg_at 1679 (by decide +kernel), TBg_at 76 (by decide +kernel), TBg_at 1680 (by decide +kernel), by decide +kernel, by decide +kernel⟩
theorem csX11_60 : CS RX11 60 iX11_of := ⟨TBg_at 1692 (by decide +kernel), TBg_at 1693 (by decide +kernel), TBg_at 76 (by decide +kernel), TBg_at 1694 (by decide +kernel), by decide +kernel, by decide +kernel⟩
theorem cvX11_64 : CV RX11 64 iX11_find 30 := ⟨TX11, 22, rfl, rfl, TBg_at 1707 (by decide +kernel), TBg_at 1709 (by decide +kernel), TBg_at 26 (by decide +kernel), TBg_at 76 (by decide +kernel), TBg_at 1710 (by decide +kernel), by decide +kernel, by decide +kernel⟩
theorem cvX11_68 : CV RX11 68 iX11_isLot 30 := ⟨TX11, 22, rfl, rfl, TBg_at 1711 (by decide +kernel), TBg_at 1713 (by decide +kernel), TBg_at 27 (by decide +kernel), TBg_at 76 (by decide +kernel), TBg_at 1714 (by decide +kernel), by decide +kernel, by decide +kernel⟩
theorem csX11_72 : CS RX11 72 iX11_isIn := ⟨TBg_at 1685 (by decide +kernel), TBg_at 1686 (by decide +kernel), TBg_at 76 (by decide +kernel), TBg_at 1687 (by decide +kernel), by decide +kernel, by decide +kernel⟩
theorem cvX11_76 : CV RX11 76 iX11_fail 30 := ⟨TX11, 22, rfl, rfl, TBg_at 1688 (by decide +kernel), TBg_at 1690 (by decide +kernel), TBg_at 23 (by decide +kernel), TBg_at 76 (by decide +kernel), TBg_at 1691 (by decide +kernel), by decide +kernel, by decide +kernel⟩
theorem cvX11_79 : CV RX11 79 iX11_begins 30 := ⟨TX11, 22, rfl, rfl, TBg_at 1674 (by decide +kernel), TBg_at 1676 (by decide +kernel), TBg_at 21 (by decide +kernel), TBg_at 76 (by decide +kernel), TBg_at 1677 (by decide +kernel), by decide +kernel, by decide +kernel⟩
theorem cvX11_82 : CV RX11 82 iX11_pledges 30 := ⟨TX11, 22, rfl, rfl, TBg_at 1681 (by decide +kernel), TBg_at 1683 (by decide +kernel), TBg_at 22 (by decide +kernel), TBg_at 76 (by decide +kernel), TBg_at 1684 (by decide +kernel), by decide +kernel, by decide +kernel⟩
theorem cvX11_86 : CV RX11 86 iX11_ends 30 := ⟨TX11, 22, rfl, rfl, TBg_at 1695 (by decide +kernel), TBg_at 1697 (by decide +kernel), TBg_at 24 (by decide +kernel), TBg_at 76 (by decide +kernel), TBg_at 1698 (by decide +kernel), by decide +kernel, by decide +kernel⟩
theorem cvX11_89 : CV RX11 89 iX11_interest 30 := ⟨TX11, 22, rfl, rfl, TBg_at 1723 (by decide +kernel), TBg_at 1725 (by decide +kernel), TBg_at 30 (by decide +kernel), TBg_at 76 (by decide +kernel), TBg_at 1726 (by decide +kernel), by decide +kernel, by decide +kernel⟩
theorem cvX11_92 : CV RX11 92 iX11_debt 30 := ⟨TX11, 22, rfl, rfl, TBg_at 1719 (by decide +kernel), TBg_at 1721 (by decide +kernel), TBg_at 29 (by decide +kernel), TBg_at 76 (by decide +kernel), TBg_at 1722 (by decide +kernel), by decide +kernel, by decide +kernel⟩
theorem cvX11_95 : CV RX11 95 iX11_goes 30 := ⟨TX11, 22, rfl, rfl, TBg_at 1727 (by decide +kernel), TBg_at 1729 (by decide +kernel), TBg_at 31 (by decide +kernel), TBg_at 76 (by decide +kernel), TBg_at 1730 (by decide +kernel), by decide +kernel, by decide +kernel⟩
theorem cvX11_99 : CV RX11 99 iX11_findOf 30 := ⟨TX11, 22, rfl, rfl, TBg_at 1703 (by decide +kernel), TBg_at 1705 (by decide +kernel), TBg_at 25 (by decide +kernel), TBg_at 76 (by decide +kernel), TBg_at 1706 (by decide +kernel), by decide +kernel, by decide +kernel⟩
theorem cvX11_103 : CV RX11 103 iX11_redeems 30 := ⟨TX11, 22, rfl, rfl, TBg_at 1715 (by decide +kernel), TBg_at 1717 (by decide +kernel), TBg_at 28 (by decide +kernel), TBg_at 76 (by decide +kernel), TBg_at 1718 (by decide +kernel), by decide +kernel, by decide +kernel⟩
theorem cvX11_106 : CV RX11 106 iX11_extends1 30 := ⟨TX11, 22, rfl, rfl, TBg_at 1735 (by decide +kernel), TBg_at 1737 (by decide +kernel), TBg_at 32 (by decide +kernel), TBg_at 76 (by decide +kernel), TBg_at 1738 (by decide +kernel), by decide +kernel, by decide +kernel⟩
theorem cvX11_109 : CV RX11 109 iX11_passes 30 := ⟨TX11, 22, rfl, rfl, TBg_at 1743 (by decide +kernel), TBg_at 1745 (by decide +kernel), TBg_at 33 (by decide +kernel), TBg_at 76 (by decide +kernel), TBg_at 1746 (by decide +kernel), by decide +kernel, by decide +kernel⟩
theorem cvX11_112 : CV RX11 112 iX11_prices 30 := ⟨TX11, 22, rfl, rfl, TBg_at 1751 (by decide +kernel), TBg_at 1753 (by decide +kernel), TBg_at 34 (by decide +kernel), TBg_at 76 (by decide +kernel), TBg_at 1754 (by decide +kernel), by decide +kernel, by decide +kernel⟩
theorem cvX11_115 : CV RX11 115 iX11_rates 30 := ⟨TX11, 22, rfl, rfl, TBg_at 1759 (by decide +kernel), TBg_at 1761 (by decide +kernel), TBg_at 35 (by decide +kernel), TBg_at 76 (by decide +kernel), TBg_at 1762 (by decide +kernel), by decide +kernel, by decide +kernel⟩
theorem cvX11_118 : CV RX11 118 iX11_tells 30 := ⟨TX11, 22, rfl, rfl, TBg_at 1767 (by decide +kernel), TBg_at 1769 (by decide +kernel), TBg_at 36 (by decide +kernel), TBg_at 76 (by decide +kernel), TBg_at 1770 (by decide +kernel), by decide +kernel, by decide +kernel⟩
theorem cvX11_121 : CV RX11 121 iX11_count 30 := ⟨TX11, 22, rfl, rfl, TBg_at 1791 (by decide +kernel), TBg_at 1793 (by decide +kernel), TBg_at 37 (by decide +kernel), TBg_at 76 (by decide +kernel), TBg_at 1794 (by decide +kernel), by decide +kernel, by decide +kernel⟩
theorem cvX11_125 : CV RX11 125 iX11_placed 30 := ⟨TX11, 22, rfl, rfl, TBg_at 1799 (by decide +kernel), TBg_at 1801 (by decide +kernel), TBg_at 38 (by decide +kernel), TBg_at 76 (by decide +kernel), TBg_at 1802 (by decide +kernel), by decide +kernel, by decide +kernel⟩
theorem cvX11_128 : CV RX11 128 iX11_tellsOf 30 := ⟨TX11, 22, rfl, rfl, TBg_at 1807 (by decide +kernel), TBg_at 1809 (by decide +kernel), TBg_at 39 (by decide +kernel), TBg_at 76 (by decide +kernel), TBg_at 1810 (by decide +kernel), by decide +kernel, by decide +kernel⟩
theorem cvX11_131 : CV RX11 131 iX11_interestOf 30 := ⟨TX11, 22, rfl, rfl, TBg_at 1835 (by decide +kernel), TBg_at 1828 (by decide +kernel), TBg_at 1829 (by decide +kernel), TBg_at 76 (by decide +kernel), TBg_at 1830 (by decide +kernel), by decide +kernel, by decide +kernel⟩
theorem cvX11_134 : CV RX11 134 iX11_mostMinutes 30 := ⟨TX11, 22, rfl, rfl, TBg_at 1852 (by decide +kernel), TBg_at 1845 (by decide +kernel), TBg_at 1846 (by decide +kernel), TBg_at 76 (by decide +kernel), TBg_at 1847 (by decide +kernel), by decide +kernel, by decide +kernel⟩
theorem cvX11_137 : CV RX11 137 iX11_offer 30 := ⟨TX11, 22, rfl, rfl, TBg_at 1869 (by decide +kernel), TBg_at 1871 (by decide +kernel), TBg_at 41 (by decide +kernel), TBg_at 76 (by decide +kernel), TBg_at 1872 (by decide +kernel), by decide +kernel, by decide +kernel⟩
theorem cvX11_140 : CV RX11 140 iX11_bids 30 := ⟨TX11, 22, rfl, rfl, TBg_at 1865 (by decide +kernel), TBg_at 1867 (by decide +kernel), TBg_at 40 (by decide +kernel), TBg_at 76 (by decide +kernel), TBg_at 1868 (by decide +kernel), by decide +kernel, by decide +kernel⟩
theorem cvX11_143 : CV RX11 143 iX11_buyer 30 := ⟨TX11, 22, rfl, rfl, TBg_at 1881 (by decide +kernel), TBg_at 1883 (by decide +kernel), TBg_at 43 (by decide +kernel), TBg_at 76 (by decide +kernel), TBg_at 1884 (by decide +kernel), by decide +kernel, by decide +kernel⟩
theorem cvX11_146 : CV RX11 146 iX11_paid 30 := ⟨TX11, 22, rfl, rfl, TBg_at 1885 (by decide +kernel), TBg_at 1887 (by decide +kernel), TBg_at 44 (by decide +kernel), TBg_at 76 (by decide +kernel), TBg_at 1888 (by decide +kernel), by decide +kernel, by decide +kernel⟩
theorem cvX11_149 : CV RX11 149 iX11_sold 30 := ⟨TX11, 22, rfl, rfl, TBg_at 1889 (by decide +kernel), TBg_at 1891 (by decide +kernel), TBg_at 45 (by decide +kernel), TBg_at 76 (by decide +kernel), TBg_at 1892 (by decide +kernel), by decide +kernel, by decide +kernel⟩
theorem cvX11_153 : CV RX11 153 iX11_sells 30 := ⟨TX11, 22, rfl, rfl, TBg_at 1877 (by decide +kernel), TBg_at 1879 (by decide +kernel), TBg_at 42 (by decide +kernel), TBg_at 76 (by decide +kernel), TBg_at 1880 (by decide +kernel), by decide +kernel, by decide +kernel⟩
theorem cvX11_156 : CV RX11 156 iX11_mayGet 30 := ⟨TX11, 22, rfl, rfl, TBg_at 1905 (by decide +kernel), TBg_at 1907 (by decide +kernel), TBg_at 48 (by decide +kernel), TBg_at 76 (by decide +kernel), TBg_at 1908 (by decide +kernel), by decide +kernel, by decide +kernel⟩
theorem cvX11_159 : CV RX11 159 iX11_evenings 30 := ⟨TX11, 22, rfl, rfl, TBg_at 1901 (by decide +kernel), TBg_at 1903 (by decide +kernel), TBg_at 47 (by decide +kernel), TBg_at 76 (by decide +kernel), TBg_at 1904 (by decide +kernel), by decide +kernel, by decide +kernel⟩
theorem cvX11_162 : CV RX11 162 iX11_gets 30 := ⟨TX11, 22, rfl, rfl, TBg_at 1909 (by decide +kernel), TBg_at 1911 (by decide +kernel), TBg_at 49 (by decide +kernel), TBg_at 76 (by decide +kernel), TBg_at 1912 (by decide +kernel), by decide +kernel, by decide +kernel⟩
theorem cvX11_165 : CV RX11 165 iX11_sellsAll 30 := ⟨TX11, 22, rfl, rfl, TBg_at 1897 (by decide +kernel), TBg_at 1899 (by decide +kernel), TBg_at 46 (by decide +kernel), TBg_at 76 (by decide +kernel), TBg_at 1900 (by decide +kernel), by decide +kernel, by decide +kernel⟩
theorem cvX11_169 : CV RX11 169 iX11_bestEvening 30 := ⟨TX11, 22, rfl, rfl, TBg_at 1941 (by decide +kernel), TBg_at 1934 (by decide +kernel), TBg_at 1935 (by decide +kernel), TBg_at 76 (by decide +kernel), TBg_at 1936 (by decide +kernel), by decide +kernel, by decide +kernel⟩
theorem cvX11_175 : CV RX11 175 iX11_writes 30 := ⟨TX11, 22, rfl, rfl, TBg_at 1974 (by decide +kernel), TBg_at 1976 (by decide +kernel), TBg_at 50 (by decide +kernel), TBg_at 76 (by decide +kernel), TBg_at 1977 (by decide +kernel), by decide +kernel, by decide +kernel⟩
theorem cvX11_178 : CV RX11 178 iX11_writesNumber 30 := ⟨TX11, 22, rfl, rfl, TBg_at 1978 (by decide +kernel), TBg_at 1980 (by decide +kernel), TBg_at 51 (by decide +kernel), TBg_at 76 (by decide +kernel), TBg_at 1981 (by decide +kernel), by decide +kernel, by decide +kernel⟩
theorem cvX11_181 : CV RX11 181 iX11_writesThree 30 := ⟨TX11, 22, rfl, rfl, TBg_at 1982 (by decide +kernel), TBg_at 1984 (by decide +kernel), TBg_at 52 (by decide +kernel), TBg_at 76 (by decide +kernel), TBg_at 1985 (by decide +kernel), by decide +kernel, by decide +kernel⟩
theorem cvX11_198 : CV RX11 198 iX11_sign 30 := ⟨TX11, 22, rfl, rfl, TBg_at 2010 (by decide +kernel), TBg_at 2012 (by decide +kernel), TBg_at 56 (by decide +kernel), TBg_at 76 (by decide +kernel), TBg_at 2013 (by decide +kernel), by decide +kernel, by decide +kernel⟩
theorem cvX11_201 : CV RX11 201 iX11_mark 30 := ⟨TX11, 22, rfl, rfl, TBg_at 2022 (by decide +kernel), TBg_at 2024 (by decide +kernel), TBg_at 59 (by decide +kernel), TBg_at 76 (by decide +kernel), TBg_at 2025 (by decide +kernel), by decide +kernel, by decide +kernel⟩
theorem cvX11_204 : CV RX11 204 iX11_digits 30 := ⟨TX11, 22, rfl, rfl, TBg_at 2014 (by decide +kernel), TBg_at 2016 (by decide +kernel), TBg_at 57 (by decide +kernel), TBg_at 76 (by decide +kernel), TBg_at 2017 (by decide +kernel), by decide +kernel, by decide +kernel⟩
theorem cvX11_207 : CV RX11 207 iX11_word 30 := ⟨TX11, 22, rfl, rfl, TBg_at 2006 (by decide +kernel), TBg_at 2008 (by decide +kernel), TBg_at 55 (by decide +kernel), TBg_at 76 (by decide +kernel), TBg_at 2009 (by decide +kernel), by decide +kernel, by decide +kernel⟩
theorem cvX11_210 : CV RX11 210 iX11_behind 30 := ⟨TX11, 22, rfl, rfl, TBg_at 2018 (by decide +kernel), TBg_at 2020 (by decide +kernel), TBg_at 58 (by decide +kernel), TBg_at 76 (by decide +kernel), TBg_at 2021 (by decide +kernel), by decide +kernel, by decide +kernel⟩
theorem cvX11_216 : CV RX11 216 iX11_does 30 := ⟨TX11, 22, rfl, rfl, TBg_at 2026 (by decide +kernel), TBg_at 2028 (by decide +kernel), TBg_at 60 (by decide +kernel), TBg_at 76 (by decide +kernel), TBg_at 2029 (by decide +kernel), by decide +kernel, by decide +kernel⟩
theorem cvX11_220 : CV RX11 220 iX11_command 30 := ⟨TX11, 22, rfl, rfl, TBg_at 2002 (by decide +kernel), TBg_at 2004 (by decide +kernel), TBg_at 54 (by decide +kernel), TBg_at 76 (by decide +kernel), TBg_at 2005 (by decide +kernel), by decide +kernel, by decide +kernel⟩
theorem cvX11_223 : CV RX11 223 iX11_commands 30 := ⟨TX11, 22, rfl, rfl, TBg_at 1998 (by decide +kernel), TBg_at 2000 (by decide +kernel), TBg_at 53 (by decide +kernel), TBg_at 76 (by decide +kernel), TBg_at 2001 (by decide +kernel), by decide +kernel, by decide +kernel⟩
theorem cvL_7 : CV RL 7 iX10_pledge 1 := ⟨TX10, 10, rfl, rfl, TBg_at 574 (by decide +kernel), TBg_at 575 (by decide +kernel), TBg_at 576 (by decide +kernel), TBg_at 62 (by decide +kernel), TBg_at 577 (by decide +kernel), by decide +kernel, by decide +kernel⟩
theorem cvL_19 : CV RL 19 iX10_redeem 1 := ⟨TX10, 10, rfl, rfl, TBg_at 706 (by decide +kernel), TBg_at 707 (by decide +kernel), TBg_at 708 (by decide +kernel), TBg_at 62 (by decide +kernel), TBg_at 709 (by decide +kernel), by decide +kernel, by decide +kernel⟩
theorem cvL_25 : CV RL 25 iX10_extend 1 := ⟨TX10, 10, rfl, rfl, TBg_at 749 (by decide +kernel), TBg_at 750 (by decide +kernel), TBg_at 751 (by decide +kernel), TBg_at 62 (by decide +kernel), TBg_at 752 (by decide +kernel), by decide +kernel, by decide +kernel⟩
theorem cvL_29 : CV RL 29 iX10_passDays 1 := ⟨TX10, 10, rfl, rfl, TBg_at 765 (by decide +kernel), TBg_at 766 (by decide +kernel), TBg_at 767 (by decide +kernel), TBg_at 62 (by decide +kernel), TBg_at 768 (by decide +kernel), by decide +kernel, by decide +kernel⟩
theorem cvL_32 : CV RL 32 iX10_setPrice 1 := ⟨TX10, 10, rfl, rfl, TBg_at 781 (by decide +kernel), TBg_at 782 (by decide +kernel), TBg_at 783 (by decide +kernel), TBg_at 62 (by decide +kernel), TBg_at 784 (by decide +kernel), by decide +kernel, by decide +kernel⟩
theorem cvL_35 : CV RL 35 iX10_setRate 1 := ⟨TX10, 10, rfl, rfl, TBg_at 793 (by decide +kernel), TBg_at 794 (by decide +kernel), TBg_at 795 (by decide +kernel), TBg_at 62 (by decide +kernel), TBg_at 796 (by decide +kernel), by decide +kernel, by decide +kernel⟩
theorem cvL_38 : CV RL 38 iX10_rateOf 1 := ⟨TX10, 10, rfl, rfl, TBg_at 807 (by decide +kernel), TBg_at 808 (by decide +kernel), TBg_at 809 (by decide +kernel), TBg_at 62 (by decide +kernel), TBg_at 810 (by decide +kernel), by decide +kernel, by decide +kernel⟩
theorem cvL_41 : CV RL 41 iX10_pledgeAt 1 := ⟨TX10, 10, rfl, rfl, TBg_at 841 (by decide +kernel), TBg_at 842 (by decide +kernel), TBg_at 843 (by decide +kernel), TBg_at 62 (by decide +kernel), TBg_at 844 (by decide +kernel), by decide +kernel, by decide +kernel⟩
theorem cvL_46 : CV RL 46 iX10_customerOf 1 := ⟨TX10, 10, rfl, rfl, TBg_at 865 (by decide +kernel), TBg_at 866 (by decide +kernel), TBg_at 867 (by decide +kernel), TBg_at 62 (by decide +kernel), TBg_at 868 (by decide +kernel), by decide +kernel, by decide +kernel⟩
theorem cvL_49 : CV RL 49 iX10_minutesOf 1 := ⟨TX10, 10, rfl, rfl, TBg_at 873 (by decide +kernel), TBg_at 874 (by decide +kernel), TBg_at 875 (by decide +kernel), TBg_at 62 (by decide +kernel), TBg_at 876 (by decide +kernel), by decide +kernel, by decide +kernel⟩
theorem cvL_52 : CV RL 52 iX10_loanOf 1 := ⟨TX10, 10, rfl, rfl, TBg_at 885 (by decide +kernel), TBg_at 886 (by decide +kernel), TBg_at 887 (by decide +kernel), TBg_at 62 (by decide +kernel), TBg_at 888 (by decide +kernel), by decide +kernel, by decide +kernel⟩
theorem cvL_55 : CV RL 55 iX10_dueDayOf 1 := ⟨TX10, 10, rfl, rfl, TBg_at 892 (by decide +kernel), TBg_at 893 (by decide +kernel), TBg_at 894 (by decide +kernel), TBg_at 62 (by decide +kernel), TBg_at 895 (by decide +kernel), by decide +kernel, by decide +kernel⟩
theorem cvL_58 : CV RL 58 iX10_pledgeByDueDay 1 := ⟨TX10, 10, rfl, rfl, TBg_at 899 (by decide +kernel), TBg_at 900 (by decide +kernel), TBg_at 901 (by decide +kernel), TBg_at 62 (by decide +kernel), TBg_at 902 (by decide +kernel), by decide +kernel, by decide +kernel⟩
theorem cvL_61 : CV RL 61 iX10_interestOf 1 := ⟨TX10, 10, rfl, rfl, TBg_at 917 (by decide +kernel), TBg_at 918 (by decide +kernel), TBg_at 919 (by decide +kernel), TBg_at 62 (by decide +kernel), TBg_at 920 (by decide +kernel), by decide +kernel, by decide +kernel⟩
theorem cvL_64 : CV RL 64 iX10_interestByWeeks 1 := ⟨TX10, 10, rfl, rfl, TBg_at 925 (by decide +kernel), TBg_at 926 (by decide +kernel), TBg_at 927 (by decide +kernel), TBg_at 62 (by decide +kernel), TBg_at 928 (by decide +kernel), by decide +kernel, by decide +kernel⟩
theorem cvL_67 : CV RL 67 iX10_debtAfter 1 := ⟨TX10, 10, rfl, rfl, TBg_at 933 (by decide +kernel), TBg_at 934 (by decide +kernel), TBg_at 935 (by decide +kernel), TBg_at 62 (by decide +kernel), TBg_at 936 (by decide +kernel), by decide +kernel, by decide +kernel⟩
theorem cvL_70 : CV RL 70 iX10_mostMinutes 1 := ⟨TX10, 10, rfl, rfl, TBg_at 941 (by decide +kernel), TBg_at 942 (by decide +kernel), TBg_at 943 (by decide +kernel), TBg_at 62 (by decide +kernel), TBg_at 944 (by decide +kernel), by decide +kernel, by decide +kernel⟩
theorem cvL_73 : CV RL 73 iX10_mostMinutesByTable 1 := ⟨TX10, 10, rfl, rfl, TBg_at 966 (by decide +kernel), TBg_at 967 (by decide +kernel), TBg_at 968 (by decide +kernel), TBg_at 62 (by decide +kernel), TBg_at 969 (by decide +kernel), by decide +kernel, by decide +kernel⟩
theorem cvL_76 : CV RL 76 iX10_debtOf 1 := ⟨TX10, 10, rfl, rfl, TBg_at 1205 (by decide +kernel), TBg_at 1206 (by decide +kernel), TBg_at 1207 (by decide +kernel), TBg_at 62 (by decide +kernel), TBg_at 1208 (by decide +kernel), by decide +kernel, by decide +kernel⟩
theorem cvL_79 : CV RL 79 iX10_daysToForfeit 1 := ⟨TX10, 10, rfl, rfl, TBg_at 1217 (by decide +kernel), TBg_at 1218 (by decide +kernel), TBg_at 1219 (by decide +kernel), TBg_at 62 (by decide +kernel), TBg_at 1220 (by decide +kernel), by decide +kernel, by decide +kernel⟩
theorem cvL_83 : CV RL 83 iX10_bid 1 := ⟨TX10, 10, rfl, rfl, TBg_at 1225 (by decide +kernel), TBg_at 1226 (by decide +kernel), TBg_at 1227 (by decide +kernel), TBg_at 62 (by decide +kernel), TBg_at 1228 (by decide +kernel), by decide +kernel, by decide +kernel⟩
theorem cvL_86 : CV RL 86 iX10_sell 1 := ⟨TX10, 10, rfl, rfl, TBg_at 1242 (by decide +kernel), TBg_at 1243 (by decide +kernel), TBg_at 1244 (by decide +kernel), TBg_at 62 (by decide +kernel), TBg_at 1245 (by decide +kernel), by decide +kernel, by decide +kernel⟩
theorem cvL_89 : CV RL 89 iX10_sellEvening 1 := ⟨TX10, 10, rfl, rfl, TBg_at 1267 (by decide +kernel), TBg_at 1268 (by decide +kernel), TBg_at 1269 (by decide +kernel), TBg_at 62 (by decide +kernel), TBg_at 1270 (by decide +kernel), by decide +kernel, by decide +kernel⟩
theorem cvL_92 : CV RL 92 iX10_lotAt 1 := ⟨TX10, 10, rfl, rfl, TBg_at 1292 (by decide +kernel), TBg_at 1293 (by decide +kernel), TBg_at 1294 (by decide +kernel), TBg_at 62 (by decide +kernel), TBg_at 1295 (by decide +kernel), by decide +kernel, by decide +kernel⟩
theorem cvL_95 : CV RL 95 iX10_bidOf 1 := ⟨TX10, 10, rfl, rfl, TBg_at 1300 (by decide +kernel), TBg_at 1301 (by decide +kernel), TBg_at 1302 (by decide +kernel), TBg_at 62 (by decide +kernel), TBg_at 1303 (by decide +kernel), by decide +kernel, by decide +kernel⟩
theorem cvL_98 : CV RL 98 iX10_buyerOf 1 := ⟨TX10, 10, rfl, rfl, TBg_at 1309 (by decide +kernel), TBg_at 1310 (by decide +kernel), TBg_at 1311 (by decide +kernel), TBg_at 62 (by decide +kernel), TBg_at 1312 (by decide +kernel), by decide +kernel, by decide +kernel⟩
theorem cvL_101 : CV RL 101 iX10_priceOf 1 := ⟨TX10, 10, rfl, rfl, TBg_at 1318 (by decide +kernel), TBg_at 1319 (by decide +kernel), TBg_at 1320 (by decide +kernel), TBg_at 62 (by decide +kernel), TBg_at 1321 (by decide +kernel), by decide +kernel, by decide +kernel⟩
theorem cvL_104 : CV RL 104 iX10_eveningBuyerOf 1 := ⟨TX10, 10, rfl, rfl, TBg_at 1326 (by decide +kernel), TBg_at 1327 (by decide +kernel), TBg_at 1328 (by decide +kernel), TBg_at 62 (by decide +kernel), TBg_at 1329 (by decide +kernel), by decide +kernel, by decide +kernel⟩
theorem cvL_107 : CV RL 107 iX10_meanLoan 1 := ⟨TX10, 10, rfl, rfl, TBg_at 1351 (by decide +kernel), TBg_at 1352 (by decide +kernel), TBg_at 1353 (by decide +kernel), TBg_at 62 (by decide +kernel), TBg_at 1354 (by decide +kernel), by decide +kernel, by decide +kernel⟩
theorem cvL_113 : CV RL 113 iX10_writeSlip 1 := ⟨TX10, 10, rfl, rfl, TBg_at 1364 (by decide +kernel), TBg_at 1365 (by decide +kernel), TBg_at 1366 (by decide +kernel), TBg_at 62 (by decide +kernel), TBg_at 1367 (by decide +kernel), by decide +kernel, by decide +kernel⟩
theorem cvL_116 : CV RL 116 iX10_slipAt 1 := ⟨TX10, 10, rfl, rfl, TBg_at 1443 (by decide +kernel), TBg_at 1444 (by decide +kernel), TBg_at 1445 (by decide +kernel), TBg_at 62 (by decide +kernel), TBg_at 1446 (by decide +kernel), by decide +kernel, by decide +kernel⟩
theorem cvL_120 : CV RL 120 iX10_type 1 := ⟨TX10, 10, rfl, rfl, TBg_at 1461 (by decide +kernel), TBg_at 1462 (by decide +kernel), TBg_at 1463 (by decide +kernel), TBg_at 62 (by decide +kernel), TBg_at 1464 (by decide +kernel), by decide +kernel, by decide +kernel⟩
theorem cvL_124 : CV RL 124 iX10_execute 1 := ⟨TX10, 10, rfl, rfl, TBg_at 1476 (by decide +kernel), TBg_at 1477 (by decide +kernel), TBg_at 1478 (by decide +kernel), TBg_at 62 (by decide +kernel), TBg_at 1479 (by decide +kernel), by decide +kernel, by decide +kernel⟩
theorem cvL_127 : CV RL 127 iX10_errorPosition 1 := ⟨TX10, 10, rfl, rfl, TBg_at 1556 (by decide +kernel), TBg_at 1557 (by decide +kernel), TBg_at 1558 (by decide +kernel), TBg_at 62 (by decide +kernel), TBg_at 1559 (by decide +kernel), by decide +kernel, by decide +kernel⟩
theorem cvL_130 : CV RL 130 iX10_failedCommand 1 := ⟨TX10, 10, rfl, rfl, TBg_at 1564 (by decide +kernel), TBg_at 1565 (by decide +kernel), TBg_at 1566 (by decide +kernel), TBg_at 62 (by decide +kernel), TBg_at 1567 (by decide +kernel), by decide +kernel, by decide +kernel⟩
theorem cvL_133 : CV RL 133 iX10_undo 1 := ⟨TX10, 10, rfl, rfl, TBg_at 1572 (by decide +kernel), TBg_at 1573 (by decide +kernel), TBg_at 1574 (by decide +kernel), TBg_at 62 (by decide +kernel), TBg_at 1575 (by decide +kernel), by decide +kernel, by decide +kernel⟩
theorem cvL_136 : CV RL 136 iX10_restore 1 := ⟨TX10, 10, rfl, rfl, TBg_at 1584 (by decide +kernel), TBg_at 1585 (by decide +kernel), TBg_at 1586 (by decide +kernel), TBg_at 62 (by decide +kernel), TBg_at 1587 (by decide +kernel), by decide +kernel, by decide +kernel⟩
theorem cvL_148 : CV RL 148 iX11_pledge 30 := ⟨TX11, 22, rfl, rfl, TBg_at 1670 (by decide +kernel), TBg_at 1671 (by decide +kernel), TBg_at 1672 (by decide +kernel), TBg_at 76 (by decide +kernel), TBg_at 1673 (by decide +kernel), by decide +kernel, by decide +kernel⟩
theorem cvL_149 : CV RL 149 iX11_thrown 30 := ⟨TX11, 22, rfl, rfl, TBg_at 1666 (by decide +kernel), TBg_at 1667 (by decide +kernel), TBg_at 1668 (by decide +kernel), TBg_at 76 (by decide +kernel), TBg_at 1669 (by decide +kernel), by decide +kernel, by decide +kernel⟩
theorem cvL_155 : CV RL 155 iX11_redeem 30 := ⟨TX11, 22, rfl, rfl, TBg_at 1699 (by decide +kernel), TBg_at 1700 (by decide +kernel), TBg_at 1701 (by decide +kernel), TBg_at 76 (by decide +kernel), TBg_at 1702 (by decide +kernel), by decide +kernel, by decide +kernel⟩
theorem cvL_159 : CV RL 159 iX11_extend 30 := ⟨TX11, 22, rfl, rfl, TBg_at 1731 (by decide +kernel), TBg_at 1732 (by decide +kernel), TBg_at 1733 (by decide +kernel), TBg_at 76 (by decide +kernel), TBg_at 1734 (by decide +kernel), by decide +kernel, by decide +kernel⟩
theorem cvL_162 : CV RL 162 iX11_passDays 30 := ⟨TX11, 22, rfl, rfl, TBg_at 1739 (by decide +kernel), TBg_at 1740 (by decide +kernel), TBg_at 1741 (by decide +kernel), TBg_at 76 (by decide +kernel), TBg_at 1742 (by decide +kernel), by decide +kernel, by decide +kernel⟩
theorem cvL_165 : CV RL 165 iX11_setPrice 30 := ⟨TX11, 22, rfl, rfl, TBg_at 1747 (by decide +kernel), TBg_at 1748 (by decide +kernel), TBg_at 1749 (by decide +kernel), TBg_at 76 (by decide +kernel), TBg_at 1750 (by decide +kernel), by decide +kernel, by decide +kernel⟩
theorem cvL_168 : CV RL 168 iX11_setRate 30 := ⟨TX11, 22, rfl, rfl, TBg_at 1755 (by decide +kernel), TBg_at 1756 (by decide +kernel), TBg_at 1757 (by decide +kernel), TBg_at 76 (by decide +kernel), TBg_at 1758 (by decide +kernel), by decide +kernel, by decide +kernel⟩
theorem cvL_169 : CV RL 169 iX10_day 1 := ⟨TX10, 10, rfl, rfl, TBg_at 418 (by decide +kernel), TBg_at 419 (by decide +kernel), TBg_at 420 (by decide +kernel), TBg_at 62 (by decide +kernel), TBg_at 421 (by decide +kernel), by decide +kernel, by decide +kernel⟩
theorem cvL_172 : CV RL 172 iX11_day 30 := ⟨TX11, 22, rfl, rfl, TBg_at 1763 (by decide +kernel), TBg_at 1764 (by decide +kernel), TBg_at 1765 (by decide +kernel), TBg_at 76 (by decide +kernel), TBg_at 1766 (by decide +kernel), by decide +kernel, by decide +kernel⟩
theorem cvL_173 : CV RL 173 iX10_price 1 := ⟨TX10, 10, rfl, rfl, TBg_at 422 (by decide +kernel), TBg_at 423 (by decide +kernel), TBg_at 424 (by decide +kernel), TBg_at 62 (by decide +kernel), TBg_at 425 (by decide +kernel), by decide +kernel, by decide +kernel⟩
theorem cvL_176 : CV RL 176 iX11_price 30 := ⟨TX11, 22, rfl, rfl, TBg_at 1771 (by decide +kernel), TBg_at 1772 (by decide +kernel), TBg_at 1773 (by decide +kernel), TBg_at 76 (by decide +kernel), TBg_at 1774 (by decide +kernel), by decide +kernel, by decide +kernel⟩
theorem cvL_179 : CV RL 179 iX11_rateOf 30 := ⟨TX11, 22, rfl, rfl, TBg_at 1775 (by decide +kernel), TBg_at 1776 (by decide +kernel), TBg_at 1777 (by decide +kernel), TBg_at 76 (by decide +kernel), TBg_at 1778 (by decide +kernel), by decide +kernel, by decide +kernel⟩
theorem cvL_180 : CV RL 180 iX10_coins 1 := ⟨TX10, 10, rfl, rfl, TBg_at 426 (by decide +kernel), TBg_at 427 (by decide +kernel), TBg_at 428 (by decide +kernel), TBg_at 62 (by decide +kernel), TBg_at 429 (by decide +kernel), by decide +kernel, by decide +kernel⟩
theorem cvL_183 : CV RL 183 iX11_coins 30 := ⟨TX11, 22, rfl, rfl, TBg_at 1779 (by decide +kernel), TBg_at 1780 (by decide +kernel), TBg_at 1781 (by decide +kernel), TBg_at 76 (by decide +kernel), TBg_at 1782 (by decide +kernel), by decide +kernel, by decide +kernel⟩
theorem cvL_184 : CV RL 184 iX10_coinsByAccounts 1 := ⟨TX10, 10, rfl, rfl, TBg_at 430 (by decide +kernel), TBg_at 431 (by decide +kernel), TBg_at 432 (by decide +kernel), TBg_at 62 (by decide +kernel), TBg_at 433 (by decide +kernel), by decide +kernel, by decide +kernel⟩
theorem cvL_187 : CV RL 187 iX11_coinsByAccounts 30 := ⟨TX11, 22, rfl, rfl, TBg_at 1783 (by decide +kernel), TBg_at 1784 (by decide +kernel), TBg_at 1785 (by decide +kernel), TBg_at 76 (by decide +kernel), TBg_at 1786 (by decide +kernel), by decide +kernel, by decide +kernel⟩
theorem cvL_188 : CV RL 188 iX10_pledgeCount 1 := ⟨TX10, 10, rfl, rfl, TBg_at 438 (by decide +kernel), TBg_at 439 (by decide +kernel), TBg_at 440 (by decide +kernel), TBg_at 62 (by decide +kernel), TBg_at 441 (by decide +kernel), by decide +kernel, by decide +kernel⟩
theorem cvL_191 : CV RL 191 iX11_pledgeCount 30 := ⟨TX11, 22, rfl, rfl, TBg_at 1787 (by decide +kernel), TBg_at 1788 (by decide +kernel), TBg_at 1789 (by decide +kernel), TBg_at 76 (by decide +kernel), TBg_at 1790 (by decide +kernel), by decide +kernel, by decide +kernel⟩
theorem cvL_194 : CV RL 194 iX11_pledgeAt 30 := ⟨TX11, 22, rfl, rfl, TBg_at 1795 (by decide +kernel), TBg_at 1796 (by decide +kernel), TBg_at 1797 (by decide +kernel), TBg_at 76 (by decide +kernel), TBg_at 1798 (by decide +kernel), by decide +kernel, by decide +kernel⟩
theorem cvL_197 : CV RL 197 iX11_customerOf 30 := ⟨TX11, 22, rfl, rfl, TBg_at 1803 (by decide +kernel), TBg_at 1804 (by decide +kernel), TBg_at 1805 (by decide +kernel), TBg_at 76 (by decide +kernel), TBg_at 1806 (by decide +kernel), by decide +kernel, by decide +kernel⟩
theorem cvL_200 : CV RL 200 iX11_minutesOf 30 := ⟨TX11, 22, rfl, rfl, TBg_at 1811 (by decide +kernel), TBg_at 1812 (by decide +kernel), TBg_at 1813 (by decide +kernel), TBg_at 76 (by decide +kernel), TBg_at 1814 (by decide +kernel), by decide +kernel, by decide +kernel⟩
theorem cvL_203 : CV RL 203 iX11_loanOf 30 := ⟨TX11, 22, rfl, rfl, TBg_at 1815 (by decide +kernel), TBg_at 1816 (by decide +kernel), TBg_at 1817 (by decide +kernel), TBg_at 76 (by decide +kernel), TBg_at 1818 (by decide +kernel), by decide +kernel, by decide +kernel⟩
theorem cvL_206 : CV RL 206 iX11_dueDayOf 30 := ⟨TX11, 22, rfl, rfl, TBg_at 1819 (by decide +kernel), TBg_at 1820 (by decide +kernel), TBg_at 1821 (by decide +kernel), TBg_at 76 (by decide +kernel), TBg_at 1822 (by decide +kernel), by decide +kernel, by decide +kernel⟩
theorem cvL_209 : CV RL 209 iX11_pledgeByDueDay 30 := ⟨TX11, 22, rfl, rfl, TBg_at 1823 (by decide +kernel), TBg_at 1824 (by decide +kernel), TBg_at 1825 (by decide +kernel), TBg_at 76 (by decide +kernel), TBg_at 1826 (by decide +kernel), by decide +kernel, by decide +kernel⟩
theorem cvL_212 : CV RL 212 iX11_interestOf 30 := ⟨TX11, 22, rfl, rfl, TBg_at 1827 (by decide +kernel), TBg_at 1828 (by decide +kernel), TBg_at 1829 (by decide +kernel), TBg_at 76 (by decide +kernel), TBg_at 1830 (by decide +kernel), by decide +kernel, by decide +kernel⟩
theorem cvL_215 : CV RL 215 iX11_interestByWeeks 30 := ⟨TX11, 22, rfl, rfl, TBg_at 1831 (by decide +kernel), TBg_at 1832 (by decide +kernel), TBg_at 1833 (by decide +kernel), TBg_at 76 (by decide +kernel), TBg_at 1834 (by decide +kernel), by decide +kernel, by decide +kernel⟩
theorem cvL_218 : CV RL 218 iX11_debtAfter 30 := ⟨TX11, 22, rfl, rfl, TBg_at 1836 (by decide +kernel), TBg_at 1837 (by decide +kernel), TBg_at 1838 (by decide +kernel), TBg_at 76 (by decide +kernel), TBg_at 1839 (by decide +kernel), by decide +kernel, by decide +kernel⟩
theorem cvL_219 : CV RL 219 iX10_cheapestWeekday 1 := ⟨TX10, 10, rfl, rfl, TBg_at 446 (by decide +kernel), TBg_at 447 (by decide +kernel), TBg_at 448 (by decide +kernel), TBg_at 62 (by decide +kernel), TBg_at 449 (by decide +kernel), by decide +kernel, by decide +kernel⟩
theorem cvL_222 : CV RL 222 iX11_cheapestWeekday 30 := ⟨TX11, 22, rfl, rfl, TBg_at 1840 (by decide +kernel), TBg_at 1841 (by decide +kernel), TBg_at 1842 (by decide +kernel), TBg_at 76 (by decide +kernel), TBg_at 1843 (by decide +kernel), by decide +kernel, by decide +kernel⟩
theorem cvL_225 : CV RL 225 iX11_mostMinutes 30 := ⟨TX11, 22, rfl, rfl, TBg_at 1844 (by decide +kernel), TBg_at 1845 (by decide +kernel), TBg_at 1846 (by decide +kernel), TBg_at 76 (by decide +kernel), TBg_at 1847 (by decide +kernel), by decide +kernel, by decide +kernel⟩
theorem cvL_228 : CV RL 228 iX11_mostMinutesByTable 30 := ⟨TX11, 22, rfl, rfl, TBg_at 1848 (by decide +kernel), TBg_at 1849 (by decide +kernel), TBg_at 1850 (by decide +kernel), TBg_at 76 (by decide +kernel), TBg_at 1851 (by decide +kernel), by decide +kernel, by decide +kernel⟩
theorem cvL_231 : CV RL 231 iX11_debtOf 30 := ⟨TX11, 22, rfl, rfl, TBg_at 1853 (by decide +kernel), TBg_at 1854 (by decide +kernel), TBg_at 1855 (by decide +kernel), TBg_at 76 (by decide +kernel), TBg_at 1856 (by decide +kernel), by decide +kernel, by decide +kernel⟩
theorem cvL_235 : CV RL 235 iX11_daysToForfeit 30 := ⟨TX11, 22, rfl, rfl, TBg_at 1857 (by decide +kernel), TBg_at 1858 (by decide +kernel), TBg_at 1859 (by decide +kernel), TBg_at 76 (by decide +kernel), TBg_at 1860 (by decide +kernel), by decide +kernel, by decide +kernel⟩
theorem cvL_238 : CV RL 238 iX11_bid 30 := ⟨TX11, 22, rfl, rfl, TBg_at 1861 (by decide +kernel), TBg_at 1862 (by decide +kernel), TBg_at 1863 (by decide +kernel), TBg_at 76 (by decide +kernel), TBg_at 1864 (by decide +kernel), by decide +kernel, by decide +kernel⟩
theorem cvL_241 : CV RL 241 iX11_sell 30 := ⟨TX11, 22, rfl, rfl, TBg_at 1873 (by decide +kernel), TBg_at 1874 (by decide +kernel), TBg_at 1875 (by decide +kernel), TBg_at 76 (by decide +kernel), TBg_at 1876 (by decide +kernel), by decide +kernel, by decide +kernel⟩
theorem cvL_244 : CV RL 244 iX11_sellEvening 30 := ⟨TX11, 22, rfl, rfl, TBg_at 1893 (by decide +kernel), TBg_at 1894 (by decide +kernel), TBg_at 1895 (by decide +kernel), TBg_at 76 (by decide +kernel), TBg_at 1896 (by decide +kernel), by decide +kernel, by decide +kernel⟩
theorem cvL_245 : CV RL 245 iX10_lotCount 1 := ⟨TX10, 10, rfl, rfl, TBg_at 457 (by decide +kernel), TBg_at 458 (by decide +kernel), TBg_at 459 (by decide +kernel), TBg_at 62 (by decide +kernel), TBg_at 460 (by decide +kernel), by decide +kernel, by decide +kernel⟩
theorem cvL_248 : CV RL 248 iX11_lotCount 30 := ⟨TX11, 22, rfl, rfl, TBg_at 1913 (by decide +kernel), TBg_at 1914 (by decide +kernel), TBg_at 1915 (by decide +kernel), TBg_at 76 (by decide +kernel), TBg_at 1916 (by decide +kernel), by decide +kernel, by decide +kernel⟩
theorem cvL_251 : CV RL 251 iX11_lotAt 30 := ⟨TX11, 22, rfl, rfl, TBg_at 1917 (by decide +kernel), TBg_at 1918 (by decide +kernel), TBg_at 1919 (by decide +kernel), TBg_at 76 (by decide +kernel), TBg_at 1920 (by decide +kernel), by decide +kernel, by decide +kernel⟩
theorem cvL_254 : CV RL 254 iX11_bidOf 30 := ⟨TX11, 22, rfl, rfl, TBg_at 1921 (by decide +kernel), TBg_at 1922 (by decide +kernel), TBg_at 1923 (by decide +kernel), TBg_at 76 (by decide +kernel), TBg_at 1924 (by decide +kernel), by decide +kernel, by decide +kernel⟩
theorem cvL_257 : CV RL 257 iX11_buyerOf 30 := ⟨TX11, 22, rfl, rfl, TBg_at 1925 (by decide +kernel), TBg_at 1926 (by decide +kernel), TBg_at 1927 (by decide +kernel), TBg_at 76 (by decide +kernel), TBg_at 1928 (by decide +kernel), by decide +kernel, by decide +kernel⟩
theorem cvL_260 : CV RL 260 iX11_priceOf 30 := ⟨TX11, 22, rfl, rfl, TBg_at 1929 (by decide +kernel), TBg_at 1930 (by decide +kernel), TBg_at 1931 (by decide +kernel), TBg_at 76 (by decide +kernel), TBg_at 1932 (by decide +kernel), by decide +kernel, by decide +kernel⟩
theorem cvL_261 : CV RL 261 iX10_bestEvening 1 := ⟨TX10, 10, rfl, rfl, TBg_at 461 (by decide +kernel), TBg_at 462 (by decide +kernel), TBg_at 463 (by decide +kernel), TBg_at 62 (by decide +kernel), TBg_at 464 (by decide +kernel), by decide +kernel, by decide +kernel⟩
theorem cvL_264 : CV RL 264 iX11_bestEvening 30 := ⟨TX11, 22, rfl, rfl, TBg_at 1933 (by decide +kernel), TBg_at 1934 (by decide +kernel), TBg_at 1935 (by decide +kernel), TBg_at 76 (by decide +kernel), TBg_at 1936 (by decide +kernel), by decide +kernel, by decide +kernel⟩
theorem cvL_265 : CV RL 265 iX10_bestEveningByTrying 1 := ⟨TX10, 10, rfl, rfl, TBg_at 478 (by decide +kernel), TBg_at 479 (by decide +kernel), TBg_at 480 (by decide +kernel), TBg_at 62 (by decide +kernel), TBg_at 481 (by decide +kernel), by decide +kernel, by decide +kernel⟩
theorem cvL_268 : CV RL 268 iX11_bestEveningByTrying 30 := ⟨TX11, 22, rfl, rfl, TBg_at 1937 (by decide +kernel), TBg_at 1938 (by decide +kernel), TBg_at 1939 (by decide +kernel), TBg_at 76 (by decide +kernel), TBg_at 1940 (by decide +kernel), by decide +kernel, by decide +kernel⟩
theorem cvL_271 : CV RL 271 iX11_eveningBuyerOf 30 := ⟨TX11, 22, rfl, rfl, TBg_at 1942 (by decide +kernel), TBg_at 1943 (by decide +kernel), TBg_at 1944 (by decide +kernel), TBg_at 76 (by decide +kernel), TBg_at 1945 (by decide +kernel), by decide +kernel, by decide +kernel⟩
theorem cvL_272 : CV RL 272 iX10_redeemedMinutes 1 := ⟨TX10, 10, rfl, rfl, TBg_at 500 (by decide +kernel), TBg_at 501 (by decide +kernel), TBg_at 502 (by decide +kernel), TBg_at 62 (by decide +kernel), TBg_at 503 (by decide +kernel), by decide +kernel, by decide +kernel⟩
theorem cvL_275 : CV RL 275 iX11_redeemedMinutes 30 := ⟨TX11, 22, rfl, rfl, TBg_at 1946 (by decide +kernel), TBg_at 1947 (by decide +kernel), TBg_at 1948 (by decide +kernel), TBg_at 76 (by decide +kernel), TBg_at 1949 (by decide +kernel), by decide +kernel, by decide +kernel⟩
theorem cvL_276 : CV RL 276 iX10_forfeitedMinutes 1 := ⟨TX10, 10, rfl, rfl, TBg_at 504 (by decide +kernel), TBg_at 505 (by decide +kernel), TBg_at 506 (by decide +kernel), TBg_at 62 (by decide +kernel), TBg_at 507 (by decide +kernel), by decide +kernel, by decide +kernel⟩
theorem cvL_279 : CV RL 279 iX11_forfeitedMinutes 30 := ⟨TX11, 22, rfl, rfl, TBg_at 1950 (by decide +kernel), TBg_at 1951 (by decide +kernel), TBg_at 1952 (by decide +kernel), TBg_at 76 (by decide +kernel), TBg_at 1953 (by decide +kernel), by decide +kernel, by decide +kernel⟩
theorem cvL_280 : CV RL 280 iX10_soldMinutes 1 := ⟨TX10, 10, rfl, rfl, TBg_at 508 (by decide +kernel), TBg_at 509 (by decide +kernel), TBg_at 510 (by decide +kernel), TBg_at 62 (by decide +kernel), TBg_at 511 (by decide +kernel), by decide +kernel, by decide +kernel⟩
theorem cvL_283 : CV RL 283 iX11_soldMinutes 30 := ⟨TX11, 22, rfl, rfl, TBg_at 1954 (by decide +kernel), TBg_at 1955 (by decide +kernel), TBg_at 1956 (by decide +kernel), TBg_at 76 (by decide +kernel), TBg_at 1957 (by decide +kernel), by decide +kernel, by decide +kernel⟩
theorem cvL_284 : CV RL 284 iX10_pledgedMinutes 1 := ⟨TX10, 10, rfl, rfl, TBg_at 512 (by decide +kernel), TBg_at 513 (by decide +kernel), TBg_at 514 (by decide +kernel), TBg_at 62 (by decide +kernel), TBg_at 515 (by decide +kernel), by decide +kernel, by decide +kernel⟩
theorem cvL_288 : CV RL 288 iX11_pledgedMinutes 30 := ⟨TX11, 22, rfl, rfl, TBg_at 1958 (by decide +kernel), TBg_at 1959 (by decide +kernel), TBg_at 1960 (by decide +kernel), TBg_at 76 (by decide +kernel), TBg_at 1961 (by decide +kernel), by decide +kernel, by decide +kernel⟩
theorem cvL_292 : CV RL 292 iX11_meanLoan 30 := ⟨TX11, 22, rfl, rfl, TBg_at 1962 (by decide +kernel), TBg_at 1963 (by decide +kernel), TBg_at 1964 (by decide +kernel), TBg_at 76 (by decide +kernel), TBg_at 1965 (by decide +kernel), by decide +kernel, by decide +kernel⟩
theorem cvL_293 : CV RL 293 iX10_isConsistent 1 := ⟨TX10, 10, rfl, rfl, TBg_at 516 (by decide +kernel), TBg_at 517 (by decide +kernel), TBg_at 518 (by decide +kernel), TBg_at 62 (by decide +kernel), TBg_at 519 (by decide +kernel), by decide +kernel, by decide +kernel⟩
theorem cvL_297 : CV RL 297 iX11_isConsistent 30 := ⟨TX11, 22, rfl, rfl, TBg_at 1966 (by decide +kernel), TBg_at 1967 (by decide +kernel), TBg_at 1968 (by decide +kernel), TBg_at 76 (by decide +kernel), TBg_at 1969 (by decide +kernel), by decide +kernel, by decide +kernel⟩
theorem cvL_300 : CV RL 300 iX11_writeSlip 30 := ⟨TX11, 22, rfl, rfl, TBg_at 1970 (by decide +kernel), TBg_at 1971 (by decide +kernel), TBg_at 1972 (by decide +kernel), TBg_at 76 (by decide +kernel), TBg_at 1973 (by decide +kernel), by decide +kernel, by decide +kernel⟩
theorem cvL_303 : CV RL 303 iX11_slipAt 30 := ⟨TX11, 22, rfl, rfl, TBg_at 1986 (by decide +kernel), TBg_at 1987 (by decide +kernel), TBg_at 1988 (by decide +kernel), TBg_at 76 (by decide +kernel), TBg_at 1989 (by decide +kernel), by decide +kernel, by decide +kernel⟩
theorem cvL_307 : CV RL 307 iX11_type 30 := ⟨TX11, 22, rfl, rfl, TBg_at 1990 (by decide +kernel), TBg_at 1991 (by decide +kernel), TBg_at 1992 (by decide +kernel), TBg_at 76 (by decide +kernel), TBg_at 1993 (by decide +kernel), by decide +kernel, by decide +kernel⟩
theorem cvL_310 : CV RL 310 iX11_execute 30 := ⟨TX11, 22, rfl, rfl, TBg_at 1994 (by decide +kernel), TBg_at 1995 (by decide +kernel), TBg_at 1996 (by decide +kernel), TBg_at 76 (by decide +kernel), TBg_at 1997 (by decide +kernel), by decide +kernel, by decide +kernel⟩
theorem cvL_313 : CV RL 313 iX11_errorPosition 30 := ⟨TX11, 22, rfl, rfl, TBg_at 2030 (by decide +kernel), TBg_at 2031 (by decide +kernel), TBg_at 2032 (by decide +kernel), TBg_at 76 (by decide +kernel), TBg_at 2033 (by decide +kernel), by decide +kernel, by decide +kernel⟩
theorem cvL_316 : CV RL 316 iX11_failedCommand 30 := ⟨TX11, 22, rfl, rfl, TBg_at 2034 (by decide +kernel), TBg_at 2035 (by decide +kernel), TBg_at 2036 (by decide +kernel), TBg_at 76 (by decide +kernel), TBg_at 2037 (by decide +kernel), by decide +kernel, by decide +kernel⟩
theorem cvL_319 : CV RL 319 iX11_undo 30 := ⟨TX11, 22, rfl, rfl, TBg_at 2038 (by decide +kernel), TBg_at 2039 (by decide +kernel), TBg_at 2040 (by decide +kernel), TBg_at 76 (by decide +kernel), TBg_at 2041 (by decide +kernel), by decide +kernel, by decide +kernel⟩
theorem cvL_320 : CV RL 320 iX10_save 1 := ⟨TX10, 10, rfl, rfl, TBg_at 544 (by decide +kernel), TBg_at 545 (by decide +kernel), TBg_at 546 (by decide +kernel), TBg_at 62 (by decide +kernel), TBg_at 547 (by decide +kernel), by decide +kernel, by decide +kernel⟩
theorem cvL_323 : CV RL 323 iX11_save 30 := ⟨TX11, 22, rfl, rfl, TBg_at 2042 (by decide +kernel), TBg_at 2043 (by decide +kernel), TBg_at 2044 (by decide +kernel), TBg_at 76 (by decide +kernel), TBg_at 2045 (by decide +kernel), by decide +kernel, by decide +kernel⟩
theorem cvL_326 : CV RL 326 iX11_restore 30 := ⟨TX11, 22, rfl, rfl, TBg_at 2046 (by decide +kernel), TBg_at 2047 (by decide +kernel), TBg_at 2048 (by decide +kernel), TBg_at 76 (by decide +kernel), TBg_at 2049 (by decide +kernel), by decide +kernel, by decide +kernel⟩
theorem tgX2_35 : ∀ w ∈ (vz_at RX2 35 "java/lang/IllegalArgumentException" 7 Bundle.six rte).filter goodWord, w ∈ lw_tbl := by decide +kernel
theorem tnX2_35 : ∀ w ∈ (vz_at RX2 35 "java/lang/IllegalArgumentException" 7 Bundle.six rte).filter (fun w => !goodWord w), w ∈ ngW := by decide +kernel
theorem toX2_35 : ∀ w ∈ vz_at RX2 35 "java/lang/IllegalArgumentException" 7 Bundle.six rte, vx_ot w = true := by decide +kernel
theorem tgX9_63 : ∀ w ∈ (vz_at RX9 63 "java/util/NoSuchElementException" 13 prog_42_method_4_code rte).filter goodWord, w ∈ lw_tbl := by decide +kernel
theorem tnX9_63 : ∀ w ∈ (vz_at RX9 63 "java/util/NoSuchElementException" 13 prog_42_method_4_code rte).filter (fun w => !goodWord w), w ∈ ngW := by decide +kernel
theorem toX9_63 : ∀ w ∈ vz_at RX9 63 "java/util/NoSuchElementException" 13 prog_42_method_4_code rte, vx_ot w = true := by decide +kernel
theorem tgX9_84 : ∀ w ∈ (vz_at RX9 84 "java/lang/IllegalArgumentException" 7 Bundle.six rte).filter goodWord, w ∈ lw_tbl := by decide +kernel
theorem tnX9_84 : ∀ w ∈ (vz_at RX9 84 "java/lang/IllegalArgumentException" 7 Bundle.six rte).filter (fun w => !goodWord w), w ∈ ngW := by decide +kernel
theorem toX9_84 : ∀ w ∈ vz_at RX9 84 "java/lang/IllegalArgumentException" 7 Bundle.six rte, vx_ot w = true := by decide +kernel
theorem tgX9_89 : ∀ w ∈ (vz_at RX9 89 "java/lang/IllegalStateException" 7 Bundle.six rte).filter goodWord, w ∈ lw_tbl := by decide +kernel
theorem tnX9_89 : ∀ w ∈ (vz_at RX9 89 "java/lang/IllegalStateException" 7 Bundle.six rte).filter (fun w => !goodWord w), w ∈ ngW := by decide +kernel
theorem toX9_89 : ∀ w ∈ vz_at RX9 89 "java/lang/IllegalStateException" 7 Bundle.six rte, vx_ot w = true := by decide +kernel
theorem tgX9_97 : ∀ w ∈ (vz_at RX9 97 "java/lang/UnsupportedOperationException" 7 Bundle.six rte).filter goodWord, w ∈ lw_tbl := by decide +kernel
theorem tnX9_97 : ∀ w ∈ (vz_at RX9 97 "java/lang/UnsupportedOperationException" 7 Bundle.six rte).filter (fun w => !goodWord w), w ∈ ngW := by decide +kernel
theorem toX9_97 : ∀ w ∈ vz_at RX9 97 "java/lang/UnsupportedOperationException" 7 Bundle.six rte, vx_ot w = true := by decide +kernel
theorem tgX10_109 : ∀ w ∈ (vz_at RX10 109 "java/lang/IllegalArgumentException" 7 Bundle.six rte).filter goodWord, w ∈ lw_tbl := by decide +kernel
theorem tnX10_109 : ∀ w ∈ (vz_at RX10 109 "java/lang/IllegalArgumentException" 7 Bundle.six rte).filter (fun w => !goodWord w), w ∈ ngW := by decide +kernel
theorem toX10_109 : ∀ w ∈ vz_at RX10 109 "java/lang/IllegalArgumentException" 7 Bundle.six rte, vx_ot w = true := by decide +kernel
theorem tgX10_141 : ∀ w ∈ (vz_at RX10 141 "java/lang/IndexOutOfBoundsException" 7 Bundle.six rte).filter goodWord, w ∈ lw_tbl := by decide +kernel
theorem tnX10_141 : ∀ w ∈ (vz_at RX10 141 "java/lang/IndexOutOfBoundsException" 7 Bundle.six rte).filter (fun w => !goodWord w), w ∈ ngW := by decide +kernel
theorem toX10_141 : ∀ w ∈ vz_at RX10 141 "java/lang/IndexOutOfBoundsException" 7 Bundle.six rte, vx_ot w = true := by decide +kernel
theorem tgX10_173 : ∀ w ∈ (vz_at RX10 173 "java/util/NoSuchElementException" 13 prog_42_method_4_code rte).filter goodWord, w ∈ lw_tbl := by decide +kernel
theorem tnX10_173 : ∀ w ∈ (vz_at RX10 173 "java/util/NoSuchElementException" 13 prog_42_method_4_code rte).filter (fun w => !goodWord w), w ∈ ngW := by decide +kernel
theorem toX10_173 : ∀ w ∈ vz_at RX10 173 "java/util/NoSuchElementException" 13 prog_42_method_4_code rte, vx_ot w = true := by decide +kernel
theorem tgX10_271 : ∀ w ∈ (vz_at RX10 271 "java/lang/ArithmeticException" 7 Bundle.six rte).filter goodWord, w ∈ lw_tbl := by decide +kernel
theorem tnX10_271 : ∀ w ∈ (vz_at RX10 271 "java/lang/ArithmeticException" 7 Bundle.six rte).filter (fun w => !goodWord w), w ∈ ngW := by decide +kernel
theorem toX10_271 : ∀ w ∈ vz_at RX10 271 "java/lang/ArithmeticException" 7 Bundle.six rte, vx_ot w = true := by decide +kernel
theorem tgX10_329 : ∀ w ∈ (vz_at RX10 329 "java/lang/IllegalStateException" 7 Bundle.six rte).filter goodWord, w ∈ lw_tbl := by decide +kernel
theorem tnX10_329 : ∀ w ∈ (vz_at RX10 329 "java/lang/IllegalStateException" 7 Bundle.six rte).filter (fun w => !goodWord w), w ∈ ngW := by decide +kernel
theorem toX10_329 : ∀ w ∈ vz_at RX10 329 "java/lang/IllegalStateException" 7 Bundle.six rte, vx_ot w = true := by decide +kernel
theorem thX2_33_35 : TH RX2 31 33 35 "java/lang/IllegalArgumentException" "weekday or rate out of range" := ⟨7, Bundle.six, ⟨by decide +kernel, by decide +kernel, by decide +kernel, by decide +kernel⟩, by decide +kernel, TBg_at 801 (by decide +kernel), TBg_at 81 (by decide +kernel), by decide +kernel, tgX2_35, tnX2_35, toX2_35⟩
theorem thX9_61_63 : TH RX9 59 61 63 "java/util/NoSuchElementException" "no such pledge or lot" := ⟨13, prog_42_method_4_code, ⟨by decide +kernel, by decide +kernel, by decide +kernel, by decide +kernel⟩, by decide +kernel, TBg_at 722 (by decide +kernel), TBg_at 85 (by decide +kernel), by decide +kernel, tgX9_63, tnX9_63, toX9_63⟩
theorem thX9_70_63 : TH RX9 59 70 63 "java/util/NoSuchElementException" "no such pledge" := ⟨13, prog_42_method_4_code, ⟨by decide +kernel, by decide +kernel, by decide +kernel, by decide +kernel⟩, by decide +kernel, TBg_at 722 (by decide +kernel), TBg_at 85 (by decide +kernel), by decide +kernel, tgX9_63, tnX9_63, toX9_63⟩
theorem thX9_72_63 : TH RX9 59 72 63 "java/util/NoSuchElementException" "no such lot" := ⟨13, prog_42_method_4_code, ⟨by decide +kernel, by decide +kernel, by decide +kernel, by decide +kernel⟩, by decide +kernel, TBg_at 722 (by decide +kernel), TBg_at 85 (by decide +kernel), by decide +kernel, tgX9_63, tnX9_63, toX9_63⟩
theorem thX9_82_84 : TH RX9 80 82 84 "java/lang/IllegalArgumentException" "customer, minutes or term out of range" := ⟨7, Bundle.six, ⟨by decide +kernel, by decide +kernel, by decide +kernel, by decide +kernel⟩, by decide +kernel, TBg_at 587 (by decide +kernel), TBg_at 81 (by decide +kernel), by decide +kernel, tgX9_84, tnX9_84, toX9_84⟩
theorem thX9_87_89 : TH RX9 85 87 89 "java/lang/IllegalStateException" "no room for a pledge" := ⟨7, Bundle.six, ⟨by decide +kernel, by decide +kernel, by decide +kernel, by decide +kernel⟩, by decide +kernel, TBg_at 659 (by decide +kernel), TBg_at 82 (by decide +kernel), by decide +kernel, tgX9_89, tnX9_89, toX9_89⟩
theorem thX9_95_97 : TH RX9 93 95 97 "java/lang/UnsupportedOperationException" "too few coins for the loan" := ⟨7, Bundle.six, ⟨by decide +kernel, by decide +kernel, by decide +kernel, by decide +kernel⟩, by decide +kernel, TBg_at 675 (by decide +kernel), TBg_at 83 (by decide +kernel), by decide +kernel, tgX9_97, tnX9_97, toX9_97⟩
theorem thX9_132_84 : TH RX9 80 132 84 "java/lang/IllegalArgumentException" "days out of range" := ⟨7, Bundle.six, ⟨by decide +kernel, by decide +kernel, by decide +kernel, by decide +kernel⟩, by decide +kernel, TBg_at 587 (by decide +kernel), TBg_at 81 (by decide +kernel), by decide +kernel, tgX9_84, tnX9_84, toX9_84⟩
theorem thX9_154_84 : TH RX9 80 154 84 "java/lang/IllegalArgumentException" "price out of range" := ⟨7, Bundle.six, ⟨by decide +kernel, by decide +kernel, by decide +kernel, by decide +kernel⟩, by decide +kernel, TBg_at 587 (by decide +kernel), TBg_at 81 (by decide +kernel), by decide +kernel, tgX9_84, tnX9_84, toX9_84⟩
theorem thX9_166_84 : TH RX9 80 166 84 "java/lang/IllegalArgumentException" "bidder or bid out of range" := ⟨7, Bundle.six, ⟨by decide +kernel, by decide +kernel, by decide +kernel, by decide +kernel⟩, by decide +kernel, TBg_at 587 (by decide +kernel), TBg_at 81 (by decide +kernel), by decide +kernel, tgX9_84, tnX9_84, toX9_84⟩
theorem thX9_171_89 : TH RX9 85 171 89 "java/lang/IllegalStateException" "no bid is as high as the loan" := ⟨7, Bundle.six, ⟨by decide +kernel, by decide +kernel, by decide +kernel, by decide +kernel⟩, by decide +kernel, TBg_at 659 (by decide +kernel), TBg_at 82 (by decide +kernel), by decide +kernel, tgX9_89, tnX9_89, toX9_89⟩
theorem thX9_185_89 : TH RX9 85 185 89 "java/lang/IllegalStateException" "no lot can be sold" := ⟨7, Bundle.six, ⟨by decide +kernel, by decide +kernel, by decide +kernel, by decide +kernel⟩, by decide +kernel, TBg_at 659 (by decide +kernel), TBg_at 82 (by decide +kernel), by decide +kernel, tgX9_89, tnX9_89, toX9_89⟩
theorem thX10_107_109 : TH RX10 105 107 109 "java/lang/IllegalArgumentException" "no such weekday" := ⟨7, Bundle.six, ⟨by decide +kernel, by decide +kernel, by decide +kernel, by decide +kernel⟩, by decide +kernel, TBg_at 811 (by decide +kernel), TBg_at 81 (by decide +kernel), by decide +kernel, tgX10_109, tnX10_109, toX10_109⟩
theorem thX10_139_141 : TH RX10 137 139 141 "java/lang/IndexOutOfBoundsException" "no pledge at this position" := ⟨7, Bundle.six, ⟨by decide +kernel, by decide +kernel, by decide +kernel, by decide +kernel⟩, by decide +kernel, TBg_at 849 (by decide +kernel), TBg_at 86 (by decide +kernel), by decide +kernel, tgX10_141, tnX10_141, toX10_141⟩
theorem thX10_171_173 : TH RX10 169 171 173 "java/util/NoSuchElementException" "no such place" := ⟨13, prog_42_method_4_code, ⟨by decide +kernel, by decide +kernel, by decide +kernel, by decide +kernel⟩, by decide +kernel, TBg_at 911 (by decide +kernel), TBg_at 85 (by decide +kernel), by decide +kernel, tgX10_173, tnX10_173, toX10_173⟩
theorem thX10_182_109 : TH RX10 105 182 109 "java/lang/IllegalArgumentException" "days out of range" := ⟨7, Bundle.six, ⟨by decide +kernel, by decide +kernel, by decide +kernel, by decide +kernel⟩, by decide +kernel, TBg_at 811 (by decide +kernel), TBg_at 81 (by decide +kernel), by decide +kernel, tgX10_109, tnX10_109, toX10_109⟩
theorem thX10_201_109 : TH RX10 105 201 109 "java/lang/IllegalArgumentException" "customer or coins out of range" := ⟨7, Bundle.six, ⟨by decide +kernel, by decide +kernel, by decide +kernel, by decide +kernel⟩, by decide +kernel, TBg_at 811 (by decide +kernel), TBg_at 81 (by decide +kernel), by decide +kernel, tgX10_109, tnX10_109, toX10_109⟩
theorem thX10_203_109 : TH RX10 105 203 109 "java/lang/IllegalArgumentException" "no such customer" := ⟨7, Bundle.six, ⟨by decide +kernel, by decide +kernel, by decide +kernel, by decide +kernel⟩, by decide +kernel, TBg_at 811 (by decide +kernel), TBg_at 81 (by decide +kernel), by decide +kernel, tgX10_109, tnX10_109, toX10_109⟩
theorem thX10_208_173 : TH RX10 169 208 173 "java/util/NoSuchElementException" "no pledges" := ⟨13, prog_42_method_4_code, ⟨by decide +kernel, by decide +kernel, by decide +kernel, by decide +kernel⟩, by decide +kernel, TBg_at 911 (by decide +kernel), TBg_at 85 (by decide +kernel), by decide +kernel, tgX10_173, tnX10_173, toX10_173⟩
theorem thX10_220_141 : TH RX10 137 220 141 "java/lang/IndexOutOfBoundsException" "no lot at this position" := ⟨7, Bundle.six, ⟨by decide +kernel, by decide +kernel, by decide +kernel, by decide +kernel⟩, by decide +kernel, TBg_at 849 (by decide +kernel), TBg_at 86 (by decide +kernel), by decide +kernel, tgX10_141, tnX10_141, toX10_141⟩
theorem thX10_225_109 : TH RX10 105 225 109 "java/lang/IllegalArgumentException" "no such bidder" := ⟨7, Bundle.six, ⟨by decide +kernel, by decide +kernel, by decide +kernel, by decide +kernel⟩, by decide +kernel, TBg_at 811 (by decide +kernel), TBg_at 81 (by decide +kernel), by decide +kernel, tgX10_109, tnX10_109, toX10_109⟩
theorem thX10_233_173 : TH RX10 169 233 173 "java/util/NoSuchElementException" "no bid is as high as the loan" := ⟨13, prog_42_method_4_code, ⟨by decide +kernel, by decide +kernel, by decide +kernel, by decide +kernel⟩, by decide +kernel, TBg_at 911 (by decide +kernel), TBg_at 85 (by decide +kernel), by decide +kernel, tgX10_173, tnX10_173, toX10_173⟩
theorem thX10_254_173 : TH RX10 169 254 173 "java/util/NoSuchElementException" "the lot would not be sold" := ⟨13, prog_42_method_4_code, ⟨by decide +kernel, by decide +kernel, by decide +kernel, by decide +kernel⟩, by decide +kernel, TBg_at 911 (by decide +kernel), TBg_at 85 (by decide +kernel), by decide +kernel, tgX10_173, tnX10_173, toX10_173⟩
theorem thX10_208_271 : TH RX10 269 208 271 "java/lang/ArithmeticException" "no pledges" := ⟨7, Bundle.six, ⟨by decide +kernel, by decide +kernel, by decide +kernel, by decide +kernel⟩, by decide +kernel, TBg_at 1355 (by decide +kernel), TBg_at 93 (by decide +kernel), by decide +kernel, tgX10_271, tnX10_271, toX10_271⟩
theorem thX10_315_141 : TH RX10 137 315 141 "java/lang/IndexOutOfBoundsException" "no such character" := ⟨7, Bundle.six, ⟨by decide +kernel, by decide +kernel, by decide +kernel, by decide +kernel⟩, by decide +kernel, TBg_at 849 (by decide +kernel), TBg_at 86 (by decide +kernel), by decide +kernel, tgX10_141, tnX10_141, toX10_141⟩
theorem thX10_321_109 : TH RX10 105 321 109 "java/lang/IllegalArgumentException" "character out of range" := ⟨7, Bundle.six, ⟨by decide +kernel, by decide +kernel, by decide +kernel, by decide +kernel⟩, by decide +kernel, TBg_at 811 (by decide +kernel), TBg_at 81 (by decide +kernel), by decide +kernel, tgX10_109, tnX10_109, toX10_109⟩
theorem thX10_327_329 : TH RX10 325 327 329 "java/lang/IllegalStateException" "the buffer is full" := ⟨7, Bundle.six, ⟨by decide +kernel, by decide +kernel, by decide +kernel, by decide +kernel⟩, by decide +kernel, TBg_at 1466 (by decide +kernel), TBg_at 82 (by decide +kernel), by decide +kernel, tgX10_329, tnX10_329, toX10_329⟩
theorem thX10_343_109 : TH RX10 105 343 109 "java/lang/IllegalArgumentException" "malformed program" := ⟨7, Bundle.six, ⟨by decide +kernel, by decide +kernel, by decide +kernel, by decide +kernel⟩, by decide +kernel, TBg_at 811 (by decide +kernel), TBg_at 81 (by decide +kernel), by decide +kernel, tgX10_109, tnX10_109, toX10_109⟩
theorem thX10_363_329 : TH RX10 325 363 329 "java/lang/IllegalStateException" "a command failed" := ⟨7, Bundle.six, ⟨by decide +kernel, by decide +kernel, by decide +kernel, by decide +kernel⟩, by decide +kernel, TBg_at 1466 (by decide +kernel), TBg_at 82 (by decide +kernel), by decide +kernel, tgX10_329, tnX10_329, toX10_329⟩
theorem thX10_381_173 : TH RX10 169 381 173 "java/util/NoSuchElementException" "no program was malformed" := ⟨13, prog_42_method_4_code, ⟨by decide +kernel, by decide +kernel, by decide +kernel, by decide +kernel⟩, by decide +kernel, TBg_at 911 (by decide +kernel), TBg_at 85 (by decide +kernel), by decide +kernel, tgX10_173, tnX10_173, toX10_173⟩
theorem thX10_383_173 : TH RX10 169 383 173 "java/util/NoSuchElementException" "no command failed" := ⟨13, prog_42_method_4_code, ⟨by decide +kernel, by decide +kernel, by decide +kernel, by decide +kernel⟩, by decide +kernel, TBg_at 911 (by decide +kernel), TBg_at 85 (by decide +kernel), by decide +kernel, tgX10_173, tnX10_173, toX10_173⟩
theorem thX10_388_329 : TH RX10 325 388 329 "java/lang/IllegalStateException" "nothing can be undone" := ⟨7, Bundle.six, ⟨by decide +kernel, by decide +kernel, by decide +kernel, by decide +kernel⟩, by decide +kernel, TBg_at 1466 (by decide +kernel), TBg_at 82 (by decide +kernel), by decide +kernel, tgX10_329, tnX10_329, toX10_329⟩
theorem thX10_396_329 : TH RX10 325 396 329 "java/lang/IllegalStateException" "no snapshot" := ⟨7, Bundle.six, ⟨by decide +kernel, by decide +kernel, by decide +kernel, by decide +kernel⟩, by decide +kernel, TBg_at 1466 (by decide +kernel), TBg_at 82 (by decide +kernel), by decide +kernel, tgX10_329, tnX10_329, toX10_329⟩
