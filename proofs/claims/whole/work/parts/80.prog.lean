/-! printed by wip/whole/valid.py: the program, its links -/
def mX0_init : am_M := (yX0_init, cX0_init, 1, none, 0, eX0_init, uX0_init)
def mX0_weigh : am_M := (yX0_weigh, cX0_weigh, 4, none, 0, eX0_weigh, uX0_weigh)
def mX0_findBest : am_M := (yX0_findBest, cX0_findBest, 9, (some .int), 0, eX0_findBest, uX0_findBest)
def mX0_mostBySet : am_M := (yX0_mostBySet, cX0_mostBySet, 6, (some .int), 0, eX0_mostBySet, uX0_mostBySet)
def mX0_bySet : am_M := (yX0_bySet, cX0_bySet, 4, (some .int), 0, eX0_bySet, uX0_bySet)
def mX0_findBestSet : am_M := (yX0_findBestSet, cX0_findBestSet, 7, (some .int), 0, eX0_findBestSet, uX0_findBestSet)
def mX0_firstBest : am_M := (yX0_firstBest, cX0_firstBest, 5, (some .int), 0, eX0_firstBest, uX0_firstBest)
def mX0_makeTrades : am_M := (yX0_makeTrades, cX0_makeTrades, 6, none, 0, eX0_makeTrades, uX0_makeTrades)
def mX0_firstSetOf : am_M := (yX0_firstSetOf, cX0_firstSetOf, 3, (some .int), 99, eX0_firstSetOf, uX0_firstSetOf)
def mX0_pointsTo : am_M := (yX0_pointsTo, cX0_pointsTo, 6, (some .int), 0, eX0_pointsTo, uX0_pointsTo)
def mX0_isBetter : am_M := (yX0_isBetter, cX0_isBetter, 5, (some .boolean), 0, eX0_isBetter, uX0_isBetter)
def mX0_leaveInRings : am_M := (yX0_leaveInRings, cX0_leaveInRings, 5, (some .int), 0, eX0_leaveInRings, uX0_leaveInRings)
def mX0_isInRing : am_M := (yX0_isInRing, cX0_isInRing, 4, (some .boolean), 0, eX0_isInRing, uX0_isInRing)
def mX0_mostWorth : am_M := (yX0_mostWorth, cX0_mostWorth, 6, (some .int), 0, eX0_mostWorth, uX0_mostWorth)
def mX0_findPick : am_M := (yX0_findPick, cX0_findPick, 7, (some .int), 0, eX0_findPick, uX0_findPick)
def mX0_firstMost : am_M := (yX0_firstMost, cX0_firstMost, 7, (some .int), 0, eX0_firstMost, uX0_firstMost)
def mX0_playGame : am_M := (yX0_playGame, cX0_playGame, 10, (some .int), 0, eX0_playGame, uX0_playGame)
def mX0_firstsBest : am_M := (yX0_firstsBest, cX0_firstsBest, 7, (some .int), 0, eX0_firstsBest, uX0_firstsBest)
def mX0_secondsBest : am_M := (yX0_secondsBest, cX0_secondsBest, 7, (some .int), 0, eX0_secondsBest, uX0_secondsBest)
def mX0_findMove : am_M := (yX0_findMove, cX0_findMove, 8, (some .int), 0, eX0_findMove, uX0_findMove)
def mX1_init : am_M := (yX1_init, cX1_init, 1, none, 1, eX1_init, uX1_init)
def mX1_clear : am_M := (yX1_clear, cX1_clear, 1, none, 1, eX1_clear, uX1_clear)
def mX1_take : am_M := (yX1_take, cX1_take, 2, none, 1, eX1_take, uX1_take)
def mX2_init : am_M := (yX2_init, cX2_init, 2, none, 2, eX2_init, uX2_init)
def mX2_readsFor : am_M := (yX2_readsFor, cX2_readsFor, 3, (some .boolean), 2, eX2_readsFor, uX2_readsFor)
def mX2_readsNext : am_M := (yX2_readsNext, cX2_readsNext, 3, (some .boolean), 2, eX2_readsNext, uX2_readsNext)
def mX2_isStep : am_M := (yX2_isStep, cX2_isStep, 1, (some .boolean), 99, eX2_isStep, uX2_isStep)
def mX2_adds : am_M := (yX2_adds, cX2_adds, 3, (some .int), 2, eX2_adds, uX2_adds)
def mX2_readsEnd : am_M := (yX2_readsEnd, cX2_readsEnd, 2, (some .boolean), 2, eX2_readsEnd, uX2_readsEnd)
def mX2_readsTestWord : am_M := (yX2_readsTestWord, cX2_readsTestWord, 3, (some .boolean), 2, eX2_readsTestWord, uX2_readsTestWord)
def mX2_readsRest : am_M := (yX2_readsRest, cX2_readsRest, 2, (some .boolean), 2, eX2_readsRest, uX2_readsRest)
def mX2_readsCompares : am_M := (yX2_readsCompares, cX2_readsCompares, 3, (some .boolean), 2, eX2_readsCompares, uX2_readsCompares)
def mX2_readsFirst : am_M := (yX2_readsFirst, cX2_readsFirst, 3, (some .boolean), 2, eX2_readsFirst, uX2_readsFirst)
def mX2_readsSecond : am_M := (yX2_readsSecond, cX2_readsSecond, 3, (some .boolean), 2, eX2_readsSecond, uX2_readsSecond)
def mX3_init : am_M := (yX3_init, cX3_init, 1, none, 3, eX3_init, uX3_init)
def mX3_play : am_M := (yX3_play, cX3_play, 7, none, 3, eX3_play, uX3_play)
def mX3_placeBehindEnd : am_M := (yX3_placeBehindEnd, cX3_placeBehindEnd, 4, (some .int), 3, eX3_placeBehindEnd, uX3_placeBehindEnd)
def mX3_placeBehindOpener : am_M := (yX3_placeBehindOpener, cX3_placeBehindOpener, 3, (some .int), 3, eX3_placeBehindOpener, uX3_placeBehindOpener)
def mX3_holds : am_M := (yX3_holds, cX3_holds, 7, (some .boolean), 99, eX3_holds, uX3_holds)
def mX3_does : am_M := (yX3_does, cX3_does, 6, (some .boolean), 3, eX3_does, uX3_does)
def mX3_doesHours : am_M := (yX3_doesHours, cX3_doesHours, 3, (some .boolean), 3, eX3_doesHours, uX3_doesHours)
def mX3_doesYears : am_M := (yX3_doesYears, cX3_doesYears, 3, (some .boolean), 3, eX3_doesYears, uX3_doesYears)
def mX3_doesAny : am_M := (yX3_doesAny, cX3_doesAny, 5, (some .boolean), 3, eX3_doesAny, uX3_doesAny)
def mX3_draw : am_M := (yX3_draw, cX3_draw, 2, (some .int), 3, eX3_draw, uX3_draw)
def mX4_init : am_M := (yX4_init, cX4_init, 5, none, 4, eX4_init, uX4_init)
def mX4_open : am_M := (yX4_open, cX4_open, 2, none, 4, eX4_open, uX4_open)
def mX4_advance : am_M := (yX4_advance, cX4_advance, 2, none, 4, eX4_advance, uX4_advance)
def mX4_advanceWord : am_M := (yX4_advanceWord, cX4_advanceWord, 2, none, 4, eX4_advanceWord, uX4_advanceWord)
def mX4_advanceNumber : am_M := (yX4_advanceNumber, cX4_advanceNumber, 1, none, 4, eX4_advanceNumber, uX4_advanceNumber)
def mX4_fail : am_M := (yX4_fail, cX4_fail, 2, (some .boolean), 4, eX4_fail, uX4_fail)
def mX4_refuses : am_M := (yX4_refuses, cX4_refuses, 1, (some .boolean), 4, eX4_refuses, uX4_refuses)
def mX4_takes : am_M := (yX4_takes, cX4_takes, 2, (some .boolean), 4, eX4_takes, uX4_takes)
def mX4_takesNumber : am_M := (yX4_takesNumber, cX4_takesNumber, 3, (some .boolean), 4, eX4_takesNumber, uX4_takesNumber)
def mX4_isNameOf : am_M := (yX4_isNameOf, cX4_isNameOf, 3, (some .boolean), 4, eX4_isNameOf, uX4_isNameOf)
def mX4_takesName : am_M := (yX4_takesName, cX4_takesName, 3, (some .boolean), 4, eX4_takesName, uX4_takesName)
def mX4_takesNewName : am_M := (yX4_takesNewName, cX4_takesNewName, 3, (some .boolean), 4, eX4_takesNewName, uX4_takesNewName)
def mX5_init : am_M := (yX5_init, cX5_init, 1, none, 5, eX5_init, uX5_init)
def mX5_clear : am_M := (yX5_clear, cX5_clear, 2, none, 5, eX5_clear, uX5_clear)
def mX5_take : am_M := (yX5_take, cX5_take, 2, none, 5, eX5_take, uX5_take)
def mX5_find : am_M := (yX5_find, cX5_find, 5, (some .int), 5, eX5_find, uX5_find)
def mX5_isTaken : am_M := (yX5_isTaken, cX5_isTaken, 4, (some .boolean), 5, eX5_isTaken, uX5_isTaken)
def mX5_isFull : am_M := (yX5_isFull, cX5_isFull, 2, (some .boolean), 5, eX5_isFull, uX5_isFull)
def mX5_add : am_M := (yX5_add, cX5_add, 6, (some .int), 5, eX5_add, uX5_add)
def mX5_addToRow : am_M := (yX5_addToRow, cX5_addToRow, 4, none, 5, eX5_addToRow, uX5_addToRow)
def mX5_setsOf : am_M := (yX5_setsOf, cX5_setsOf, 4, (some .int), 5, eX5_setsOf, uX5_setsOf)
def mX5_voicesIn : am_M := (yX5_voicesIn, cX5_voicesIn, 3, (some .int), 5, eX5_voicesIn, uX5_voicesIn)
def mX5_voicesOf : am_M := (yX5_voicesOf, cX5_voicesOf, 4, (some .int), 5, eX5_voicesOf, uX5_voicesOf)
def mX5_hearersOf : am_M := (yX5_hearersOf, cX5_hearersOf, 4, (some .int), 5, eX5_hearersOf, uX5_hearersOf)
def mX5_coinsOfAll : am_M := (yX5_coinsOfAll, cX5_coinsOfAll, 3, (some .int), 5, eX5_coinsOfAll, uX5_coinsOfAll)
def mX5_gladOfAll : am_M := (yX5_gladOfAll, cX5_gladOfAll, 3, (some .int), 5, eX5_gladOfAll, uX5_gladOfAll)
def mX5_isLiving : am_M := (yX5_isLiving, cX5_isLiving, 2, (some .boolean), 5, eX5_isLiving, uX5_isLiving)
def mX5_hasCold : am_M := (yX5_hasCold, cX5_hasCold, 2, (some .boolean), 5, eX5_hasCold, uX5_hasCold)
def mX5_placedAt : am_M := (yX5_placedAt, cX5_placedAt, 4, (some .int), 5, eX5_placedAt, uX5_placedAt)
def mX5_saysAt : am_M := (yX5_saysAt, cX5_saysAt, 3, (some .int), 5, eX5_saysAt, uX5_saysAt)
def mX5_heardAt : am_M := (yX5_heardAt, cX5_heardAt, 7, (some .int), 5, eX5_heardAt, uX5_heardAt)
def mX5_joyBy : am_M := (yX5_joyBy, cX5_joyBy, 5, (some .int), 5, eX5_joyBy, uX5_joyBy)
def mX5_joyAhead : am_M := (yX5_joyAhead, cX5_joyAhead, 6, (some .int), 5, eX5_joyAhead, uX5_joyAhead)
def mX5_worthTo : am_M := (yX5_worthTo, cX5_worthTo, 3, (some .int), 5, eX5_worthTo, uX5_worthTo)
def mX5_hasHours : am_M := (yX5_hasHours, cX5_hasHours, 2, (some .boolean), 5, eX5_hasHours, uX5_hasHours)
def mX5_hasYears : am_M := (yX5_hasYears, cX5_hasYears, 2, (some .boolean), 5, eX5_hasYears, uX5_hasYears)
def mX5_passHours : am_M := (yX5_passHours, cX5_passHours, 8, (some .int), 5, eX5_passHours, uX5_passHours)
def mX5_passYears : am_M := (yX5_passYears, cX5_passYears, 5, (some .int), 5, eX5_passYears, uX5_passYears)
def mX5_makesSale : am_M := (yX5_makesSale, cX5_makesSale, 5, (some .boolean), 5, eX5_makesSale, uX5_makesSale)
def mX5_makesGift : am_M := (yX5_makesGift, cX5_makesGift, 3, (some .boolean), 5, eX5_makesGift, uX5_makesGift)
def mX5_catchesCold : am_M := (yX5_catchesCold, cX5_catchesCold, 2, (some .boolean), 5, eX5_catchesCold, uX5_catchesCold)
def mX5_getsWell : am_M := (yX5_getsWell, cX5_getsWell, 2, (some .boolean), 5, eX5_getsWell, uX5_getsWell)
def mX5_voicesThatFit : am_M := (yX5_voicesThatFit, cX5_voicesThatFit, 9, (some .int), 5, eX5_voicesThatFit, uX5_voicesThatFit)
def mX5_hourThatParts : am_M := (yX5_hourThatParts, cX5_hourThatParts, 6, (some .int), 5, eX5_hourThatParts, uX5_hourThatParts)
def mX5_mostWithOne : am_M := (yX5_mostWithOne, cX5_mostWithOne, 7, (some .int), 5, eX5_mostWithOne, uX5_mostWithOne)
def mX5_leastLike : am_M := (yX5_leastLike, cX5_leastLike, 5, (some .int), 5, eX5_leastLike, uX5_leastLike)
def mX5_likeOfAll : am_M := (yX5_likeOfAll, cX5_likeOfAll, 5, (some .int), 5, eX5_likeOfAll, uX5_likeOfAll)
def mX5_subjectOfPeace : am_M := (yX5_subjectOfPeace, cX5_subjectOfPeace, 5, (some .int), 5, eX5_subjectOfPeace, uX5_subjectOfPeace)
def mX5_fansAmong : am_M := (yX5_fansAmong, cX5_fansAmong, 5, (some .int), 5, eX5_fansAmong, uX5_fansAmong)
def mX5_popularAmong : am_M := (yX5_popularAmong, cX5_popularAmong, 4, (some .int), 5, eX5_popularAmong, uX5_popularAmong)
def mX6_init : am_M := (yX6_init, cX6_init, 2, none, 6, eX6_init, uX6_init)
def mX6_readsInto : am_M := (yX6_readsInto, cX6_readsInto, 3, (some .boolean), 6, eX6_readsInto, uX6_readsInto)
def mX6_readsPart : am_M := (yX6_readsPart, cX6_readsPart, 1, (some .boolean), 6, eX6_readsPart, uX6_readsPart)
def mX6_readsNew : am_M := (yX6_readsNew, cX6_readsNew, 2, (some .boolean), 6, eX6_readsNew, uX6_readsNew)
def mX6_readsOdds : am_M := (yX6_readsOdds, cX6_readsOdds, 1, (some .boolean), 6, eX6_readsOdds, uX6_readsOdds)
def mX6_readsVoice : am_M := (yX6_readsVoice, cX6_readsVoice, 2, (some .boolean), 6, eX6_readsVoice, uX6_readsVoice)
def mX6_readsRow : am_M := (yX6_readsRow, cX6_readsRow, 3, (some .boolean), 6, eX6_readsRow, uX6_readsRow)
def mX6_readsPerson : am_M := (yX6_readsPerson, cX6_readsPerson, 2, (some .boolean), 6, eX6_readsPerson, uX6_readsPerson)
def mX6_readsLikes : am_M := (yX6_readsLikes, cX6_readsLikes, 3, (some .boolean), 6, eX6_readsLikes, uX6_readsLikes)
def mX6_readsSet : am_M := (yX6_readsSet, cX6_readsSet, 2, (some .boolean), 6, eX6_readsSet, uX6_readsSet)
def mX6_readsFlaw : am_M := (yX6_readsFlaw, cX6_readsFlaw, 2, (some .boolean), 6, eX6_readsFlaw, uX6_readsFlaw)
def mX7_init : am_M := (yX7_init, cX7_init, 1, none, 7, eX7_init, uX7_init)
def mX7_lay : am_M := (yX7_lay, cX7_lay, 4, none, 7, eX7_lay, uX7_lay)
def mX7_hasRun : am_M := (yX7_hasRun, cX7_hasRun, 3, (some .boolean), 7, eX7_hasRun, uX7_hasRun)
def mX7_put : am_M := (yX7_put, cX7_put, 4, none, 7, eX7_put, uX7_put)
def mX8_init : am_M := (yX8_init, cX8_init, 2, none, 8, eX8_init, uX8_init)
def mX8_status : am_M := (yX8_status, cX8_status, 1, (some .int), 8, eX8_status, uX8_status)
def mX8_top : am_M := (yX8_top, cX8_top, 1, (some .long), 8, eX8_top, uX8_top)
def mX8_bottom : am_M := (yX8_bottom, cX8_bottom, 1, (some .long), 8, eX8_bottom, uX8_bottom)
def mX8_tray : am_M := (yX8_tray, cX8_tray, 4, (some .boolean), 8, eX8_tray, uX8_tray)
def mX8_write : am_M := (yX8_write, cX8_write, 6, (some .boolean), 8, eX8_write, uX8_write)
def mX8_read : am_M := (yX8_read, cX8_read, 4, (some .long), 8, eX8_read, uX8_read)
def mX8_pour : am_M := (yX8_pour, cX8_pour, 8, (some .boolean), 8, eX8_pour, uX8_pour)
def mX8_isTray : am_M := (yX8_isTray, cX8_isTray, 1, (some .boolean), 99, eX8_isTray, uX8_isTray)
def mX8_placeStatus : am_M := (yX8_placeStatus, cX8_placeStatus, 3, (some .int), 8, eX8_placeStatus, uX8_placeStatus)
def mX8_runStatus : am_M := (yX8_runStatus, cX8_runStatus, 4, (some .int), 8, eX8_runStatus, uX8_runStatus)
def mX8_feed : am_M := (yX8_feed, cX8_feed, 6, (some .int), 8, eX8_feed, uX8_feed)
def mX8_feedFour : am_M := (yX8_feedFour, cX8_feedFour, 3, none, 8, eX8_feedFour, uX8_feedFour)
def mX8_town : am_M := (yX8_town, cX8_town, 3, (some .int), 8, eX8_town, uX8_town)
def mX8_dials : am_M := (yX8_dials, cX8_dials, 2, (some .int), 8, eX8_dials, uX8_dials)
def mX8_fault : am_M := (yX8_fault, cX8_fault, 2, (some .int), 8, eX8_fault, uX8_fault)
def mX8_many : am_M := (yX8_many, cX8_many, 2, (some .int), 8, eX8_many, uX8_many)
def mX8_voice : am_M := (yX8_voice, cX8_voice, 3, (some .int), 8, eX8_voice, uX8_voice)
def mX8_row : am_M := (yX8_row, cX8_row, 3, (some .int), 8, eX8_row, uX8_row)
def mX8_person : am_M := (yX8_person, cX8_person, 3, (some .int), 8, eX8_person, uX8_person)
def mX8_like : am_M := (yX8_like, cX8_like, 3, (some .int), 8, eX8_like, uX8_like)
def mX8_set : am_M := (yX8_set, cX8_set, 3, (some .int), 8, eX8_set, uX8_set)
def mX8_hour : am_M := (yX8_hour, cX8_hour, 2, (some .int), 8, eX8_hour, uX8_hour)
def mX8_year : am_M := (yX8_year, cX8_year, 2, (some .int), 8, eX8_year, uX8_year)
def mX8_sell : am_M := (yX8_sell, cX8_sell, 4, (some .int), 8, eX8_sell, uX8_sell)
def mX8_give : am_M := (yX8_give, cX8_give, 3, (some .int), 8, eX8_give, uX8_give)
def mX8_dump : am_M := (yX8_dump, cX8_dump, 3, (some .int), 8, eX8_dump, uX8_dump)
def mX8_cold : am_M := (yX8_cold, cX8_cold, 4, (some .boolean), 8, eX8_cold, uX8_cold)
def mX8_flaw : am_M := (yX8_flaw, cX8_flaw, 4, (some .boolean), 8, eX8_flaw, uX8_flaw)
def mX8_please : am_M := (yX8_please, cX8_please, 5, (some .int), 8, eX8_please, uX8_please)
def mX8_teach : am_M := (yX8_teach, cX8_teach, 3, (some .int), 8, eX8_teach, uX8_teach)
def mX8_rule : am_M := (yX8_rule, cX8_rule, 2, (some .boolean), 8, eX8_rule, uX8_rule)
def mX8_saysIn : am_M := (yX8_saysIn, cX8_saysIn, 3, (some .int), 8, eX8_saysIn, uX8_saysIn)
def mX8_hearsIn : am_M := (yX8_hearsIn, cX8_hearsIn, 3, (some .int), 8, eX8_hearsIn, uX8_hearsIn)
def mX8_gladIn : am_M := (yX8_gladIn, cX8_gladIn, 3, (some .int), 8, eX8_gladIn, uX8_gladIn)
def mX8_gladBy : am_M := (yX8_gladBy, cX8_gladBy, 6, (some .int), 8, eX8_gladBy, uX8_gladBy)
def mX8_lonelyIn : am_M := (yX8_lonelyIn, cX8_lonelyIn, 4, (some .int), 8, eX8_lonelyIn, uX8_lonelyIn)
def mX8_diesIn : am_M := (yX8_diesIn, cX8_diesIn, 2, (some .int), 8, eX8_diesIn, uX8_diesIn)
def mX8_crowd : am_M := (yX8_crowd, cX8_crowd, 2, (some .int), 8, eX8_crowd, uX8_crowd)
def mX8_worth : am_M := (yX8_worth, cX8_worth, 3, (some .int), 8, eX8_worth, uX8_worth)
def mX8_best : am_M := (yX8_best, cX8_best, 2, (some .int), 8, eX8_best, uX8_best)
def mX8_bestSet : am_M := (yX8_bestSet, cX8_bestSet, 3, (some .int), 8, eX8_bestSet, uX8_bestSet)
def mX8_trade : am_M := (yX8_trade, cX8_trade, 2, (some .int), 8, eX8_trade, uX8_trade)
def mX8_trades : am_M := (yX8_trades, cX8_trades, 3, (some .int), 8, eX8_trades, uX8_trades)
def mX8_envies : am_M := (yX8_envies, cX8_envies, 4, (some .int), 8, eX8_envies, uX8_envies)
def mX8_pick : am_M := (yX8_pick, cX8_pick, 5, (some .int), 8, eX8_pick, uX8_pick)
def mX8_isSetOfPeople : am_M := (yX8_isSetOfPeople, cX8_isSetOfPeople, 2, (some .boolean), 8, eX8_isSetOfPeople, uX8_isSetOfPeople)
def mX8_isRowOfPeople : am_M := (yX8_isRowOfPeople, cX8_isRowOfPeople, 7, (some .boolean), 8, eX8_isRowOfPeople, uX8_isRowOfPeople)
def mX8_fits : am_M := (yX8_fits, cX8_fits, 4, (some .int), 8, eX8_fits, uX8_fits)
def mX8_ask : am_M := (yX8_ask, cX8_ask, 5, (some .int), 8, eX8_ask, uX8_ask)
def mX8_twosStatus : am_M := (yX8_twosStatus, cX8_twosStatus, 9, (some .int), 8, eX8_twosStatus, uX8_twosStatus)
def mX8_peace : am_M := (yX8_peace, cX8_peace, 3, (some .int), 8, eX8_peace, uX8_peace)
def mX8_peaceBy : am_M := (yX8_peaceBy, cX8_peaceBy, 3, (some .int), 8, eX8_peaceBy, uX8_peaceBy)
def mX8_peaceStatus : am_M := (yX8_peaceStatus, cX8_peaceStatus, 2, (some .int), 8, eX8_peaceStatus, uX8_peaceStatus)
def mX8_popular : am_M := (yX8_popular, cX8_popular, 3, (some .int), 8, eX8_popular, uX8_popular)
def mX8_popularBy : am_M := (yX8_popularBy, cX8_popularBy, 4, (some .int), 8, eX8_popularBy, uX8_popularBy)
def mX8_popularStatus : am_M := (yX8_popularStatus, cX8_popularStatus, 2, (some .int), 8, eX8_popularStatus, uX8_popularStatus)
def mX8_game : am_M := (yX8_game, cX8_game, 5, (some .int), 8, eX8_game, uX8_game)
def mX8_moveOf : am_M := (yX8_moveOf, cX8_moveOf, 5, (some .int), 8, eX8_moveOf, uX8_moveOf)
def mX8_gameStatus : am_M := (yX8_gameStatus, cX8_gameStatus, 4, (some .int), 8, eX8_gameStatus, uX8_gameStatus)
def mX8_alive : am_M := (yX8_alive, cX8_alive, 3, (some .boolean), 8, eX8_alive, uX8_alive)
def mX8_warm : am_M := (yX8_warm, cX8_warm, 5, (some .boolean), 8, eX8_warm, uX8_warm)
def mX8_power : am_M := (yX8_power, cX8_power, 5, (some .long), 99, eX8_power, uX8_power)
def mX8_tell : am_M := (yX8_tell, cX8_tell, 12, none, 8, eX8_tell, uX8_tell)
def mX8_live : am_M := (yX8_live, cX8_live, 3, (some .int), 8, eX8_live, uX8_live)
def mX8_lived : am_M := (yX8_lived, cX8_lived, 2, (some .int), 8, eX8_lived, uX8_lived)
def mX8_mean : am_M := (yX8_mean, cX8_mean, 6, (some .boolean), 8, eX8_mean, uX8_mean)
def mX8_mark : am_M := (yX8_mark, cX8_mark, 1, (some .int), 8, eX8_mark, uX8_mark)
def mX8_back : am_M := (yX8_back, cX8_back, 1, (some .int), 8, eX8_back, uX8_back)
def mX8_has : am_M := (yX8_has, cX8_has, 3, (some .boolean), 8, eX8_has, uX8_has)
def mX8_answer : am_M := (yX8_answer, cX8_answer, 2, (some .int), 8, eX8_answer, uX8_answer)
def mX8_answerIfAny : am_M := (yX8_answerIfAny, cX8_answerIfAny, 2, (some .int), 8, eX8_answerIfAny, uX8_answerIfAny)
def mX8_refuse : am_M := (yX8_refuse, cX8_refuse, 2, (some .int), 8, eX8_refuse, uX8_refuse)
def mX8_agree : am_M := (yX8_agree, cX8_agree, 1, (some .boolean), 8, eX8_agree, uX8_agree)
def mX8_deny : am_M := (yX8_deny, cX8_deny, 2, (some .boolean), 8, eX8_deny, uX8_deny)
def mX9_init : am_M := (yX9_init, cX9_init, 2, none, 9, eX9_init, uX9_init)
def mX9_status : am_M := (yX9_status, cX9_status, 1, (some .int), 9, eX9_status, uX9_status)
def mX9_top : am_M := (yX9_top, cX9_top, 1, (some .long), 9, eX9_top, uX9_top)
def mX9_bottom : am_M := (yX9_bottom, cX9_bottom, 1, (some .long), 9, eX9_bottom, uX9_bottom)
def mX9_refuse : am_M := (yX9_refuse, cX9_refuse, 2, (some .int), 9, eX9_refuse, uX9_refuse)
def mX9_no : am_M := (yX9_no, cX9_no, 2, (some .boolean), 9, eX9_no, uX9_no)
def mX9_isIn : am_M := (yX9_isIn, cX9_isIn, 6, (some .boolean), 99, eX9_isIn, uX9_isIn)
def mX9_fraction : am_M := (yX9_fraction, cX9_fraction, 11, (some .boolean), 9, eX9_fraction, uX9_fraction)
def mX9_cut : am_M := (yX9_cut, cX9_cut, 3, (some .long), 99, eX9_cut, uX9_cut)
def mX9_tray : am_M := (yX9_tray, cX9_tray, 5, (some .boolean), 9, eX9_tray, uX9_tray)
def mX9_trayed : am_M := (yX9_trayed, cX9_trayed, 2, (some .int), 9, eX9_trayed, uX9_trayed)
def mX9_placed : am_M := (yX9_placed, cX9_placed, 4, (some .int), 9, eX9_placed, uX9_placed)
def mX9_write : am_M := (yX9_write, cX9_write, 5, (some .boolean), 9, eX9_write, uX9_write)
def mX9_read : am_M := (yX9_read, cX9_read, 3, (some .long), 9, eX9_read, uX9_read)
def mX9_pour : am_M := (yX9_pour, cX9_pour, 9, (some .boolean), 9, eX9_pour, uX9_pour)
def mX9_numberOf : am_M := (yX9_numberOf, cX9_numberOf, 3, (some .long), 9, eX9_numberOf, uX9_numberOf)
def mX9_isTray : am_M := (yX9_isTray, cX9_isTray, 2, (some .boolean), 9, eX9_isTray, uX9_isTray)
def mX9_has : am_M := (yX9_has, cX9_has, 2, (some .boolean), 99, eX9_has, uX9_has)
def mX9_sizeOf : am_M := (yX9_sizeOf, cX9_sizeOf, 3, (some .int), 99, eX9_sizeOf, uX9_sizeOf)
def mX9_look2 : am_M := (yX9_look2, cX9_look2, 2, (some .int), 9, eX9_look2, uX9_look2)
def mX9_isLetter : am_M := (yX9_isLetter, cX9_isLetter, 1, (some .boolean), 99, eX9_isLetter, uX9_isLetter)
def mX9_isDigit : am_M := (yX9_isDigit, cX9_isDigit, 1, (some .boolean), 99, eX9_isDigit, uX9_isDigit)
def mX9_isSignByte : am_M := (yX9_isSignByte, cX9_isSignByte, 2, (some .boolean), 9, eX9_isSignByte, uX9_isSignByte)
def mX9_advance : am_M := (yX9_advance, cX9_advance, 2, none, 9, eX9_advance, uX9_advance)
def mX9_isSign : am_M := (yX9_isSign, cX9_isSign, 2, (some .boolean), 9, eX9_isSign, uX9_isSign)
def mX9_spelled : am_M := (yX9_spelled, cX9_spelled, 8, (some .long), 99, eX9_spelled, uX9_spelled)
def mX9_isWord : am_M := (yX9_isWord, cX9_isWord, 3, (some .boolean), 9, eX9_isWord, uX9_isWord)
def mX9_isOdds : am_M := (yX9_isOdds, cX9_isOdds, 1, (some .boolean), 9, eX9_isOdds, uX9_isOdds)
def mX9_isSubject : am_M := (yX9_isSubject, cX9_isSubject, 1, (some .boolean), 9, eX9_isSubject, uX9_isSubject)
def mX9_isVoice : am_M := (yX9_isVoice, cX9_isVoice, 1, (some .boolean), 9, eX9_isVoice, uX9_isVoice)
def mX9_isAge : am_M := (yX9_isAge, cX9_isAge, 1, (some .boolean), 9, eX9_isAge, uX9_isAge)
def mX9_isLife : am_M := (yX9_isLife, cX9_isLife, 1, (some .boolean), 9, eX9_isLife, uX9_isLife)
def mX9_isSays : am_M := (yX9_isSays, cX9_isSays, 1, (some .boolean), 9, eX9_isSays, uX9_isSays)
def mX9_isPerson : am_M := (yX9_isPerson, cX9_isPerson, 1, (some .boolean), 9, eX9_isPerson, uX9_isPerson)
def mX9_isCoins : am_M := (yX9_isCoins, cX9_isCoins, 1, (some .boolean), 9, eX9_isCoins, uX9_isCoins)
def mX9_isLikes : am_M := (yX9_isLikes, cX9_isLikes, 1, (some .boolean), 9, eX9_isLikes, uX9_isLikes)
def mX9_isSet : am_M := (yX9_isSet, cX9_isSet, 1, (some .boolean), 9, eX9_isSet, uX9_isSet)
def mX9_isGets : am_M := (yX9_isGets, cX9_isGets, 1, (some .boolean), 9, eX9_isGets, uX9_isGets)
def mX9_isFlaw : am_M := (yX9_isFlaw, cX9_isFlaw, 1, (some .boolean), 9, eX9_isFlaw, uX9_isFlaw)
def mX9_isFor : am_M := (yX9_isFor, cX9_isFor, 1, (some .boolean), 9, eX9_isFor, uX9_isFor)
def mX9_stepWord : am_M := (yX9_stepWord, cX9_stepWord, 1, (some .int), 9, eX9_stepWord, uX9_stepWord)
def mX9_testWord : am_M := (yX9_testWord, cX9_testWord, 1, (some .int), 9, eX9_testWord, uX9_testWord)
def mX9_isEnd : am_M := (yX9_isEnd, cX9_isEnd, 1, (some .boolean), 9, eX9_isEnd, uX9_isEnd)
def mX9_isKept : am_M := (yX9_isKept, cX9_isKept, 1, (some .boolean), 9, eX9_isKept, uX9_isKept)
def mX9_isName : am_M := (yX9_isName, cX9_isName, 1, (some .boolean), 9, eX9_isName, uX9_isName)
def mX9_fail : am_M := (yX9_fail, cX9_fail, 3, none, 9, eX9_fail, uX9_fail)
def mX9_amiss : am_M := (yX9_amiss, cX9_amiss, 1, none, 9, eX9_amiss, uX9_amiss)
def mX9_must : am_M := (yX9_must, cX9_must, 2, none, 9, eX9_must, uX9_must)
def mX9_count : am_M := (yX9_count, cX9_count, 4, (some .int), 9, eX9_count, uX9_count)
def mX9_behindWord : am_M := (yX9_behindWord, cX9_behindWord, 4, (some .int), 9, eX9_behindWord, uX9_behindWord)
def mX9_perhaps : am_M := (yX9_perhaps, cX9_perhaps, 2, (some .boolean), 9, eX9_perhaps, uX9_perhaps)
def mX9_feed : am_M := (yX9_feed, cX9_feed, 6, (some .int), 9, eX9_feed, uX9_feed)
def mX9_lay : am_M := (yX9_lay, cX9_lay, 3, none, 9, eX9_lay, uX9_lay)
def mX9_starts : am_M := (yX9_starts, cX9_starts, 3, (some .boolean), 9, eX9_starts, uX9_starts)
def mX9_isWell : am_M := (yX9_isWell, cX9_isWell, 1, (some .boolean), 9, eX9_isWell, uX9_isWell)
def mX9_fault : am_M := (yX9_fault, cX9_fault, 2, (some .int), 9, eX9_fault, uX9_fault)
def mX9_empties : am_M := (yX9_empties, cX9_empties, 4, none, 9, eX9_empties, uX9_empties)
def mX9_named : am_M := (yX9_named, cX9_named, 4, (some .int), 9, eX9_named, uX9_named)
def mX9_isTaken : am_M := (yX9_isTaken, cX9_isTaken, 1, (some .boolean), 9, eX9_isTaken, uX9_isTaken)
def mX9_readNew : am_M := (yX9_readNew, cX9_readNew, 3, (some .int), 9, eX9_readNew, uX9_readNew)
def mX9_told : am_M := (yX9_told, cX9_told, 4, (some .int), 9, eX9_told, uX9_told)
def mX9_readTold : am_M := (yX9_readTold, cX9_readTold, 4, (some .int), 9, eX9_readTold, uX9_readTold)
def mX9_readOdds : am_M := (yX9_readOdds, cX9_readOdds, 1, none, 9, eX9_readOdds, uX9_readOdds)
def mX9_readSubject : am_M := (yX9_readSubject, cX9_readSubject, 1, none, 9, eX9_readSubject, uX9_readSubject)
def mX9_readVoice : am_M := (yX9_readVoice, cX9_readVoice, 6, none, 9, eX9_readVoice, uX9_readVoice)
def mX9_readPerson : am_M := (yX9_readPerson, cX9_readPerson, 3, none, 9, eX9_readPerson, uX9_readPerson)
def mX9_readLikes : am_M := (yX9_readLikes, cX9_readLikes, 4, none, 9, eX9_readLikes, uX9_readLikes)
def mX9_readSet : am_M := (yX9_readSet, cX9_readSet, 5, none, 9, eX9_readSet, uX9_readSet)
def mX9_readPart : am_M := (yX9_readPart, cX9_readPart, 1, none, 9, eX9_readPart, uX9_readPart)
def mX9_town : am_M := (yX9_town, cX9_town, 2, (some .int), 9, eX9_town, uX9_town)
def mX9_readTest : am_M := (yX9_readTest, cX9_readTest, 3, none, 9, eX9_readTest, uX9_readTest)
def mX9_readRest : am_M := (yX9_readRest, cX9_readRest, 3, none, 9, eX9_readRest, uX9_readRest)
def mX9_readStep : am_M := (yX9_readStep, cX9_readStep, 5, none, 9, eX9_readStep, uX9_readStep)
def mX9_dials : am_M := (yX9_dials, cX9_dials, 3, (some .int), 9, eX9_dials, uX9_dials)
def mX9_isSubjectAt : am_M := (yX9_isSubjectAt, cX9_isSubjectAt, 3, (some .boolean), 9, eX9_isSubjectAt, uX9_isSubjectAt)
def mX9_isVoiceAt : am_M := (yX9_isVoiceAt, cX9_isVoiceAt, 2, (some .boolean), 9, eX9_isVoiceAt, uX9_isVoiceAt)
def mX9_isPersonAt : am_M := (yX9_isPersonAt, cX9_isPersonAt, 3, (some .boolean), 9, eX9_isPersonAt, uX9_isPersonAt)
def mX9_isSetAt : am_M := (yX9_isSetAt, cX9_isSetAt, 2, (some .boolean), 9, eX9_isSetAt, uX9_isSetAt)
def mX9_ownedBy : am_M := (yX9_ownedBy, cX9_ownedBy, 4, (some .int), 9, eX9_ownedBy, uX9_ownedBy)
def mX9_voicesBy : am_M := (yX9_voicesBy, cX9_voicesBy, 4, (some .int), 9, eX9_voicesBy, uX9_voicesBy)
def mX9_sumOf : am_M := (yX9_sumOf, cX9_sumOf, 4, (some .int), 9, eX9_sumOf, uX9_sumOf)
def mX9_many : am_M := (yX9_many, cX9_many, 2, (some .int), 9, eX9_many, uX9_many)
def mX9_voice : am_M := (yX9_voice, cX9_voice, 3, (some .int), 9, eX9_voice, uX9_voice)
def mX9_row : am_M := (yX9_row, cX9_row, 3, (some .int), 9, eX9_row, uX9_row)
def mX9_person : am_M := (yX9_person, cX9_person, 3, (some .int), 9, eX9_person, uX9_person)
def mX9_likeOf : am_M := (yX9_likeOf, cX9_likeOf, 3, (some .int), 9, eX9_likeOf, uX9_likeOf)
def mX9_like : am_M := (yX9_like, cX9_like, 3, (some .int), 9, eX9_like, uX9_like)
def mX9_set : am_M := (yX9_set, cX9_set, 4, (some .int), 9, eX9_set, uX9_set)
def mX9_placeOf : am_M := (yX9_placeOf, cX9_placeOf, 3, (some .int), 9, eX9_placeOf, uX9_placeOf)
def mX9_said : am_M := (yX9_said, cX9_said, 3, (some .int), 9, eX9_said, uX9_said)
def mX9_heardBy : am_M := (yX9_heardBy, cX9_heardBy, 5, (some .int), 9, eX9_heardBy, uX9_heardBy)
def mX9_heard : am_M := (yX9_heard, cX9_heard, 5, (some .int), 9, eX9_heard, uX9_heard)
def mX9_liked : am_M := (yX9_liked, cX9_liked, 5, (some .int), 9, eX9_liked, uX9_liked)
def mX9_goesHour : am_M := (yX9_goesHour, cX9_goesHour, 4, (some .int), 9, eX9_goesHour, uX9_goesHour)
def mX9_hour : am_M := (yX9_hour, cX9_hour, 4, (some .int), 9, eX9_hour, uX9_hour)
def mX9_goesYear : am_M := (yX9_goesYear, cX9_goesYear, 3, (some .int), 9, eX9_goesYear, uX9_goesYear)
def mX9_year : am_M := (yX9_year, cX9_year, 4, (some .int), 9, eX9_year, uX9_year)
def mX9_sells : am_M := (yX9_sells, cX9_sells, 5, (some .boolean), 9, eX9_sells, uX9_sells)
def mX9_sell : am_M := (yX9_sell, cX9_sell, 4, (some .int), 9, eX9_sell, uX9_sell)
def mX9_becomes : am_M := (yX9_becomes, cX9_becomes, 3, (some .boolean), 9, eX9_becomes, uX9_becomes)
def mX9_give : am_M := (yX9_give, cX9_give, 3, (some .int), 9, eX9_give, uX9_give)
def mX9_dump : am_M := (yX9_dump, cX9_dump, 3, (some .int), 9, eX9_dump, uX9_dump)
def mX9_chills : am_M := (yX9_chills, cX9_chills, 3, (some .boolean), 9, eX9_chills, uX9_chills)
def mX9_cold : am_M := (yX9_cold, cX9_cold, 3, (some .boolean), 9, eX9_cold, uX9_cold)
def mX9_flaw : am_M := (yX9_flaw, cX9_flaw, 3, (some .boolean), 9, eX9_flaw, uX9_flaw)
def mX9_please : am_M := (yX9_please, cX9_please, 5, (some .int), 9, eX9_please, uX9_please)
def mX9_teach : am_M := (yX9_teach, cX9_teach, 4, (some .int), 9, eX9_teach, uX9_teach)
def mX9_rule : am_M := (yX9_rule, cX9_rule, 2, (some .boolean), 9, eX9_rule, uX9_rule)
def mX9_saysIn : am_M := (yX9_saysIn, cX9_saysIn, 4, (some .int), 9, eX9_saysIn, uX9_saysIn)
def mX9_hearsIn : am_M := (yX9_hearsIn, cX9_hearsIn, 3, (some .int), 9, eX9_hearsIn, uX9_hearsIn)
def mX9_gladAfter : am_M := (yX9_gladAfter, cX9_gladAfter, 5, (some .int), 9, eX9_gladAfter, uX9_gladAfter)
def mX9_gladIn : am_M := (yX9_gladIn, cX9_gladIn, 3, (some .int), 9, eX9_gladIn, uX9_gladIn)
def mX9_gladBy : am_M := (yX9_gladBy, cX9_gladBy, 5, (some .int), 9, eX9_gladBy, uX9_gladBy)
def mX9_lonelyIn : am_M := (yX9_lonelyIn, cX9_lonelyIn, 3, (some .int), 9, eX9_lonelyIn, uX9_lonelyIn)
def mX9_diesIn : am_M := (yX9_diesIn, cX9_diesIn, 2, (some .int), 9, eX9_diesIn, uX9_diesIn)
def mX9_crowdOf : am_M := (yX9_crowdOf, cX9_crowdOf, 4, (some .int), 9, eX9_crowdOf, uX9_crowdOf)
def mX9_crowd : am_M := (yX9_crowd, cX9_crowd, 2, (some .int), 9, eX9_crowd, uX9_crowd)
def mX9_worthOf : am_M := (yX9_worthOf, cX9_worthOf, 5, (some .int), 9, eX9_worthOf, uX9_worthOf)
def mX9_worth : am_M := (yX9_worth, cX9_worth, 3, (some .int), 9, eX9_worth, uX9_worth)
def mX9_laysWorths : am_M := (yX9_laysWorths, cX9_laysWorths, 3, none, 9, eX9_laysWorths, uX9_laysWorths)
def mX9_shares : am_M := (yX9_shares, cX9_shares, 6, none, 9, eX9_shares, uX9_shares)
def mX9_laysBest : am_M := (yX9_laysBest, cX9_laysBest, 2, none, 9, eX9_laysBest, uX9_laysBest)
def mX9_arePeople : am_M := (yX9_arePeople, cX9_arePeople, 2, (some .boolean), 9, eX9_arePeople, uX9_arePeople)
def mX9_best : am_M := (yX9_best, cX9_best, 2, (some .int), 9, eX9_best, uX9_best)
def mX9_bestSet : am_M := (yX9_bestSet, cX9_bestSet, 3, (some .int), 9, eX9_bestSet, uX9_bestSet)
def mX9_firstOf : am_M := (yX9_firstOf, cX9_firstOf, 3, (some .int), 9, eX9_firstOf, uX9_firstOf)
def mX9_pointsTo : am_M := (yX9_pointsTo, cX9_pointsTo, 5, (some .int), 9, eX9_pointsTo, uX9_pointsTo)
def mX9_goesRing : am_M := (yX9_goesRing, cX9_goesRing, 4, none, 9, eX9_goesRing, uX9_goesRing)
def mX9_ringFrom : am_M := (yX9_ringFrom, cX9_ringFrom, 4, (some .int), 9, eX9_ringFrom, uX9_ringFrom)
def mX9_laysTrades : am_M := (yX9_laysTrades, cX9_laysTrades, 2, none, 9, eX9_laysTrades, uX9_laysTrades)
def mX9_trade : am_M := (yX9_trade, cX9_trade, 2, (some .int), 9, eX9_trade, uX9_trade)
def mX9_trades : am_M := (yX9_trades, cX9_trades, 3, (some .int), 9, eX9_trades, uX9_trades)
def mX9_bestOwned : am_M := (yX9_bestOwned, cX9_bestOwned, 5, (some .int), 9, eX9_bestOwned, uX9_bestOwned)
def mX9_envies : am_M := (yX9_envies, cX9_envies, 3, (some .int), 9, eX9_envies, uX9_envies)
def mX9_whyNoPick : am_M := (yX9_whyNoPick, cX9_whyNoPick, 5, (some .int), 9, eX9_whyNoPick, uX9_whyNoPick)
def mX9_pick : am_M := (yX9_pick, cX9_pick, 9, (some .int), 9, eX9_pick, uX9_pick)
def mX9_whyNotFits : am_M := (yX9_whyNotFits, cX9_whyNotFits, 4, (some .int), 9, eX9_whyNotFits, uX9_whyNotFits)
def mX9_fitting : am_M := (yX9_fitting, cX9_fitting, 7, (some .int), 9, eX9_fitting, uX9_fitting)
def mX9_fits : am_M := (yX9_fits, cX9_fits, 3, (some .int), 9, eX9_fits, uX9_fits)
def mX9_alikeIn : am_M := (yX9_alikeIn, cX9_alikeIn, 7, (some .int), 9, eX9_alikeIn, uX9_alikeIn)
def mX9_ask : am_M := (yX9_ask, cX9_ask, 6, (some .int), 9, eX9_ask, uX9_ask)
def mX9_leastLike : am_M := (yX9_leastLike, cX9_leastLike, 5, (some .int), 9, eX9_leastLike, uX9_leastLike)
def mX9_allLike : am_M := (yX9_allLike, cX9_allLike, 5, (some .int), 9, eX9_allLike, uX9_allLike)
def mX9_peaceful : am_M := (yX9_peaceful, cX9_peaceful, 5, (some .int), 9, eX9_peaceful, uX9_peaceful)
def mX9_peace : am_M := (yX9_peace, cX9_peace, 3, (some .int), 9, eX9_peace, uX9_peace)
def mX9_peaceBy : am_M := (yX9_peaceBy, cX9_peaceBy, 3, (some .int), 9, eX9_peaceBy, uX9_peaceBy)
def mX9_fansOf : am_M := (yX9_fansOf, cX9_fansOf, 5, (some .int), 9, eX9_fansOf, uX9_fansOf)
def mX9_popularOf : am_M := (yX9_popularOf, cX9_popularOf, 4, (some .int), 9, eX9_popularOf, uX9_popularOf)
def mX9_popular : am_M := (yX9_popular, cX9_popular, 3, (some .int), 9, eX9_popular, uX9_popular)
def mX9_popularBy : am_M := (yX9_popularBy, cX9_popularBy, 3, (some .int), 9, eX9_popularBy, uX9_popularBy)
def mX9_plays : am_M := (yX9_plays, cX9_plays, 13, (some .int), 9, eX9_plays, uX9_plays)
def mX9_whyNoGame : am_M := (yX9_whyNoGame, cX9_whyNoGame, 5, (some .int), 9, eX9_whyNoGame, uX9_whyNoGame)
def mX9_game : am_M := (yX9_game, cX9_game, 4, (some .int), 9, eX9_game, uX9_game)
def mX9_moveOf : am_M := (yX9_moveOf, cX9_moveOf, 4, (some .int), 9, eX9_moveOf, uX9_moveOf)
def mX9_power : am_M := (yX9_power, cX9_power, 5, (some .long), 99, eX9_power, uX9_power)
def mX9_alive : am_M := (yX9_alive, cX9_alive, 3, (some .boolean), 9, eX9_alive, uX9_alive)
def mX9_warm : am_M := (yX9_warm, cX9_warm, 4, (some .boolean), 9, eX9_warm, uX9_warm)
def mX9_draw : am_M := (yX9_draw, cX9_draw, 2, (some .int), 9, eX9_draw, uX9_draw)
def mX9_anyHours : am_M := (yX9_anyHours, cX9_anyHours, 3, (some .boolean), 9, eX9_anyHours, uX9_anyHours)
def mX9_anyYears : am_M := (yX9_anyYears, cX9_anyYears, 3, (some .boolean), 9, eX9_anyYears, uX9_anyYears)
def mX9_isAny : am_M := (yX9_isAny, cX9_isAny, 3, (some .boolean), 9, eX9_isAny, uX9_isAny)
def mX9_does : am_M := (yX9_does, cX9_does, 3, (some .boolean), 9, eX9_does, uX9_does)
def mX9_isSo : am_M := (yX9_isSo, cX9_isSo, 5, (some .boolean), 9, eX9_isSo, uX9_isSo)
def mX9_doOne : am_M := (yX9_doOne, cX9_doOne, 5, none, 9, eX9_doOne, uX9_doOne)
def mX9_doAll : am_M := (yX9_doAll, cX9_doAll, 4, none, 9, eX9_doAll, uX9_doAll)
def mX9_runsDials : am_M := (yX9_runsDials, cX9_runsDials, 2, none, 9, eX9_runsDials, uX9_runsDials)
def mX9_live : am_M := (yX9_live, cX9_live, 2, (some .int), 9, eX9_live, uX9_live)
def mX9_lived : am_M := (yX9_lived, cX9_lived, 2, (some .int), 9, eX9_lived, uX9_lived)
def mX9_mean : am_M := (yX9_mean, cX9_mean, 7, (some .boolean), 9, eX9_mean, uX9_mean)
def mX9_copy : am_M := (yX9_copy, cX9_copy, 4, none, 9, eX9_copy, uX9_copy)
def mX9_mark : am_M := (yX9_mark, cX9_mark, 1, (some .int), 9, eX9_mark, uX9_mark)
def mX9_back : am_M := (yX9_back, cX9_back, 1, (some .int), 9, eX9_back, uX9_back)
def mJ6_bitCount_0f7a4 : am_M := (yJ6_bitCount_0f7a4, cJ6_bitCount_0f7a4, 1, (some .int), 99, eJ6_bitCount_0f7a4, uJ6_bitCount_0f7a4)
def am_ms0 : List am_M := [mX0_init, mX0_weigh, mX0_findBest, mX0_mostBySet, mX0_bySet, mX0_findBestSet, mX0_firstBest, mX0_makeTrades, mX0_firstSetOf, mX0_pointsTo, mX0_isBetter, mX0_leaveInRings, mX0_isInRing, mX0_mostWorth, mX0_findPick, mX0_firstMost, mX0_playGame, mX0_firstsBest, mX0_secondsBest, mX0_findMove, mX1_init, mX1_clear, mX1_take, mX2_init]
def am_ms1 : List am_M := [mX2_readsFor, mX2_readsNext, mX2_isStep, mX2_adds, mX2_readsEnd, mX2_readsTestWord, mX2_readsRest, mX2_readsCompares, mX2_readsFirst, mX2_readsSecond, mX3_init, mX3_play, mX3_placeBehindEnd, mX3_placeBehindOpener, mX3_holds, mX3_does, mX3_doesHours, mX3_doesYears, mX3_doesAny, mX3_draw, mX4_init, mX4_open, mX4_advance, mX4_advanceWord]
def am_ms2 : List am_M := [mX4_advanceNumber, mX4_fail, mX4_refuses, mX4_takes, mX4_takesNumber, mX4_isNameOf, mX4_takesName, mX4_takesNewName, mX5_init, mX5_clear, mX5_take, mX5_find, mX5_isTaken, mX5_isFull, mX5_add, mX5_addToRow, mX5_setsOf, mX5_voicesIn, mX5_voicesOf, mX5_hearersOf, mX5_coinsOfAll, mX5_gladOfAll, mX5_isLiving, mX5_hasCold]
def am_ms3 : List am_M := [mX5_placedAt, mX5_saysAt, mX5_heardAt, mX5_joyBy, mX5_joyAhead, mX5_worthTo, mX5_hasHours, mX5_hasYears, mX5_passHours, mX5_passYears, mX5_makesSale, mX5_makesGift, mX5_catchesCold, mX5_getsWell, mX5_voicesThatFit, mX5_hourThatParts, mX5_mostWithOne, mX5_leastLike, mX5_likeOfAll, mX5_subjectOfPeace, mX5_fansAmong, mX5_popularAmong, mX6_init, mX6_readsInto]
def am_ms4 : List am_M := [mX6_readsPart, mX6_readsNew, mX6_readsOdds, mX6_readsVoice, mX6_readsRow, mX6_readsPerson, mX6_readsLikes, mX6_readsSet, mX6_readsFlaw, mX7_init, mX7_lay, mX7_hasRun, mX7_put, mX8_init, mX8_status, mX8_top, mX8_bottom, mX8_tray, mX8_write, mX8_read, mX8_pour, mX8_isTray, mX8_placeStatus, mX8_runStatus]
def am_ms5 : List am_M := [mX8_feed, mX8_feedFour, mX8_town, mX8_dials, mX8_fault, mX8_many, mX8_voice, mX8_row, mX8_person, mX8_like, mX8_set, mX8_hour, mX8_year, mX8_sell, mX8_give, mX8_dump, mX8_cold, mX8_flaw, mX8_please, mX8_teach, mX8_rule, mX8_saysIn, mX8_hearsIn, mX8_gladIn]
def am_ms6 : List am_M := [mX8_gladBy, mX8_lonelyIn, mX8_diesIn, mX8_crowd, mX8_worth, mX8_best, mX8_bestSet, mX8_trade, mX8_trades, mX8_envies, mX8_pick, mX8_isSetOfPeople, mX8_isRowOfPeople, mX8_fits, mX8_ask, mX8_twosStatus, mX8_peace, mX8_peaceBy, mX8_peaceStatus, mX8_popular, mX8_popularBy, mX8_popularStatus, mX8_game, mX8_moveOf]
def am_ms7 : List am_M := [mX8_gameStatus, mX8_alive, mX8_warm, mX8_power, mX8_tell, mX8_live, mX8_lived, mX8_mean, mX8_mark, mX8_back, mX8_has, mX8_answer, mX8_answerIfAny, mX8_refuse, mX8_agree, mX8_deny, mX9_init, mX9_status, mX9_top, mX9_bottom, mX9_refuse, mX9_no, mX9_isIn, mX9_fraction]
def am_ms8 : List am_M := [mX9_cut, mX9_tray, mX9_trayed, mX9_placed, mX9_write, mX9_read, mX9_pour, mX9_numberOf, mX9_isTray, mX9_has, mX9_sizeOf, mX9_look2, mX9_isLetter, mX9_isDigit, mX9_isSignByte, mX9_advance, mX9_isSign, mX9_spelled, mX9_isWord, mX9_isOdds, mX9_isSubject, mX9_isVoice, mX9_isAge, mX9_isLife]
def am_ms9 : List am_M := [mX9_isSays, mX9_isPerson, mX9_isCoins, mX9_isLikes, mX9_isSet, mX9_isGets, mX9_isFlaw, mX9_isFor, mX9_stepWord, mX9_testWord, mX9_isEnd, mX9_isKept, mX9_isName, mX9_fail, mX9_amiss, mX9_must, mX9_count, mX9_behindWord, mX9_perhaps, mX9_feed, mX9_lay, mX9_starts, mX9_isWell, mX9_fault]
def am_ms10 : List am_M := [mX9_empties, mX9_named, mX9_isTaken, mX9_readNew, mX9_told, mX9_readTold, mX9_readOdds, mX9_readSubject, mX9_readVoice, mX9_readPerson, mX9_readLikes, mX9_readSet, mX9_readPart, mX9_town, mX9_readTest, mX9_readRest, mX9_readStep, mX9_dials, mX9_isSubjectAt, mX9_isVoiceAt, mX9_isPersonAt, mX9_isSetAt, mX9_ownedBy, mX9_voicesBy]
def am_ms11 : List am_M := [mX9_sumOf, mX9_many, mX9_voice, mX9_row, mX9_person, mX9_likeOf, mX9_like, mX9_set, mX9_placeOf, mX9_said, mX9_heardBy, mX9_heard, mX9_liked, mX9_goesHour, mX9_hour, mX9_goesYear, mX9_year, mX9_sells, mX9_sell, mX9_becomes, mX9_give, mX9_dump, mX9_chills, mX9_cold]
def am_ms12 : List am_M := [mX9_flaw, mX9_please, mX9_teach, mX9_rule, mX9_saysIn, mX9_hearsIn, mX9_gladAfter, mX9_gladIn, mX9_gladBy, mX9_lonelyIn, mX9_diesIn, mX9_crowdOf, mX9_crowd, mX9_worthOf, mX9_worth, mX9_laysWorths, mX9_shares, mX9_laysBest, mX9_arePeople, mX9_best, mX9_bestSet, mX9_firstOf, mX9_pointsTo, mX9_goesRing]
def am_ms13 : List am_M := [mX9_ringFrom, mX9_laysTrades, mX9_trade, mX9_trades, mX9_bestOwned, mX9_envies, mX9_whyNoPick, mX9_pick, mX9_whyNotFits, mX9_fitting, mX9_fits, mX9_alikeIn, mX9_ask, mX9_leastLike, mX9_allLike, mX9_peaceful, mX9_peace, mX9_peaceBy, mX9_fansOf, mX9_popularOf, mX9_popular, mX9_popularBy, mX9_plays, mX9_whyNoGame]
def am_ms14 : List am_M := [mX9_game, mX9_moveOf, mX9_power, mX9_alive, mX9_warm, mX9_draw, mX9_anyHours, mX9_anyYears, mX9_isAny, mX9_does, mX9_isSo, mX9_doOne, mX9_doAll, mX9_runsDials, mX9_live, mX9_lived, mX9_mean, mX9_copy, mX9_mark, mX9_back, mJ6_bitCount_0f7a4]
def am_ms : List am_M := am_ms0 ++ (am_ms1 ++ (am_ms2 ++ (am_ms3 ++ (am_ms4 ++ (am_ms5 ++ (am_ms6 ++ (am_ms7 ++ (am_ms8 ++ (am_ms9 ++ (am_ms10 ++ (am_ms11 ++ (am_ms12 ++ (am_ms13 ++ (am_ms14))))))))))))))
def am_prog (i : Nat) : Option am_M := am_ms[i]?
theorem am_CL0 : am_CL 0 RX0 TX0 5 tyX0 := by
  refine ⟨by decide, rfl, rfl, lyX0, tyX0_ok, nmX0, ?_, lzX0.1, lzX0.2⟩
  intro k hk
  match k, hk with
  | 0, _ => exact Or.inr (Or.inr (Or.inl ⟨rfl, Or.inr ⟨_, rfl⟩⟩))
  | 1, _ => exact Or.inr (Or.inr (Or.inl ⟨rfl, Or.inr ⟨_, rfl⟩⟩))
  | 2, _ => exact Or.inr (Or.inr (Or.inl ⟨rfl, Or.inr ⟨_, rfl⟩⟩))
  | 3, _ => exact Or.inr (Or.inr (Or.inl ⟨rfl, Or.inr ⟨_, rfl⟩⟩))
  | 4, _ => exact Or.inr (Or.inr (Or.inl ⟨rfl, Or.inr ⟨_, rfl⟩⟩))
  | k + 5, h => exact absurd h (by omega)
theorem am_CL1 : am_CL 1 RX1 TX1 8 tyX1 := by
  refine ⟨by decide, rfl, rfl, lyX1, tyX1_ok, nmX1, ?_, lzX1.1, lzX1.2⟩
  intro k hk
  match k, hk with
  | 0, _ => exact Or.inr (Or.inr (Or.inl ⟨rfl, Or.inr ⟨_, rfl⟩⟩))
  | 1, _ => exact Or.inr (Or.inr (Or.inl ⟨rfl, Or.inr ⟨_, rfl⟩⟩))
  | 2, _ => exact Or.inr (Or.inr (Or.inl ⟨rfl, Or.inr ⟨_, rfl⟩⟩))
  | 3, _ => exact Or.inr (Or.inr (Or.inl ⟨rfl, Or.inr ⟨_, rfl⟩⟩))
  | 4, _ => exact Or.inr (Or.inr (Or.inl ⟨rfl, Or.inr ⟨_, rfl⟩⟩))
  | 5, _ => exact Or.inr (Or.inr (Or.inr ⟨rfl, rfl⟩))
  | 6, _ => exact Or.inl ⟨rfl, rfl⟩
  | 7, _ => exact Or.inl ⟨rfl, rfl⟩
  | k + 8, h => exact absurd h (by omega)
theorem am_CL2 : am_CL 2 RX2 TX2 5 tyX2 := by
  refine ⟨by decide, rfl, rfl, lyX2, tyX2_ok, nmX2, ?_, lzX2.1, lzX2.2⟩
  intro k hk
  match k, hk with
  | 0, _ => exact Or.inr (Or.inr (Or.inl ⟨rfl, Or.inl ⟨_, rfl⟩⟩))
  | 1, _ => exact Or.inr (Or.inr (Or.inl ⟨rfl, Or.inl ⟨_, rfl⟩⟩))
  | 2, _ => exact Or.inr (Or.inr (Or.inl ⟨rfl, Or.inr ⟨_, rfl⟩⟩))
  | 3, _ => exact Or.inl ⟨rfl, rfl⟩
  | 4, _ => exact Or.inr (Or.inr (Or.inl ⟨rfl, Or.inl ⟨_, rfl⟩⟩))
  | k + 5, h => exact absurd h (by omega)
theorem am_CL3 : am_CL 3 RX3 TX3 7 tyX3 := by
  refine ⟨by decide, rfl, rfl, lyX3, tyX3_ok, nmX3, ?_, lzX3.1, lzX3.2⟩
  intro k hk
  match k, hk with
  | 0, _ => exact Or.inr (Or.inr (Or.inl ⟨rfl, Or.inr ⟨_, rfl⟩⟩))
  | 1, _ => exact Or.inl ⟨rfl, rfl⟩
  | 2, _ => exact Or.inl ⟨rfl, rfl⟩
  | 3, _ => exact Or.inl ⟨rfl, rfl⟩
  | 4, _ => exact Or.inl ⟨rfl, rfl⟩
  | 5, _ => exact Or.inl ⟨rfl, rfl⟩
  | 6, _ => exact Or.inr (Or.inr (Or.inr ⟨rfl, rfl⟩))
  | k + 7, h => exact absurd h (by omega)
theorem am_CL4 : am_CL 4 RX4 TX4 12 tyX4 := by
  refine ⟨by decide, rfl, rfl, lyX4, tyX4_ok, nmX4, ?_, lzX4.1, lzX4.2⟩
  intro k hk
  match k, hk with
  | 0, _ => exact Or.inr (Or.inr (Or.inl ⟨rfl, Or.inr ⟨_, rfl⟩⟩))
  | 1, _ => exact Or.inr (Or.inr (Or.inl ⟨rfl, Or.inr ⟨_, rfl⟩⟩))
  | 2, _ => exact Or.inl ⟨rfl, rfl⟩
  | 3, _ => exact Or.inl ⟨rfl, rfl⟩
  | 4, _ => exact Or.inl ⟨rfl, rfl⟩
  | 5, _ => exact Or.inl ⟨rfl, rfl⟩
  | 6, _ => exact Or.inl ⟨rfl, rfl⟩
  | 7, _ => exact Or.inr (Or.inl ⟨rfl, rfl⟩)
  | 8, _ => exact Or.inl ⟨rfl, rfl⟩
  | 9, _ => exact Or.inl ⟨rfl, rfl⟩
  | 10, _ => exact Or.inl ⟨rfl, rfl⟩
  | 11, _ => exact Or.inl ⟨rfl, rfl⟩
  | k + 12, h => exact absurd h (by omega)
theorem am_CL5 : am_CL 5 RX5 TX5 19 tyX5 := by
  refine ⟨by decide, rfl, rfl, lyX5, tyX5_ok, nmX5, ?_, lzX5.1, lzX5.2⟩
  intro k hk
  match k, hk with
  | 0, _ => exact Or.inr (Or.inr (Or.inl ⟨rfl, Or.inr ⟨_, rfl⟩⟩))
  | 1, _ => exact Or.inr (Or.inr (Or.inl ⟨rfl, Or.inr ⟨_, rfl⟩⟩))
  | 2, _ => exact Or.inl ⟨rfl, rfl⟩
  | 3, _ => exact Or.inl ⟨rfl, rfl⟩
  | 4, _ => exact Or.inl ⟨rfl, rfl⟩
  | 5, _ => exact Or.inl ⟨rfl, rfl⟩
  | 6, _ => exact Or.inl ⟨rfl, rfl⟩
  | 7, _ => exact Or.inr (Or.inr (Or.inl ⟨rfl, Or.inr ⟨_, rfl⟩⟩))
  | 8, _ => exact Or.inr (Or.inr (Or.inl ⟨rfl, Or.inr ⟨_, rfl⟩⟩))
  | 9, _ => exact Or.inr (Or.inr (Or.inl ⟨rfl, Or.inr ⟨_, rfl⟩⟩))
  | 10, _ => exact Or.inr (Or.inr (Or.inl ⟨rfl, Or.inr ⟨_, rfl⟩⟩))
  | 11, _ => exact Or.inr (Or.inr (Or.inl ⟨rfl, Or.inr ⟨_, rfl⟩⟩))
  | 12, _ => exact Or.inr (Or.inr (Or.inl ⟨rfl, Or.inr ⟨_, rfl⟩⟩))
  | 13, _ => exact Or.inr (Or.inr (Or.inl ⟨rfl, Or.inr ⟨_, rfl⟩⟩))
  | 14, _ => exact Or.inr (Or.inr (Or.inl ⟨rfl, Or.inr ⟨_, rfl⟩⟩))
  | 15, _ => exact Or.inr (Or.inr (Or.inl ⟨rfl, Or.inr ⟨_, rfl⟩⟩))
  | 16, _ => exact Or.inr (Or.inr (Or.inl ⟨rfl, Or.inr ⟨_, rfl⟩⟩))
  | 17, _ => exact Or.inr (Or.inr (Or.inl ⟨rfl, Or.inr ⟨_, rfl⟩⟩))
  | 18, _ => exact Or.inr (Or.inr (Or.inl ⟨rfl, Or.inl ⟨_, rfl⟩⟩))
  | k + 19, h => exact absurd h (by omega)
theorem am_CL6 : am_CL 6 RX6 TX6 3 tyX6 := by
  refine ⟨by decide, rfl, rfl, lyX6, tyX6_ok, nmX6, ?_, lzX6.1, lzX6.2⟩
  intro k hk
  match k, hk with
  | 0, _ => exact Or.inr (Or.inr (Or.inl ⟨rfl, Or.inl ⟨_, rfl⟩⟩))
  | 1, _ => exact Or.inr (Or.inr (Or.inl ⟨rfl, Or.inl ⟨_, rfl⟩⟩))
  | 2, _ => exact Or.inr (Or.inr (Or.inr ⟨rfl, rfl⟩))
  | k + 3, h => exact absurd h (by omega)
theorem am_CL7 : am_CL 7 RX7 TX7 4 tyX7 := by
  refine ⟨by decide, rfl, rfl, lyX7, tyX7_ok, nmX7, ?_, lzX7.1, lzX7.2⟩
  intro k hk
  match k, hk with
  | 0, _ => exact Or.inr (Or.inr (Or.inl ⟨rfl, Or.inr ⟨_, rfl⟩⟩))
  | 1, _ => exact Or.inr (Or.inr (Or.inr ⟨rfl, rfl⟩))
  | 2, _ => exact Or.inl ⟨rfl, rfl⟩
  | 3, _ => exact Or.inl ⟨rfl, rfl⟩
  | k + 4, h => exact absurd h (by omega)
theorem am_CL8 : am_CL 8 RX8 TX8 18 tyX8 := by
  refine ⟨by decide, rfl, rfl, lyX8, tyX8_ok, nmX8, ?_, lzX8.1, lzX8.2⟩
  intro k hk
  match k, hk with
  | 0, _ => exact Or.inr (Or.inr (Or.inl ⟨rfl, Or.inr ⟨_, rfl⟩⟩))
  | 1, _ => exact Or.inr (Or.inr (Or.inl ⟨rfl, Or.inr ⟨_, rfl⟩⟩))
  | 2, _ => exact Or.inl ⟨rfl, rfl⟩
  | 3, _ => exact Or.inr (Or.inr (Or.inl ⟨rfl, Or.inl ⟨_, rfl⟩⟩))
  | 4, _ => exact Or.inr (Or.inr (Or.inl ⟨rfl, Or.inl ⟨_, rfl⟩⟩))
  | 5, _ => exact Or.inr (Or.inr (Or.inl ⟨rfl, Or.inr ⟨_, rfl⟩⟩))
  | 6, _ => exact Or.inl ⟨rfl, rfl⟩
  | 7, _ => exact Or.inr (Or.inr (Or.inl ⟨rfl, Or.inl ⟨_, rfl⟩⟩))
  | 8, _ => exact Or.inr (Or.inr (Or.inl ⟨rfl, Or.inl ⟨_, rfl⟩⟩))
  | 9, _ => exact Or.inr (Or.inr (Or.inl ⟨rfl, Or.inl ⟨_, rfl⟩⟩))
  | 10, _ => exact Or.inr (Or.inr (Or.inl ⟨rfl, Or.inl ⟨_, rfl⟩⟩))
  | 11, _ => exact Or.inr (Or.inr (Or.inl ⟨rfl, Or.inl ⟨_, rfl⟩⟩))
  | 12, _ => exact Or.inr (Or.inr (Or.inl ⟨rfl, Or.inr ⟨_, rfl⟩⟩))
  | 13, _ => exact Or.inr (Or.inr (Or.inr ⟨rfl, rfl⟩))
  | 14, _ => exact Or.inr (Or.inr (Or.inr ⟨rfl, rfl⟩))
  | 15, _ => exact Or.inl ⟨rfl, rfl⟩
  | 16, _ => exact Or.inr (Or.inl ⟨rfl, rfl⟩)
  | 17, _ => exact Or.inr (Or.inl ⟨rfl, rfl⟩)
  | k + 18, h => exact absurd h (by omega)
theorem am_CL9 : am_CL 9 RX9 TX9 42 tyX9 := by
  refine ⟨by decide, rfl, rfl, lyX9, tyX9_ok, nmX9, ?_, lzX9.1, lzX9.2⟩
  intro k hk
  match k, hk with
  | 0, _ => exact Or.inl ⟨rfl, rfl⟩
  | 1, _ => exact Or.inl ⟨rfl, rfl⟩
  | 2, _ => exact Or.inr (Or.inl ⟨rfl, rfl⟩)
  | 3, _ => exact Or.inr (Or.inl ⟨rfl, rfl⟩)
  | 4, _ => exact Or.inr (Or.inr (Or.inl ⟨rfl, Or.inr ⟨_, rfl⟩⟩))
  | 5, _ => exact Or.inr (Or.inr (Or.inl ⟨rfl, Or.inr ⟨_, rfl⟩⟩))
  | 6, _ => exact Or.inr (Or.inr (Or.inl ⟨rfl, Or.inr ⟨_, rfl⟩⟩))
  | 7, _ => exact Or.inr (Or.inr (Or.inl ⟨rfl, Or.inr ⟨_, rfl⟩⟩))
  | 8, _ => exact Or.inl ⟨rfl, rfl⟩
  | 9, _ => exact Or.inl ⟨rfl, rfl⟩
  | 10, _ => exact Or.inl ⟨rfl, rfl⟩
  | 11, _ => exact Or.inl ⟨rfl, rfl⟩
  | 12, _ => exact Or.inl ⟨rfl, rfl⟩
  | 13, _ => exact Or.inl ⟨rfl, rfl⟩
  | 14, _ => exact Or.inl ⟨rfl, rfl⟩
  | 15, _ => exact Or.inl ⟨rfl, rfl⟩
  | 16, _ => exact Or.inl ⟨rfl, rfl⟩
  | 17, _ => exact Or.inl ⟨rfl, rfl⟩
  | 18, _ => exact Or.inl ⟨rfl, rfl⟩
  | 19, _ => exact Or.inr (Or.inl ⟨rfl, rfl⟩)
  | 20, _ => exact Or.inr (Or.inr (Or.inl ⟨rfl, Or.inr ⟨_, rfl⟩⟩))
  | 21, _ => exact Or.inr (Or.inr (Or.inl ⟨rfl, Or.inr ⟨_, rfl⟩⟩))
  | 22, _ => exact Or.inr (Or.inr (Or.inl ⟨rfl, Or.inr ⟨_, rfl⟩⟩))
  | 23, _ => exact Or.inl ⟨rfl, rfl⟩
  | 24, _ => exact Or.inr (Or.inr (Or.inr ⟨rfl, rfl⟩))
  | 25, _ => exact Or.inl ⟨rfl, rfl⟩
  | 26, _ => exact Or.inr (Or.inr (Or.inl ⟨rfl, Or.inr ⟨_, rfl⟩⟩))
  | 27, _ => exact Or.inr (Or.inr (Or.inl ⟨rfl, Or.inr ⟨_, rfl⟩⟩))
  | 28, _ => exact Or.inr (Or.inr (Or.inl ⟨rfl, Or.inr ⟨_, rfl⟩⟩))
  | 29, _ => exact Or.inl ⟨rfl, rfl⟩
  | 30, _ => exact Or.inl ⟨rfl, rfl⟩
  | 31, _ => exact Or.inl ⟨rfl, rfl⟩
  | 32, _ => exact Or.inr (Or.inr (Or.inl ⟨rfl, Or.inr ⟨_, rfl⟩⟩))
  | 33, _ => exact Or.inr (Or.inr (Or.inr ⟨rfl, rfl⟩))
  | 34, _ => exact Or.inr (Or.inr (Or.inr ⟨rfl, rfl⟩))
  | 35, _ => exact Or.inl ⟨rfl, rfl⟩
  | 36, _ => exact Or.inl ⟨rfl, rfl⟩
  | 37, _ => exact Or.inl ⟨rfl, rfl⟩
  | 38, _ => exact Or.inl ⟨rfl, rfl⟩
  | 39, _ => exact Or.inl ⟨rfl, rfl⟩
  | 40, _ => exact Or.inl ⟨rfl, rfl⟩
  | 41, _ => exact Or.inl ⟨rfl, rfl⟩
  | k + 42, h => exact absurd h (by omega)
theorem am_libw : am_lib := ⟨⟨am_gd (i := 186) (by decide +kernel) (by decide +kernel), am_gd (i := 187) (by decide +kernel) (by decide +kernel)⟩, ⟨am_gd (i := 178) (by decide +kernel) (by decide +kernel), am_gd (i := 177) (by decide +kernel) (by decide +kernel)⟩, ⟨am_gd (i := 1060) (by decide +kernel) (by decide +kernel), am_gd (i := 1061) (by decide +kernel) (by decide +kernel)⟩, ⟨am_gd (i := 694) (by decide +kernel) (by decide +kernel), am_gd (i := 695) (by decide +kernel) (by decide +kernel)⟩, ⟨am_gd (i := 2139) (by decide +kernel) (by decide +kernel), am_gd (i := 2140) (by decide +kernel) (by decide +kernel)⟩, ⟨am_gd (i := 676) (by decide +kernel) (by decide +kernel), am_gd (i := 675) (by decide +kernel) (by decide +kernel)⟩, am_gd (i := 269) (by decide +kernel) (by decide +kernel), am_gd (i := 268) (by decide +kernel) (by decide +kernel), am_gd (i := 214) (by decide +kernel) (by decide +kernel)⟩
theorem mkX0_init : am_MK mX0_init 0 := ⟨by decide +kernel, am_gd (i := 507) (by decide +kernel) (by decide +kernel), lzX0.2, ⟨by decide +kernel, by decide +kernel⟩, by decide, by decide +kernel⟩
theorem mkX0_weigh : am_MK mX0_weigh 1 := ⟨by decide +kernel, am_gd (i := 1094) (by decide +kernel) (by decide +kernel), lzX0.2, ⟨by decide +kernel, by decide +kernel⟩, by decide, by decide +kernel⟩
theorem mkX0_findBest : am_MK mX0_findBest 2 := ⟨by decide +kernel, am_gd (i := 1090) (by decide +kernel) (by decide +kernel), lzX0.2, ⟨by decide +kernel, by decide +kernel⟩, by decide, by decide +kernel⟩
theorem mkX0_mostBySet : am_MK mX0_mostBySet 3 := ⟨by decide +kernel, am_gd (i := 1099) (by decide +kernel) (by decide +kernel), lzX0.2, ⟨by decide +kernel, by decide +kernel⟩, by decide, by decide +kernel⟩
theorem mkX0_bySet : am_MK mX0_bySet 3 := ⟨by decide +kernel, am_gd (i := 1103) (by decide +kernel) (by decide +kernel), lzX0.2, ⟨by decide +kernel, by decide +kernel⟩, by decide, by decide +kernel⟩
theorem mkX0_findBestSet : am_MK mX0_findBestSet 3 := ⟨by decide +kernel, am_gd (i := 1112) (by decide +kernel) (by decide +kernel), lzX0.2, ⟨by decide +kernel, by decide +kernel⟩, by decide, by decide +kernel⟩
theorem mkX0_firstBest : am_MK mX0_firstBest 3 := ⟨by decide +kernel, am_gd (i := 1117) (by decide +kernel) (by decide +kernel), lzX0.2, ⟨by decide +kernel, by decide +kernel⟩, by decide, by decide +kernel⟩
theorem mkX0_makeTrades : am_MK mX0_makeTrades 1 := ⟨by decide +kernel, am_gd (i := 1125) (by decide +kernel) (by decide +kernel), lzX0.2, ⟨by decide +kernel, by decide +kernel⟩, by decide, by decide +kernel⟩
theorem mkX0_firstSetOf : am_MK mX0_firstSetOf 2 := ⟨by decide +kernel, am_gd (i := 1128) (by decide +kernel) (by decide +kernel), lzX0.2, ⟨by decide +kernel, by decide +kernel⟩, by decide, by decide +kernel⟩
theorem mkX0_pointsTo : am_MK mX0_pointsTo 3 := ⟨by decide +kernel, am_gd (i := 1132) (by decide +kernel) (by decide +kernel), lzX0.2, ⟨by decide +kernel, by decide +kernel⟩, by decide, by decide +kernel⟩
theorem mkX0_isBetter : am_MK mX0_isBetter 3 := ⟨by decide +kernel, am_gd (i := 1136) (by decide +kernel) (by decide +kernel), lzX0.2, ⟨by decide +kernel, by decide +kernel⟩, by decide, by decide +kernel⟩
theorem mkX0_leaveInRings : am_MK mX0_leaveInRings 2 := ⟨by decide +kernel, am_gd (i := 1140) (by decide +kernel) (by decide +kernel), lzX0.2, ⟨by decide +kernel, by decide +kernel⟩, by decide, by decide +kernel⟩
theorem mkX0_isInRing : am_MK mX0_isInRing 1 := ⟨by decide +kernel, am_gd (i := 1144) (by decide +kernel) (by decide +kernel), lzX0.2, ⟨by decide +kernel, by decide +kernel⟩, by decide, by decide +kernel⟩
theorem mkX0_mostWorth : am_MK mX0_mostWorth 3 := ⟨by decide +kernel, am_gd (i := 1156) (by decide +kernel) (by decide +kernel), lzX0.2, ⟨by decide +kernel, by decide +kernel⟩, by decide, by decide +kernel⟩
theorem mkX0_findPick : am_MK mX0_findPick 3 := ⟨by decide +kernel, am_gd (i := 1172) (by decide +kernel) (by decide +kernel), lzX0.2, ⟨by decide +kernel, by decide +kernel⟩, by decide, by decide +kernel⟩
theorem mkX0_firstMost : am_MK mX0_firstMost 3 := ⟨by decide +kernel, am_gd (i := 1176) (by decide +kernel) (by decide +kernel), lzX0.2, ⟨by decide +kernel, by decide +kernel⟩, by decide, by decide +kernel⟩
theorem mkX0_playGame : am_MK mX0_playGame 4 := ⟨by decide +kernel, am_gd (i := 1262) (by decide +kernel) (by decide +kernel), lzX0.2, ⟨by decide +kernel, by decide +kernel⟩, by decide, by decide +kernel⟩
theorem mkX0_firstsBest : am_MK mX0_firstsBest 4 := ⟨by decide +kernel, am_gd (i := 1267) (by decide +kernel) (by decide +kernel), lzX0.2, ⟨by decide +kernel, by decide +kernel⟩, by decide, by decide +kernel⟩
theorem mkX0_secondsBest : am_MK mX0_secondsBest 4 := ⟨by decide +kernel, am_gd (i := 1271) (by decide +kernel) (by decide +kernel), lzX0.2, ⟨by decide +kernel, by decide +kernel⟩, by decide, by decide +kernel⟩
theorem mkX0_findMove : am_MK mX0_findMove 4 := ⟨by decide +kernel, am_gd (i := 1280) (by decide +kernel) (by decide +kernel), lzX0.2, ⟨by decide +kernel, by decide +kernel⟩, by decide, by decide +kernel⟩
theorem mkX1_init : am_MK mX1_init 0 := ⟨by decide +kernel, am_gd (i := 225) (by decide +kernel) (by decide +kernel), lzX1.2, ⟨by decide +kernel, by decide +kernel⟩, by decide, by decide +kernel⟩
theorem mkX1_clear : am_MK mX1_clear 0 := ⟨by decide +kernel, am_gd (i := 719) (by decide +kernel) (by decide +kernel), lzX1.2, ⟨by decide +kernel, by decide +kernel⟩, by decide, by decide +kernel⟩
theorem mkX1_take : am_MK mX1_take 1 := ⟨by decide +kernel, am_gd (i := 866) (by decide +kernel) (by decide +kernel), lzX1.2, ⟨by decide +kernel, by decide +kernel⟩, by decide, by decide +kernel⟩
theorem mkX2_init : am_MK mX2_init 1 := ⟨by decide +kernel, am_gd (i := 482) (by decide +kernel) (by decide +kernel), lzX2.2, ⟨by decide +kernel, by decide +kernel⟩, by decide, by decide +kernel⟩
theorem mkX2_readsFor : am_MK mX2_readsFor 1 := ⟨by decide +kernel, am_gd (i := 820) (by decide +kernel) (by decide +kernel), lzX2.2, ⟨by decide +kernel, by decide +kernel⟩, by decide, by decide +kernel⟩
theorem mkX2_readsNext : am_MK mX2_readsNext 0 := ⟨by decide +kernel, am_gd (i := 825) (by decide +kernel) (by decide +kernel), lzX2.2, ⟨by decide +kernel, by decide +kernel⟩, by decide, by decide +kernel⟩
theorem mkX2_isStep : am_MK mX2_isStep 1 := ⟨by decide +kernel, am_gd (i := 835) (by decide +kernel) (by decide +kernel), lzX2.2, ⟨by decide +kernel, by decide +kernel⟩, by decide, by decide +kernel⟩
theorem mkX2_adds : am_MK mX2_adds 1 := ⟨by decide +kernel, am_gd (i := 840) (by decide +kernel) (by decide +kernel), lzX2.2, ⟨by decide +kernel, by decide +kernel⟩, by decide, by decide +kernel⟩
theorem mkX2_readsEnd : am_MK mX2_readsEnd 0 := ⟨by decide +kernel, am_gd (i := 829) (by decide +kernel) (by decide +kernel), lzX2.2, ⟨by decide +kernel, by decide +kernel⟩, by decide, by decide +kernel⟩
theorem mkX2_readsTestWord : am_MK mX2_readsTestWord 1 := ⟨by decide +kernel, am_gd (i := 844) (by decide +kernel) (by decide +kernel), lzX2.2, ⟨by decide +kernel, by decide +kernel⟩, by decide, by decide +kernel⟩
theorem mkX2_readsRest : am_MK mX2_readsRest 1 := ⟨by decide +kernel, am_gd (i := 848) (by decide +kernel) (by decide +kernel), lzX2.2, ⟨by decide +kernel, by decide +kernel⟩, by decide, by decide +kernel⟩
theorem mkX2_readsCompares : am_MK mX2_readsCompares 1 := ⟨by decide +kernel, am_gd (i := 862) (by decide +kernel) (by decide +kernel), lzX2.2, ⟨by decide +kernel, by decide +kernel⟩, by decide, by decide +kernel⟩
theorem mkX2_readsFirst : am_MK mX2_readsFirst 2 := ⟨by decide +kernel, am_gd (i := 853) (by decide +kernel) (by decide +kernel), lzX2.2, ⟨by decide +kernel, by decide +kernel⟩, by decide, by decide +kernel⟩
theorem mkX2_readsSecond : am_MK mX2_readsSecond 2 := ⟨by decide +kernel, am_gd (i := 858) (by decide +kernel) (by decide +kernel), lzX2.2, ⟨by decide +kernel, by decide +kernel⟩, by decide, by decide +kernel⟩
theorem mkX3_init : am_MK mX3_init 0 := ⟨by decide +kernel, am_gd (i := 531) (by decide +kernel) (by decide +kernel), lzX3.2, ⟨by decide +kernel, by decide +kernel⟩, by decide, by decide +kernel⟩
theorem mkX3_play : am_MK mX3_play 2 := ⟨by decide +kernel, am_gd (i := 1304) (by decide +kernel) (by decide +kernel), lzX3.2, ⟨by decide +kernel, by decide +kernel⟩, by decide, by decide +kernel⟩
theorem mkX3_placeBehindEnd : am_MK mX3_placeBehindEnd 2 := ⟨by decide +kernel, am_gd (i := 1309) (by decide +kernel) (by decide +kernel), lzX3.2, ⟨by decide +kernel, by decide +kernel⟩, by decide, by decide +kernel⟩
theorem mkX3_placeBehindOpener : am_MK mX3_placeBehindOpener 2 := ⟨by decide +kernel, am_gd (i := 1313) (by decide +kernel) (by decide +kernel), lzX3.2, ⟨by decide +kernel, by decide +kernel⟩, by decide, by decide +kernel⟩
theorem mkX3_holds : am_MK mX3_holds 2 := ⟨by decide +kernel, am_gd (i := 1316) (by decide +kernel) (by decide +kernel), lzX3.2, ⟨by decide +kernel, by decide +kernel⟩, by decide, by decide +kernel⟩
theorem mkX3_does : am_MK mX3_does 2 := ⟨by decide +kernel, am_gd (i := 1321) (by decide +kernel) (by decide +kernel), lzX3.2, ⟨by decide +kernel, by decide +kernel⟩, by decide, by decide +kernel⟩
theorem mkX3_doesHours : am_MK mX3_doesHours 2 := ⟨by decide +kernel, am_gd (i := 1325) (by decide +kernel) (by decide +kernel), lzX3.2, ⟨by decide +kernel, by decide +kernel⟩, by decide, by decide +kernel⟩
theorem mkX3_doesYears : am_MK mX3_doesYears 2 := ⟨by decide +kernel, am_gd (i := 1331) (by decide +kernel) (by decide +kernel), lzX3.2, ⟨by decide +kernel, by decide +kernel⟩, by decide, by decide +kernel⟩
theorem mkX3_doesAny : am_MK mX3_doesAny 1 := ⟨by decide +kernel, am_gd (i := 1342) (by decide +kernel) (by decide +kernel), lzX3.2, ⟨by decide +kernel, by decide +kernel⟩, by decide, by decide +kernel⟩
theorem mkX3_draw : am_MK mX3_draw 1 := ⟨by decide +kernel, am_gd (i := 1346) (by decide +kernel) (by decide +kernel), lzX3.2, ⟨by decide +kernel, by decide +kernel⟩, by decide, by decide +kernel⟩
theorem mkX4_init : am_MK mX4_init 1 := ⟨by decide +kernel, am_gd (i := 366) (by decide +kernel) (by decide +kernel), lzX4.2, ⟨by decide +kernel, by decide +kernel⟩, by decide, by decide +kernel⟩
theorem mkX4_open : am_MK mX4_open 1 := ⟨by decide +kernel, am_gd (i := 692) (by decide +kernel) (by decide +kernel), lzX4.2, ⟨by decide +kernel, by decide +kernel⟩, by decide, by decide +kernel⟩
theorem mkX4_advance : am_MK mX4_advance 0 := ⟨by decide +kernel, am_gd (i := 699) (by decide +kernel) (by decide +kernel), lzX4.2, ⟨by decide +kernel, by decide +kernel⟩, by decide, by decide +kernel⟩
theorem mkX4_advanceWord : am_MK mX4_advanceWord 0 := ⟨by decide +kernel, am_gd (i := 703) (by decide +kernel) (by decide +kernel), lzX4.2, ⟨by decide +kernel, by decide +kernel⟩, by decide, by decide +kernel⟩
theorem mkX4_advanceNumber : am_MK mX4_advanceNumber 0 := ⟨by decide +kernel, am_gd (i := 707) (by decide +kernel) (by decide +kernel), lzX4.2, ⟨by decide +kernel, by decide +kernel⟩, by decide, by decide +kernel⟩
theorem mkX4_fail : am_MK mX4_fail 1 := ⟨by decide +kernel, am_gd (i := 731) (by decide +kernel) (by decide +kernel), lzX4.2, ⟨by decide +kernel, by decide +kernel⟩, by decide, by decide +kernel⟩
theorem mkX4_refuses : am_MK mX4_refuses 0 := ⟨by decide +kernel, am_gd (i := 740) (by decide +kernel) (by decide +kernel), lzX4.2, ⟨by decide +kernel, by decide +kernel⟩, by decide, by decide +kernel⟩
theorem mkX4_takes : am_MK mX4_takes 1 := ⟨by decide +kernel, am_gd (i := 745) (by decide +kernel) (by decide +kernel), lzX4.2, ⟨by decide +kernel, by decide +kernel⟩, by decide, by decide +kernel⟩
theorem mkX4_takesNumber : am_MK mX4_takesNumber 2 := ⟨by decide +kernel, am_gd (i := 736) (by decide +kernel) (by decide +kernel), lzX4.2, ⟨by decide +kernel, by decide +kernel⟩, by decide, by decide +kernel⟩
theorem mkX4_isNameOf : am_MK mX4_isNameOf 2 := ⟨by decide +kernel, am_gd (i := 781) (by decide +kernel) (by decide +kernel), lzX4.2, ⟨by decide +kernel, by decide +kernel⟩, by decide, by decide +kernel⟩
theorem mkX4_takesName : am_MK mX4_takesName 2 := ⟨by decide +kernel, am_gd (i := 798) (by decide +kernel) (by decide +kernel), lzX4.2, ⟨by decide +kernel, by decide +kernel⟩, by decide, by decide +kernel⟩
theorem mkX4_takesNewName : am_MK mX4_takesNewName 2 := ⟨by decide +kernel, am_gd (i := 757) (by decide +kernel) (by decide +kernel), lzX4.2, ⟨by decide +kernel, by decide +kernel⟩, by decide, by decide +kernel⟩
theorem mkX5_init : am_MK mX5_init 0 := ⟨by decide +kernel, am_gd (i := 219) (by decide +kernel) (by decide +kernel), lzX5.2, ⟨by decide +kernel, by decide +kernel⟩, by decide, by decide +kernel⟩
theorem mkX5_clear : am_MK mX5_clear 0 := ⟨by decide +kernel, am_gd (i := 715) (by decide +kernel) (by decide +kernel), lzX5.2, ⟨by decide +kernel, by decide +kernel⟩, by decide, by decide +kernel⟩
theorem mkX5_take : am_MK mX5_take 1 := ⟨by decide +kernel, am_gd (i := 1359) (by decide +kernel) (by decide +kernel), lzX5.2, ⟨by decide +kernel, by decide +kernel⟩, by decide, by decide +kernel⟩
theorem mkX5_find : am_MK mX5_find 2 := ⟨by decide +kernel, am_gd (i := 765) (by decide +kernel) (by decide +kernel), lzX5.2, ⟨by decide +kernel, by decide +kernel⟩, by decide, by decide +kernel⟩
theorem mkX5_isTaken : am_MK mX5_isTaken 1 := ⟨by decide +kernel, am_gd (i := 761) (by decide +kernel) (by decide +kernel), lzX5.2, ⟨by decide +kernel, by decide +kernel⟩, by decide, by decide +kernel⟩
theorem mkX5_isFull : am_MK mX5_isFull 1 := ⟨by decide +kernel, am_gd (i := 753) (by decide +kernel) (by decide +kernel), lzX5.2, ⟨by decide +kernel, by decide +kernel⟩, by decide, by decide +kernel⟩
theorem mkX5_add : am_MK mX5_add 2 := ⟨by decide +kernel, am_gd (i := 769) (by decide +kernel) (by decide +kernel), lzX5.2, ⟨by decide +kernel, by decide +kernel⟩, by decide, by decide +kernel⟩
theorem mkX5_addToRow : am_MK mX5_addToRow 2 := ⟨by decide +kernel, am_gd (i := 786) (by decide +kernel) (by decide +kernel), lzX5.2, ⟨by decide +kernel, by decide +kernel⟩, by decide, by decide +kernel⟩
theorem mkX5_setsOf : am_MK mX5_setsOf 1 := ⟨by decide +kernel, am_gd (i := 879) (by decide +kernel) (by decide +kernel), lzX5.2, ⟨by decide +kernel, by decide +kernel⟩, by decide, by decide +kernel⟩
theorem mkX5_voicesIn : am_MK mX5_voicesIn 1 := ⟨by decide +kernel, am_gd (i := 935) (by decide +kernel) (by decide +kernel), lzX5.2, ⟨by decide +kernel, by decide +kernel⟩, by decide, by decide +kernel⟩
theorem mkX5_voicesOf : am_MK mX5_voicesOf 1 := ⟨by decide +kernel, am_gd (i := 931) (by decide +kernel) (by decide +kernel), lzX5.2, ⟨by decide +kernel, by decide +kernel⟩, by decide, by decide +kernel⟩
theorem mkX5_hearersOf : am_MK mX5_hearersOf 1 := ⟨by decide +kernel, am_gd (i := 1069) (by decide +kernel) (by decide +kernel), lzX5.2, ⟨by decide +kernel, by decide +kernel⟩, by decide, by decide +kernel⟩
theorem mkX5_coinsOfAll : am_MK mX5_coinsOfAll 0 := ⟨by decide +kernel, am_gd (i := 883) (by decide +kernel) (by decide +kernel), lzX5.2, ⟨by decide +kernel, by decide +kernel⟩, by decide, by decide +kernel⟩
theorem mkX5_gladOfAll : am_MK mX5_gladOfAll 0 := ⟨by decide +kernel, am_gd (i := 887) (by decide +kernel) (by decide +kernel), lzX5.2, ⟨by decide +kernel, by decide +kernel⟩, by decide, by decide +kernel⟩
theorem mkX5_isLiving : am_MK mX5_isLiving 1 := ⟨by decide +kernel, am_gd (i := 959) (by decide +kernel) (by decide +kernel), lzX5.2, ⟨by decide +kernel, by decide +kernel⟩, by decide, by decide +kernel⟩
theorem mkX5_hasCold : am_MK mX5_hasCold 1 := ⟨by decide +kernel, am_gd (i := 997) (by decide +kernel) (by decide +kernel), lzX5.2, ⟨by decide +kernel, by decide +kernel⟩, by decide, by decide +kernel⟩
theorem mkX5_placedAt : am_MK mX5_placedAt 2 := ⟨by decide +kernel, am_gd (i := 1030) (by decide +kernel) (by decide +kernel), lzX5.2, ⟨by decide +kernel, by decide +kernel⟩, by decide, by decide +kernel⟩
theorem mkX5_saysAt : am_MK mX5_saysAt 2 := ⟨by decide +kernel, am_gd (i := 1026) (by decide +kernel) (by decide +kernel), lzX5.2, ⟨by decide +kernel, by decide +kernel⟩, by decide, by decide +kernel⟩
theorem mkX5_heardAt : am_MK mX5_heardAt 2 := ⟨by decide +kernel, am_gd (i := 939) (by decide +kernel) (by decide +kernel), lzX5.2, ⟨by decide +kernel, by decide +kernel⟩, by decide, by decide +kernel⟩
theorem mkX5_joyBy : am_MK mX5_joyBy 2 := ⟨by decide +kernel, am_gd (i := 943) (by decide +kernel) (by decide +kernel), lzX5.2, ⟨by decide +kernel, by decide +kernel⟩, by decide, by decide +kernel⟩
theorem mkX5_joyAhead : am_MK mX5_joyAhead 3 := ⟨by decide +kernel, am_gd (i := 1044) (by decide +kernel) (by decide +kernel), lzX5.2, ⟨by decide +kernel, by decide +kernel⟩, by decide, by decide +kernel⟩
theorem mkX5_worthTo : am_MK mX5_worthTo 2 := ⟨by decide +kernel, am_gd (i := 1077) (by decide +kernel) (by decide +kernel), lzX5.2, ⟨by decide +kernel, by decide +kernel⟩, by decide, by decide +kernel⟩
theorem mkX5_hasHours : am_MK mX5_hasHours 1 := ⟨by decide +kernel, am_gd (i := 923) (by decide +kernel) (by decide +kernel), lzX5.2, ⟨by decide +kernel, by decide +kernel⟩, by decide, by decide +kernel⟩
theorem mkX5_hasYears : am_MK mX5_hasYears 1 := ⟨by decide +kernel, am_gd (i := 951) (by decide +kernel) (by decide +kernel), lzX5.2, ⟨by decide +kernel, by decide +kernel⟩, by decide, by decide +kernel⟩
theorem mkX5_passHours : am_MK mX5_passHours 1 := ⟨by decide +kernel, am_gd (i := 927) (by decide +kernel) (by decide +kernel), lzX5.2, ⟨by decide +kernel, by decide +kernel⟩, by decide, by decide +kernel⟩
theorem mkX5_passYears : am_MK mX5_passYears 1 := ⟨by decide +kernel, am_gd (i := 955) (by decide +kernel) (by decide +kernel), lzX5.2, ⟨by decide +kernel, by decide +kernel⟩, by decide, by decide +kernel⟩
theorem mkX5_makesSale : am_MK mX5_makesSale 3 := ⟨by decide +kernel, am_gd (i := 967) (by decide +kernel) (by decide +kernel), lzX5.2, ⟨by decide +kernel, by decide +kernel⟩, by decide, by decide +kernel⟩
theorem mkX5_makesGift : am_MK mX5_makesGift 2 := ⟨by decide +kernel, am_gd (i := 975) (by decide +kernel) (by decide +kernel), lzX5.2, ⟨by decide +kernel, by decide +kernel⟩, by decide, by decide +kernel⟩
theorem mkX5_catchesCold : am_MK mX5_catchesCold 1 := ⟨by decide +kernel, am_gd (i := 993) (by decide +kernel) (by decide +kernel), lzX5.2, ⟨by decide +kernel, by decide +kernel⟩, by decide, by decide +kernel⟩
theorem mkX5_getsWell : am_MK mX5_getsWell 1 := ⟨by decide +kernel, am_gd (i := 1001) (by decide +kernel) (by decide +kernel), lzX5.2, ⟨by decide +kernel, by decide +kernel⟩, by decide, by decide +kernel⟩
theorem mkX5_voicesThatFit : am_MK mX5_voicesThatFit 2 := ⟨by decide +kernel, am_gd (i := 1190) (by decide +kernel) (by decide +kernel), lzX5.2, ⟨by decide +kernel, by decide +kernel⟩, by decide, by decide +kernel⟩
theorem mkX5_hourThatParts : am_MK mX5_hourThatParts 1 := ⟨by decide +kernel, am_gd (i := 1198) (by decide +kernel) (by decide +kernel), lzX5.2, ⟨by decide +kernel, by decide +kernel⟩, by decide, by decide +kernel⟩
theorem mkX5_mostWithOne : am_MK mX5_mostWithOne 2 := ⟨by decide +kernel, am_gd (i := 1202) (by decide +kernel) (by decide +kernel), lzX5.2, ⟨by decide +kernel, by decide +kernel⟩, by decide, by decide +kernel⟩
theorem mkX5_leastLike : am_MK mX5_leastLike 2 := ⟨by decide +kernel, am_gd (i := 1219) (by decide +kernel) (by decide +kernel), lzX5.2, ⟨by decide +kernel, by decide +kernel⟩, by decide, by decide +kernel⟩
theorem mkX5_likeOfAll : am_MK mX5_likeOfAll 2 := ⟨by decide +kernel, am_gd (i := 1224) (by decide +kernel) (by decide +kernel), lzX5.2, ⟨by decide +kernel, by decide +kernel⟩, by decide, by decide +kernel⟩
theorem mkX5_subjectOfPeace : am_MK mX5_subjectOfPeace 1 := ⟨by decide +kernel, am_gd (i := 1215) (by decide +kernel) (by decide +kernel), lzX5.2, ⟨by decide +kernel, by decide +kernel⟩, by decide, by decide +kernel⟩
theorem mkX5_fansAmong : am_MK mX5_fansAmong 2 := ⟨by decide +kernel, am_gd (i := 1245) (by decide +kernel) (by decide +kernel), lzX5.2, ⟨by decide +kernel, by decide +kernel⟩, by decide, by decide +kernel⟩
theorem mkX5_popularAmong : am_MK mX5_popularAmong 1 := ⟨by decide +kernel, am_gd (i := 1241) (by decide +kernel) (by decide +kernel), lzX5.2, ⟨by decide +kernel, by decide +kernel⟩, by decide, by decide +kernel⟩
theorem mkX6_init : am_MK mX6_init 1 := ⟨by decide +kernel, am_gd (i := 466) (by decide +kernel) (by decide +kernel), lzX6.2, ⟨by decide +kernel, by decide +kernel⟩, by decide, by decide +kernel⟩
theorem mkX6_readsInto : am_MK mX6_readsInto 1 := ⟨by decide +kernel, am_gd (i := 711) (by decide +kernel) (by decide +kernel), lzX6.2, ⟨by decide +kernel, by decide +kernel⟩, by decide, by decide +kernel⟩
theorem mkX6_readsPart : am_MK mX6_readsPart 0 := ⟨by decide +kernel, am_gd (i := 723) (by decide +kernel) (by decide +kernel), lzX6.2, ⟨by decide +kernel, by decide +kernel⟩, by decide, by decide +kernel⟩
theorem mkX6_readsNew : am_MK mX6_readsNew 1 := ⟨by decide +kernel, am_gd (i := 749) (by decide +kernel) (by decide +kernel), lzX6.2, ⟨by decide +kernel, by decide +kernel⟩, by decide, by decide +kernel⟩
theorem mkX6_readsOdds : am_MK mX6_readsOdds 0 := ⟨by decide +kernel, am_gd (i := 727) (by decide +kernel) (by decide +kernel), lzX6.2, ⟨by decide +kernel, by decide +kernel⟩, by decide, by decide +kernel⟩
theorem mkX6_readsVoice : am_MK mX6_readsVoice 1 := ⟨by decide +kernel, am_gd (i := 773) (by decide +kernel) (by decide +kernel), lzX6.2, ⟨by decide +kernel, by decide +kernel⟩, by decide, by decide +kernel⟩
theorem mkX6_readsRow : am_MK mX6_readsRow 1 := ⟨by decide +kernel, am_gd (i := 777) (by decide +kernel) (by decide +kernel), lzX6.2, ⟨by decide +kernel, by decide +kernel⟩, by decide, by decide +kernel⟩
theorem mkX6_readsPerson : am_MK mX6_readsPerson 1 := ⟨by decide +kernel, am_gd (i := 790) (by decide +kernel) (by decide +kernel), lzX6.2, ⟨by decide +kernel, by decide +kernel⟩, by decide, by decide +kernel⟩
theorem mkX6_readsLikes : am_MK mX6_readsLikes 0 := ⟨by decide +kernel, am_gd (i := 794) (by decide +kernel) (by decide +kernel), lzX6.2, ⟨by decide +kernel, by decide +kernel⟩, by decide, by decide +kernel⟩
theorem mkX6_readsSet : am_MK mX6_readsSet 1 := ⟨by decide +kernel, am_gd (i := 803) (by decide +kernel) (by decide +kernel), lzX6.2, ⟨by decide +kernel, by decide +kernel⟩, by decide, by decide +kernel⟩
theorem mkX6_readsFlaw : am_MK mX6_readsFlaw 1 := ⟨by decide +kernel, am_gd (i := 807) (by decide +kernel) (by decide +kernel), lzX6.2, ⟨by decide +kernel, by decide +kernel⟩, by decide, by decide +kernel⟩
theorem mkX7_init : am_MK mX7_init 0 := ⟨by decide +kernel, am_gd (i := 193) (by decide +kernel) (by decide +kernel), lzX7.2, ⟨by decide +kernel, by decide +kernel⟩, by decide, by decide +kernel⟩
theorem mkX7_lay : am_MK mX7_lay 2 := ⟨by decide +kernel, am_gd (i := 641) (by decide +kernel) (by decide +kernel), lzX7.2, ⟨by decide +kernel, by decide +kernel⟩, by decide, by decide +kernel⟩
theorem mkX7_hasRun : am_MK mX7_hasRun 2 := ⟨by decide +kernel, am_gd (i := 657) (by decide +kernel) (by decide +kernel), lzX7.2, ⟨by decide +kernel, by decide +kernel⟩, by decide, by decide +kernel⟩
theorem mkX7_put : am_MK mX7_put 2 := ⟨by decide +kernel, am_gd (i := 661) (by decide +kernel) (by decide +kernel), lzX7.2, ⟨by decide +kernel, by decide +kernel⟩, by decide, by decide +kernel⟩
theorem mkX8_init : am_MK mX8_init 0 := ⟨by decide +kernel, am_gd (i := 184) (by decide +kernel) (by decide +kernel), lzX8.2, ⟨by decide +kernel, by decide +kernel⟩, by decide, by decide +kernel⟩
theorem mkX8_status : am_MK mX8_status 0 := ⟨by decide +kernel, am_gd (i := 618) (by decide +kernel) (by decide +kernel), lzX8.2, ⟨by decide +kernel, by decide +kernel⟩, by decide, by decide +kernel⟩
theorem mkX8_top : am_MK mX8_top 0 := ⟨by decide +kernel, am_gd (i := 622) (by decide +kernel) (by decide +kernel), lzX8.2, ⟨by decide +kernel, by decide +kernel⟩, by decide, by decide +kernel⟩
theorem mkX8_bottom : am_MK mX8_bottom 0 := ⟨by decide +kernel, am_gd (i := 626) (by decide +kernel) (by decide +kernel), lzX8.2, ⟨by decide +kernel, by decide +kernel⟩, by decide, by decide +kernel⟩
theorem mkX8_tray : am_MK mX8_tray 3 := ⟨by decide +kernel, am_gd (i := 630) (by decide +kernel) (by decide +kernel), lzX8.2, ⟨by decide +kernel, by decide +kernel⟩, by decide, by decide +kernel⟩
theorem mkX8_write : am_MK mX8_write 3 := ⟨by decide +kernel, am_gd (i := 649) (by decide +kernel) (by decide +kernel), lzX8.2, ⟨by decide +kernel, by decide +kernel⟩, by decide, by decide +kernel⟩
theorem mkX8_read : am_MK mX8_read 2 := ⟨by decide +kernel, am_gd (i := 665) (by decide +kernel) (by decide +kernel), lzX8.2, ⟨by decide +kernel, by decide +kernel⟩, by decide, by decide +kernel⟩
theorem mkX8_pour : am_MK mX8_pour 5 := ⟨by decide +kernel, am_gd (i := 673) (by decide +kernel) (by decide +kernel), lzX8.2, ⟨by decide +kernel, by decide +kernel⟩, by decide, by decide +kernel⟩
theorem mkX8_isTray : am_MK mX8_isTray 1 := ⟨by decide +kernel, am_gd (i := 633) (by decide +kernel) (by decide +kernel), lzX8.2, ⟨by decide +kernel, by decide +kernel⟩, by decide, by decide +kernel⟩
theorem mkX8_placeStatus : am_MK mX8_placeStatus 2 := ⟨by decide +kernel, am_gd (i := 653) (by decide +kernel) (by decide +kernel), lzX8.2, ⟨by decide +kernel, by decide +kernel⟩, by decide, by decide +kernel⟩
theorem mkX8_runStatus : am_MK mX8_runStatus 2 := ⟨by decide +kernel, am_gd (i := 1164) (by decide +kernel) (by decide +kernel), lzX8.2, ⟨by decide +kernel, by decide +kernel⟩, by decide, by decide +kernel⟩
theorem mkX8_feed : am_MK mX8_feed 5 := ⟨by decide +kernel, am_gd (i := 680) (by decide +kernel) (by decide +kernel), lzX8.2, ⟨by decide +kernel, by decide +kernel⟩, by decide, by decide +kernel⟩
theorem mkX8_feedFour : am_MK mX8_feedFour 1 := ⟨by decide +kernel, am_gd (i := 684) (by decide +kernel) (by decide +kernel), lzX8.2, ⟨by decide +kernel, by decide +kernel⟩, by decide, by decide +kernel⟩
theorem mkX8_town : am_MK mX8_town 1 := ⟨by decide +kernel, am_gd (i := 688) (by decide +kernel) (by decide +kernel), lzX8.2, ⟨by decide +kernel, by decide +kernel⟩, by decide, by decide +kernel⟩
theorem mkX8_dials : am_MK mX8_dials 1 := ⟨by decide +kernel, am_gd (i := 816) (by decide +kernel) (by decide +kernel), lzX8.2, ⟨by decide +kernel, by decide +kernel⟩, by decide, by decide +kernel⟩
theorem mkX8_fault : am_MK mX8_fault 1 := ⟨by decide +kernel, am_gd (i := 871) (by decide +kernel) (by decide +kernel), lzX8.2, ⟨by decide +kernel, by decide +kernel⟩, by decide, by decide +kernel⟩
theorem mkX8_many : am_MK mX8_many 1 := ⟨by decide +kernel, am_gd (i := 875) (by decide +kernel) (by decide +kernel), lzX8.2, ⟨by decide +kernel, by decide +kernel⟩, by decide, by decide +kernel⟩
theorem mkX8_voice : am_MK mX8_voice 2 := ⟨by decide +kernel, am_gd (i := 891) (by decide +kernel) (by decide +kernel), lzX8.2, ⟨by decide +kernel, by decide +kernel⟩, by decide, by decide +kernel⟩
theorem mkX8_row : am_MK mX8_row 2 := ⟨by decide +kernel, am_gd (i := 899) (by decide +kernel) (by decide +kernel), lzX8.2, ⟨by decide +kernel, by decide +kernel⟩, by decide, by decide +kernel⟩
theorem mkX8_person : am_MK mX8_person 2 := ⟨by decide +kernel, am_gd (i := 903) (by decide +kernel) (by decide +kernel), lzX8.2, ⟨by decide +kernel, by decide +kernel⟩, by decide, by decide +kernel⟩
theorem mkX8_like : am_MK mX8_like 2 := ⟨by decide +kernel, am_gd (i := 907) (by decide +kernel) (by decide +kernel), lzX8.2, ⟨by decide +kernel, by decide +kernel⟩, by decide, by decide +kernel⟩
theorem mkX8_set : am_MK mX8_set 2 := ⟨by decide +kernel, am_gd (i := 911) (by decide +kernel) (by decide +kernel), lzX8.2, ⟨by decide +kernel, by decide +kernel⟩, by decide, by decide +kernel⟩
theorem mkX8_hour : am_MK mX8_hour 1 := ⟨by decide +kernel, am_gd (i := 919) (by decide +kernel) (by decide +kernel), lzX8.2, ⟨by decide +kernel, by decide +kernel⟩, by decide, by decide +kernel⟩
theorem mkX8_year : am_MK mX8_year 1 := ⟨by decide +kernel, am_gd (i := 947) (by decide +kernel) (by decide +kernel), lzX8.2, ⟨by decide +kernel, by decide +kernel⟩, by decide, by decide +kernel⟩
theorem mkX8_sell : am_MK mX8_sell 3 := ⟨by decide +kernel, am_gd (i := 963) (by decide +kernel) (by decide +kernel), lzX8.2, ⟨by decide +kernel, by decide +kernel⟩, by decide, by decide +kernel⟩
theorem mkX8_give : am_MK mX8_give 2 := ⟨by decide +kernel, am_gd (i := 971) (by decide +kernel) (by decide +kernel), lzX8.2, ⟨by decide +kernel, by decide +kernel⟩, by decide, by decide +kernel⟩
theorem mkX8_dump : am_MK mX8_dump 1 := ⟨by decide +kernel, am_gd (i := 985) (by decide +kernel) (by decide +kernel), lzX8.2, ⟨by decide +kernel, by decide +kernel⟩, by decide, by decide +kernel⟩
theorem mkX8_cold : am_MK mX8_cold 2 := ⟨by decide +kernel, am_gd (i := 989) (by decide +kernel) (by decide +kernel), lzX8.2, ⟨by decide +kernel, by decide +kernel⟩, by decide, by decide +kernel⟩
theorem mkX8_flaw : am_MK mX8_flaw 2 := ⟨by decide +kernel, am_gd (i := 1005) (by decide +kernel) (by decide +kernel), lzX8.2, ⟨by decide +kernel, by decide +kernel⟩, by decide, by decide +kernel⟩
theorem mkX8_please : am_MK mX8_please 3 := ⟨by decide +kernel, am_gd (i := 1009) (by decide +kernel) (by decide +kernel), lzX8.2, ⟨by decide +kernel, by decide +kernel⟩, by decide, by decide +kernel⟩
theorem mkX8_teach : am_MK mX8_teach 2 := ⟨by decide +kernel, am_gd (i := 1013) (by decide +kernel) (by decide +kernel), lzX8.2, ⟨by decide +kernel, by decide +kernel⟩, by decide, by decide +kernel⟩
theorem mkX8_rule : am_MK mX8_rule 1 := ⟨by decide +kernel, am_gd (i := 1018) (by decide +kernel) (by decide +kernel), lzX8.2, ⟨by decide +kernel, by decide +kernel⟩, by decide, by decide +kernel⟩
theorem mkX8_saysIn : am_MK mX8_saysIn 2 := ⟨by decide +kernel, am_gd (i := 1022) (by decide +kernel) (by decide +kernel), lzX8.2, ⟨by decide +kernel, by decide +kernel⟩, by decide, by decide +kernel⟩
theorem mkX8_hearsIn : am_MK mX8_hearsIn 2 := ⟨by decide +kernel, am_gd (i := 1034) (by decide +kernel) (by decide +kernel), lzX8.2, ⟨by decide +kernel, by decide +kernel⟩, by decide, by decide +kernel⟩
theorem mkX8_gladIn : am_MK mX8_gladIn 2 := ⟨by decide +kernel, am_gd (i := 1040) (by decide +kernel) (by decide +kernel), lzX8.2, ⟨by decide +kernel, by decide +kernel⟩, by decide, by decide +kernel⟩
theorem mkX8_gladBy : am_MK mX8_gladBy 2 := ⟨by decide +kernel, am_gd (i := 1048) (by decide +kernel) (by decide +kernel), lzX8.2, ⟨by decide +kernel, by decide +kernel⟩, by decide, by decide +kernel⟩
theorem mkX8_lonelyIn : am_MK mX8_lonelyIn 1 := ⟨by decide +kernel, am_gd (i := 1053) (by decide +kernel) (by decide +kernel), lzX8.2, ⟨by decide +kernel, by decide +kernel⟩, by decide, by decide +kernel⟩
theorem mkX8_diesIn : am_MK mX8_diesIn 1 := ⟨by decide +kernel, am_gd (i := 1057) (by decide +kernel) (by decide +kernel), lzX8.2, ⟨by decide +kernel, by decide +kernel⟩, by decide, by decide +kernel⟩
theorem mkX8_crowd : am_MK mX8_crowd 1 := ⟨by decide +kernel, am_gd (i := 1065) (by decide +kernel) (by decide +kernel), lzX8.2, ⟨by decide +kernel, by decide +kernel⟩, by decide, by decide +kernel⟩
theorem mkX8_worth : am_MK mX8_worth 2 := ⟨by decide +kernel, am_gd (i := 1073) (by decide +kernel) (by decide +kernel), lzX8.2, ⟨by decide +kernel, by decide +kernel⟩, by decide, by decide +kernel⟩
theorem mkX8_best : am_MK mX8_best 1 := ⟨by decide +kernel, am_gd (i := 1082) (by decide +kernel) (by decide +kernel), lzX8.2, ⟨by decide +kernel, by decide +kernel⟩, by decide, by decide +kernel⟩
theorem mkX8_bestSet : am_MK mX8_bestSet 2 := ⟨by decide +kernel, am_gd (i := 1108) (by decide +kernel) (by decide +kernel), lzX8.2, ⟨by decide +kernel, by decide +kernel⟩, by decide, by decide +kernel⟩
theorem mkX8_trade : am_MK mX8_trade 1 := ⟨by decide +kernel, am_gd (i := 1121) (by decide +kernel) (by decide +kernel), lzX8.2, ⟨by decide +kernel, by decide +kernel⟩, by decide, by decide +kernel⟩
theorem mkX8_trades : am_MK mX8_trades 0 := ⟨by decide +kernel, am_gd (i := 1148) (by decide +kernel) (by decide +kernel), lzX8.2, ⟨by decide +kernel, by decide +kernel⟩, by decide, by decide +kernel⟩
theorem mkX8_envies : am_MK mX8_envies 2 := ⟨by decide +kernel, am_gd (i := 1152) (by decide +kernel) (by decide +kernel), lzX8.2, ⟨by decide +kernel, by decide +kernel⟩, by decide, by decide +kernel⟩
theorem mkX8_pick : am_MK mX8_pick 3 := ⟨by decide +kernel, am_gd (i := 1160) (by decide +kernel) (by decide +kernel), lzX8.2, ⟨by decide +kernel, by decide +kernel⟩, by decide, by decide +kernel⟩
theorem mkX8_isSetOfPeople : am_MK mX8_isSetOfPeople 1 := ⟨by decide +kernel, am_gd (i := 1086) (by decide +kernel) (by decide +kernel), lzX8.2, ⟨by decide +kernel, by decide +kernel⟩, by decide, by decide +kernel⟩
theorem mkX8_isRowOfPeople : am_MK mX8_isRowOfPeople 2 := ⟨by decide +kernel, am_gd (i := 1168) (by decide +kernel) (by decide +kernel), lzX8.2, ⟨by decide +kernel, by decide +kernel⟩, by decide, by decide +kernel⟩
theorem mkX8_fits : am_MK mX8_fits 2 := ⟨by decide +kernel, am_gd (i := 1180) (by decide +kernel) (by decide +kernel), lzX8.2, ⟨by decide +kernel, by decide +kernel⟩, by decide, by decide +kernel⟩
theorem mkX8_ask : am_MK mX8_ask 2 := ⟨by decide +kernel, am_gd (i := 1194) (by decide +kernel) (by decide +kernel), lzX8.2, ⟨by decide +kernel, by decide +kernel⟩, by decide, by decide +kernel⟩
theorem mkX8_twosStatus : am_MK mX8_twosStatus 2 := ⟨by decide +kernel, am_gd (i := 1184) (by decide +kernel) (by decide +kernel), lzX8.2, ⟨by decide +kernel, by decide +kernel⟩, by decide, by decide +kernel⟩
theorem mkX8_peace : am_MK mX8_peace 1 := ⟨by decide +kernel, am_gd (i := 1207) (by decide +kernel) (by decide +kernel), lzX8.2, ⟨by decide +kernel, by decide +kernel⟩, by decide, by decide +kernel⟩
theorem mkX8_peaceBy : am_MK mX8_peaceBy 1 := ⟨by decide +kernel, am_gd (i := 1228) (by decide +kernel) (by decide +kernel), lzX8.2, ⟨by decide +kernel, by decide +kernel⟩, by decide, by decide +kernel⟩
theorem mkX8_peaceStatus : am_MK mX8_peaceStatus 1 := ⟨by decide +kernel, am_gd (i := 1211) (by decide +kernel) (by decide +kernel), lzX8.2, ⟨by decide +kernel, by decide +kernel⟩, by decide, by decide +kernel⟩
theorem mkX8_popular : am_MK mX8_popular 1 := ⟨by decide +kernel, am_gd (i := 1233) (by decide +kernel) (by decide +kernel), lzX8.2, ⟨by decide +kernel, by decide +kernel⟩, by decide, by decide +kernel⟩
theorem mkX8_popularBy : am_MK mX8_popularBy 1 := ⟨by decide +kernel, am_gd (i := 1249) (by decide +kernel) (by decide +kernel), lzX8.2, ⟨by decide +kernel, by decide +kernel⟩, by decide, by decide +kernel⟩
theorem mkX8_popularStatus : am_MK mX8_popularStatus 1 := ⟨by decide +kernel, am_gd (i := 1237) (by decide +kernel) (by decide +kernel), lzX8.2, ⟨by decide +kernel, by decide +kernel⟩, by decide, by decide +kernel⟩
theorem mkX8_game : am_MK mX8_game 3 := ⟨by decide +kernel, am_gd (i := 1254) (by decide +kernel) (by decide +kernel), lzX8.2, ⟨by decide +kernel, by decide +kernel⟩, by decide, by decide +kernel⟩
theorem mkX8_moveOf : am_MK mX8_moveOf 3 := ⟨by decide +kernel, am_gd (i := 1276) (by decide +kernel) (by decide +kernel), lzX8.2, ⟨by decide +kernel, by decide +kernel⟩, by decide, by decide +kernel⟩
theorem mkX8_gameStatus : am_MK mX8_gameStatus 3 := ⟨by decide +kernel, am_gd (i := 1258) (by decide +kernel) (by decide +kernel), lzX8.2, ⟨by decide +kernel, by decide +kernel⟩, by decide, by decide +kernel⟩
theorem mkX8_alive : am_MK mX8_alive 2 := ⟨by decide +kernel, am_gd (i := 1285) (by decide +kernel) (by decide +kernel), lzX8.2, ⟨by decide +kernel, by decide +kernel⟩, by decide, by decide +kernel⟩
theorem mkX8_warm : am_MK mX8_warm 1 := ⟨by decide +kernel, am_gd (i := 1296) (by decide +kernel) (by decide +kernel), lzX8.2, ⟨by decide +kernel, by decide +kernel⟩, by decide, by decide +kernel⟩
theorem mkX8_power : am_MK mX8_power 2 := ⟨by decide +kernel, am_gd (i := 1288) (by decide +kernel) (by decide +kernel), lzX8.2, ⟨by decide +kernel, by decide +kernel⟩, by decide, by decide +kernel⟩
theorem mkX8_tell : am_MK mX8_tell 2 := ⟨by decide +kernel, am_gd (i := 1292) (by decide +kernel) (by decide +kernel), lzX8.2, ⟨by decide +kernel, by decide +kernel⟩, by decide, by decide +kernel⟩
theorem mkX8_live : am_MK mX8_live 1 := ⟨by decide +kernel, am_gd (i := 1300) (by decide +kernel) (by decide +kernel), lzX8.2, ⟨by decide +kernel, by decide +kernel⟩, by decide, by decide +kernel⟩
theorem mkX8_lived : am_MK mX8_lived 1 := ⟨by decide +kernel, am_gd (i := 1351) (by decide +kernel) (by decide +kernel), lzX8.2, ⟨by decide +kernel, by decide +kernel⟩, by decide, by decide +kernel⟩
theorem mkX8_mean : am_MK mX8_mean 2 := ⟨by decide +kernel, am_gd (i := 1355) (by decide +kernel) (by decide +kernel), lzX8.2, ⟨by decide +kernel, by decide +kernel⟩, by decide, by decide +kernel⟩
theorem mkX8_mark : am_MK mX8_mark 0 := ⟨by decide +kernel, am_gd (i := 1365) (by decide +kernel) (by decide +kernel), lzX8.2, ⟨by decide +kernel, by decide +kernel⟩, by decide, by decide +kernel⟩
theorem mkX8_back : am_MK mX8_back 0 := ⟨by decide +kernel, am_gd (i := 1369) (by decide +kernel) (by decide +kernel), lzX8.2, ⟨by decide +kernel, by decide +kernel⟩, by decide, by decide +kernel⟩
theorem mkX8_has : am_MK mX8_has 2 := ⟨by decide +kernel, am_gd (i := 895) (by decide +kernel) (by decide +kernel), lzX8.2, ⟨by decide +kernel, by decide +kernel⟩, by decide, by decide +kernel⟩
theorem mkX8_answer : am_MK mX8_answer 1 := ⟨by decide +kernel, am_gd (i := 812) (by decide +kernel) (by decide +kernel), lzX8.2, ⟨by decide +kernel, by decide +kernel⟩, by decide, by decide +kernel⟩
theorem mkX8_answerIfAny : am_MK mX8_answerIfAny 1 := ⟨by decide +kernel, am_gd (i := 915) (by decide +kernel) (by decide +kernel), lzX8.2, ⟨by decide +kernel, by decide +kernel⟩, by decide, by decide +kernel⟩
theorem mkX8_refuse : am_MK mX8_refuse 1 := ⟨by decide +kernel, am_gd (i := 669) (by decide +kernel) (by decide +kernel), lzX8.2, ⟨by decide +kernel, by decide +kernel⟩, by decide, by decide +kernel⟩
theorem mkX8_agree : am_MK mX8_agree 0 := ⟨by decide +kernel, am_gd (i := 645) (by decide +kernel) (by decide +kernel), lzX8.2, ⟨by decide +kernel, by decide +kernel⟩, by decide, by decide +kernel⟩
theorem mkX8_deny : am_MK mX8_deny 1 := ⟨by decide +kernel, am_gd (i := 637) (by decide +kernel) (by decide +kernel), lzX8.2, ⟨by decide +kernel, by decide +kernel⟩, by decide, by decide +kernel⟩
theorem mkX9_init : am_MK mX9_init 0 := ⟨by decide +kernel, am_gd (i := 1374) (by decide +kernel) (by decide +kernel), lzX9.2, ⟨by decide +kernel, by decide +kernel⟩, by decide, by decide +kernel⟩
theorem mkX9_status : am_MK mX9_status 0 := ⟨by decide +kernel, am_gd (i := 1510) (by decide +kernel) (by decide +kernel), lzX9.2, ⟨by decide +kernel, by decide +kernel⟩, by decide, by decide +kernel⟩
theorem mkX9_top : am_MK mX9_top 0 := ⟨by decide +kernel, am_gd (i := 1514) (by decide +kernel) (by decide +kernel), lzX9.2, ⟨by decide +kernel, by decide +kernel⟩, by decide, by decide +kernel⟩
theorem mkX9_bottom : am_MK mX9_bottom 0 := ⟨by decide +kernel, am_gd (i := 1518) (by decide +kernel) (by decide +kernel), lzX9.2, ⟨by decide +kernel, by decide +kernel⟩, by decide, by decide +kernel⟩
theorem mkX9_refuse : am_MK mX9_refuse 1 := ⟨by decide +kernel, am_gd (i := 1783) (by decide +kernel) (by decide +kernel), lzX9.2, ⟨by decide +kernel, by decide +kernel⟩, by decide, by decide +kernel⟩
theorem mkX9_no : am_MK mX9_no 1 := ⟨by decide +kernel, am_gd (i := 1526) (by decide +kernel) (by decide +kernel), lzX9.2, ⟨by decide +kernel, by decide +kernel⟩, by decide, by decide +kernel⟩
theorem mkX9_isIn : am_MK mX9_isIn 3 := ⟨by decide +kernel, am_gd (i := 1624) (by decide +kernel) (by decide +kernel), lzX9.2, ⟨by decide +kernel, by decide +kernel⟩, by decide, by decide +kernel⟩
theorem mkX9_fraction : am_MK mX9_fraction 2 := ⟨by decide +kernel, am_gd (i := 2137) (by decide +kernel) (by decide +kernel), lzX9.2, ⟨by decide +kernel, by decide +kernel⟩, by decide, by decide +kernel⟩
theorem mkX9_cut : am_MK mX9_cut 2 := ⟨by decide +kernel, am_gd (i := 1541) (by decide +kernel) (by decide +kernel), lzX9.2, ⟨by decide +kernel, by decide +kernel⟩, by decide, by decide +kernel⟩
theorem mkX9_tray : am_MK mX9_tray 3 := ⟨by decide +kernel, am_gd (i := 1522) (by decide +kernel) (by decide +kernel), lzX9.2, ⟨by decide +kernel, by decide +kernel⟩, by decide, by decide +kernel⟩
theorem mkX9_trayed : am_MK mX9_trayed 1 := ⟨by decide +kernel, am_gd (i := 1538) (by decide +kernel) (by decide +kernel), lzX9.2, ⟨by decide +kernel, by decide +kernel⟩, by decide, by decide +kernel⟩
theorem mkX9_placed : am_MK mX9_placed 2 := ⟨by decide +kernel, am_gd (i := 1534) (by decide +kernel) (by decide +kernel), lzX9.2, ⟨by decide +kernel, by decide +kernel⟩, by decide, by decide +kernel⟩
theorem mkX9_write : am_MK mX9_write 3 := ⟨by decide +kernel, am_gd (i := 1530) (by decide +kernel) (by decide +kernel), lzX9.2, ⟨by decide +kernel, by decide +kernel⟩, by decide, by decide +kernel⟩
theorem mkX9_read : am_MK mX9_read 2 := ⟨by decide +kernel, am_gd (i := 1545) (by decide +kernel) (by decide +kernel), lzX9.2, ⟨by decide +kernel, by decide +kernel⟩, by decide, by decide +kernel⟩
theorem mkX9_pour : am_MK mX9_pour 5 := ⟨by decide +kernel, am_gd (i := 1550) (by decide +kernel) (by decide +kernel), lzX9.2, ⟨by decide +kernel, by decide +kernel⟩, by decide, by decide +kernel⟩
theorem mkX9_numberOf : am_MK mX9_numberOf 2 := ⟨by decide +kernel, am_gd (i := 2051) (by decide +kernel) (by decide +kernel), lzX9.2, ⟨by decide +kernel, by decide +kernel⟩, by decide, by decide +kernel⟩
theorem mkX9_isTray : am_MK mX9_isTray 1 := ⟨by decide +kernel, am_gd (i := 2046) (by decide +kernel) (by decide +kernel), lzX9.2, ⟨by decide +kernel, by decide +kernel⟩, by decide, by decide +kernel⟩
theorem mkX9_has : am_MK mX9_has 2 := ⟨by decide +kernel, am_gd (i := 1870) (by decide +kernel) (by decide +kernel), lzX9.2, ⟨by decide +kernel, by decide +kernel⟩, by decide, by decide +kernel⟩
theorem mkX9_sizeOf : am_MK mX9_sizeOf 1 := ⟨by decide +kernel, am_gd (i := 1898) (by decide +kernel) (by decide +kernel), lzX9.2, ⟨by decide +kernel, by decide +kernel⟩, by decide, by decide +kernel⟩
theorem mkX9_look2 : am_MK mX9_look2 1 := ⟨by decide +kernel, am_gd (i := 1578) (by decide +kernel) (by decide +kernel), lzX9.2, ⟨by decide +kernel, by decide +kernel⟩, by decide, by decide +kernel⟩
theorem mkX9_isLetter : am_MK mX9_isLetter 1 := ⟨by decide +kernel, am_gd (i := 1581) (by decide +kernel) (by decide +kernel), lzX9.2, ⟨by decide +kernel, by decide +kernel⟩, by decide, by decide +kernel⟩
theorem mkX9_isDigit : am_MK mX9_isDigit 1 := ⟨by decide +kernel, am_gd (i := 1586) (by decide +kernel) (by decide +kernel), lzX9.2, ⟨by decide +kernel, by decide +kernel⟩, by decide, by decide +kernel⟩
theorem mkX9_isSignByte : am_MK mX9_isSignByte 1 := ⟨by decide +kernel, am_gd (i := 1590) (by decide +kernel) (by decide +kernel), lzX9.2, ⟨by decide +kernel, by decide +kernel⟩, by decide, by decide +kernel⟩
theorem mkX9_advance : am_MK mX9_advance 0 := ⟨by decide +kernel, am_gd (i := 1574) (by decide +kernel) (by decide +kernel), lzX9.2, ⟨by decide +kernel, by decide +kernel⟩, by decide, by decide +kernel⟩
theorem mkX9_isSign : am_MK mX9_isSign 1 := ⟨by decide +kernel, am_gd (i := 1750) (by decide +kernel) (by decide +kernel), lzX9.2, ⟨by decide +kernel, by decide +kernel⟩, by decide, by decide +kernel⟩
theorem mkX9_spelled : am_MK mX9_spelled 6 := ⟨by decide +kernel, am_gd (i := 1601) (by decide +kernel) (by decide +kernel), lzX9.2, ⟨by decide +kernel, by decide +kernel⟩, by decide, by decide +kernel⟩
theorem mkX9_isWord : am_MK mX9_isWord 1 := ⟨by decide +kernel, am_gd (i := 1605) (by decide +kernel) (by decide +kernel), lzX9.2, ⟨by decide +kernel, by decide +kernel⟩, by decide, by decide +kernel⟩
theorem mkX9_isOdds : am_MK mX9_isOdds 0 := ⟨by decide +kernel, am_gd (i := 1598) (by decide +kernel) (by decide +kernel), lzX9.2, ⟨by decide +kernel, by decide +kernel⟩, by decide, by decide +kernel⟩
theorem mkX9_isSubject : am_MK mX9_isSubject 0 := ⟨by decide +kernel, am_gd (i := 1628) (by decide +kernel) (by decide +kernel), lzX9.2, ⟨by decide +kernel, by decide +kernel⟩, by decide, by decide +kernel⟩
theorem mkX9_isVoice : am_MK mX9_isVoice 0 := ⟨by decide +kernel, am_gd (i := 1649) (by decide +kernel) (by decide +kernel), lzX9.2, ⟨by decide +kernel, by decide +kernel⟩, by decide, by decide +kernel⟩
theorem mkX9_isAge : am_MK mX9_isAge 0 := ⟨by decide +kernel, am_gd (i := 1653) (by decide +kernel) (by decide +kernel), lzX9.2, ⟨by decide +kernel, by decide +kernel⟩, by decide, by decide +kernel⟩
theorem mkX9_isLife : am_MK mX9_isLife 0 := ⟨by decide +kernel, am_gd (i := 1657) (by decide +kernel) (by decide +kernel), lzX9.2, ⟨by decide +kernel, by decide +kernel⟩, by decide, by decide +kernel⟩
theorem mkX9_isSays : am_MK mX9_isSays 0 := ⟨by decide +kernel, am_gd (i := 1661) (by decide +kernel) (by decide +kernel), lzX9.2, ⟨by decide +kernel, by decide +kernel⟩, by decide, by decide +kernel⟩
theorem mkX9_isPerson : am_MK mX9_isPerson 0 := ⟨by decide +kernel, am_gd (i := 1665) (by decide +kernel) (by decide +kernel), lzX9.2, ⟨by decide +kernel, by decide +kernel⟩, by decide, by decide +kernel⟩
theorem mkX9_isCoins : am_MK mX9_isCoins 0 := ⟨by decide +kernel, am_gd (i := 1669) (by decide +kernel) (by decide +kernel), lzX9.2, ⟨by decide +kernel, by decide +kernel⟩, by decide, by decide +kernel⟩
theorem mkX9_isLikes : am_MK mX9_isLikes 0 := ⟨by decide +kernel, am_gd (i := 1673) (by decide +kernel) (by decide +kernel), lzX9.2, ⟨by decide +kernel, by decide +kernel⟩, by decide, by decide +kernel⟩
theorem mkX9_isSet : am_MK mX9_isSet 0 := ⟨by decide +kernel, am_gd (i := 1677) (by decide +kernel) (by decide +kernel), lzX9.2, ⟨by decide +kernel, by decide +kernel⟩, by decide, by decide +kernel⟩
theorem mkX9_isGets : am_MK mX9_isGets 0 := ⟨by decide +kernel, am_gd (i := 1681) (by decide +kernel) (by decide +kernel), lzX9.2, ⟨by decide +kernel, by decide +kernel⟩, by decide, by decide +kernel⟩
theorem mkX9_isFlaw : am_MK mX9_isFlaw 0 := ⟨by decide +kernel, am_gd (i := 1685) (by decide +kernel) (by decide +kernel), lzX9.2, ⟨by decide +kernel, by decide +kernel⟩, by decide, by decide +kernel⟩
theorem mkX9_isFor : am_MK mX9_isFor 0 := ⟨by decide +kernel, am_gd (i := 1689) (by decide +kernel) (by decide +kernel), lzX9.2, ⟨by decide +kernel, by decide +kernel⟩, by decide, by decide +kernel⟩
theorem mkX9_stepWord : am_MK mX9_stepWord 0 := ⟨by decide +kernel, am_gd (i := 1693) (by decide +kernel) (by decide +kernel), lzX9.2, ⟨by decide +kernel, by decide +kernel⟩, by decide, by decide +kernel⟩
theorem mkX9_testWord : am_MK mX9_testWord 0 := ⟨by decide +kernel, am_gd (i := 1697) (by decide +kernel) (by decide +kernel), lzX9.2, ⟨by decide +kernel, by decide +kernel⟩, by decide, by decide +kernel⟩
theorem mkX9_isEnd : am_MK mX9_isEnd 0 := ⟨by decide +kernel, am_gd (i := 1701) (by decide +kernel) (by decide +kernel), lzX9.2, ⟨by decide +kernel, by decide +kernel⟩, by decide, by decide +kernel⟩
theorem mkX9_isKept : am_MK mX9_isKept 0 := ⟨by decide +kernel, am_gd (i := 1645) (by decide +kernel) (by decide +kernel), lzX9.2, ⟨by decide +kernel, by decide +kernel⟩, by decide, by decide +kernel⟩
theorem mkX9_isName : am_MK mX9_isName 0 := ⟨by decide +kernel, am_gd (i := 1641) (by decide +kernel) (by decide +kernel), lzX9.2, ⟨by decide +kernel, by decide +kernel⟩, by decide, by decide +kernel⟩
theorem mkX9_fail : am_MK mX9_fail 2 := ⟨by decide +kernel, am_gd (i := 1613) (by decide +kernel) (by decide +kernel), lzX9.2, ⟨by decide +kernel, by decide +kernel⟩, by decide, by decide +kernel⟩
theorem mkX9_amiss : am_MK mX9_amiss 0 := ⟨by decide +kernel, am_gd (i := 1621) (by decide +kernel) (by decide +kernel), lzX9.2, ⟨by decide +kernel, by decide +kernel⟩, by decide, by decide +kernel⟩
theorem mkX9_must : am_MK mX9_must 1 := ⟨by decide +kernel, am_gd (i := 1721) (by decide +kernel) (by decide +kernel), lzX9.2, ⟨by decide +kernel, by decide +kernel⟩, by decide, by decide +kernel⟩
theorem mkX9_count : am_MK mX9_count 2 := ⟨by decide +kernel, am_gd (i := 1617) (by decide +kernel) (by decide +kernel), lzX9.2, ⟨by decide +kernel, by decide +kernel⟩, by decide, by decide +kernel⟩
theorem mkX9_behindWord : am_MK mX9_behindWord 3 := ⟨by decide +kernel, am_gd (i := 1717) (by decide +kernel) (by decide +kernel), lzX9.2, ⟨by decide +kernel, by decide +kernel⟩, by decide, by decide +kernel⟩
theorem mkX9_perhaps : am_MK mX9_perhaps 1 := ⟨by decide +kernel, am_gd (i := 1734) (by decide +kernel) (by decide +kernel), lzX9.2, ⟨by decide +kernel, by decide +kernel⟩, by decide, by decide +kernel⟩
theorem mkX9_feed : am_MK mX9_feed 5 := ⟨by decide +kernel, am_gd (i := 1554) (by decide +kernel) (by decide +kernel), lzX9.2, ⟨by decide +kernel, by decide +kernel⟩, by decide, by decide +kernel⟩
theorem mkX9_lay : am_MK mX9_lay 1 := ⟨by decide +kernel, am_gd (i := 1558) (by decide +kernel) (by decide +kernel), lzX9.2, ⟨by decide +kernel, by decide +kernel⟩, by decide, by decide +kernel⟩
theorem mkX9_starts : am_MK mX9_starts 2 := ⟨by decide +kernel, am_gd (i := 1570) (by decide +kernel) (by decide +kernel), lzX9.2, ⟨by decide +kernel, by decide +kernel⟩, by decide, by decide +kernel⟩
theorem mkX9_isWell : am_MK mX9_isWell 0 := ⟨by decide +kernel, am_gd (i := 1754) (by decide +kernel) (by decide +kernel), lzX9.2, ⟨by decide +kernel, by decide +kernel⟩, by decide, by decide +kernel⟩
theorem mkX9_fault : am_MK mX9_fault 1 := ⟨by decide +kernel, am_gd (i := 1562) (by decide +kernel) (by decide +kernel), lzX9.2, ⟨by decide +kernel, by decide +kernel⟩, by decide, by decide +kernel⟩
theorem mkX9_empties : am_MK mX9_empties 1 := ⟨by decide +kernel, am_gd (i := 1379) (by decide +kernel) (by decide +kernel), lzX9.2, ⟨by decide +kernel, by decide +kernel⟩, by decide, by decide +kernel⟩
theorem mkX9_named : am_MK mX9_named 2 := ⟨by decide +kernel, am_gd (i := 1709) (by decide +kernel) (by decide +kernel), lzX9.2, ⟨by decide +kernel, by decide +kernel⟩, by decide, by decide +kernel⟩
theorem mkX9_isTaken : am_MK mX9_isTaken 0 := ⟨by decide +kernel, am_gd (i := 1705) (by decide +kernel) (by decide +kernel), lzX9.2, ⟨by decide +kernel, by decide +kernel⟩, by decide, by decide +kernel⟩
theorem mkX9_readNew : am_MK mX9_readNew 1 := ⟨by decide +kernel, am_gd (i := 1637) (by decide +kernel) (by decide +kernel), lzX9.2, ⟨by decide +kernel, by decide +kernel⟩, by decide, by decide +kernel⟩
theorem mkX9_told : am_MK mX9_told 2 := ⟨by decide +kernel, am_gd (i := 1725) (by decide +kernel) (by decide +kernel), lzX9.2, ⟨by decide +kernel, by decide +kernel⟩, by decide, by decide +kernel⟩
theorem mkX9_readTold : am_MK mX9_readTold 2 := ⟨by decide +kernel, am_gd (i := 1742) (by decide +kernel) (by decide +kernel), lzX9.2, ⟨by decide +kernel, by decide +kernel⟩, by decide, by decide +kernel⟩
theorem mkX9_readOdds : am_MK mX9_readOdds 0 := ⟨by decide +kernel, am_gd (i := 1609) (by decide +kernel) (by decide +kernel), lzX9.2, ⟨by decide +kernel, by decide +kernel⟩, by decide, by decide +kernel⟩
theorem mkX9_readSubject : am_MK mX9_readSubject 0 := ⟨by decide +kernel, am_gd (i := 1633) (by decide +kernel) (by decide +kernel), lzX9.2, ⟨by decide +kernel, by decide +kernel⟩, by decide, by decide +kernel⟩
theorem mkX9_readVoice : am_MK mX9_readVoice 0 := ⟨by decide +kernel, am_gd (i := 1713) (by decide +kernel) (by decide +kernel), lzX9.2, ⟨by decide +kernel, by decide +kernel⟩, by decide, by decide +kernel⟩
theorem mkX9_readPerson : am_MK mX9_readPerson 0 := ⟨by decide +kernel, am_gd (i := 1730) (by decide +kernel) (by decide +kernel), lzX9.2, ⟨by decide +kernel, by decide +kernel⟩, by decide, by decide +kernel⟩
theorem mkX9_readLikes : am_MK mX9_readLikes 0 := ⟨by decide +kernel, am_gd (i := 1738) (by decide +kernel) (by decide +kernel), lzX9.2, ⟨by decide +kernel, by decide +kernel⟩, by decide, by decide +kernel⟩
theorem mkX9_readSet : am_MK mX9_readSet 0 := ⟨by decide +kernel, am_gd (i := 1746) (by decide +kernel) (by decide +kernel), lzX9.2, ⟨by decide +kernel, by decide +kernel⟩, by decide, by decide +kernel⟩
theorem mkX9_readPart : am_MK mX9_readPart 0 := ⟨by decide +kernel, am_gd (i := 1594) (by decide +kernel) (by decide +kernel), lzX9.2, ⟨by decide +kernel, by decide +kernel⟩, by decide, by decide +kernel⟩
theorem mkX9_town : am_MK mX9_town 1 := ⟨by decide +kernel, am_gd (i := 1566) (by decide +kernel) (by decide +kernel), lzX9.2, ⟨by decide +kernel, by decide +kernel⟩, by decide, by decide +kernel⟩
theorem mkX9_readTest : am_MK mX9_readTest 1 := ⟨by decide +kernel, am_gd (i := 1774) (by decide +kernel) (by decide +kernel), lzX9.2, ⟨by decide +kernel, by decide +kernel⟩, by decide, by decide +kernel⟩
theorem mkX9_readRest : am_MK mX9_readRest 1 := ⟨by decide +kernel, am_gd (i := 1770) (by decide +kernel) (by decide +kernel), lzX9.2, ⟨by decide +kernel, by decide +kernel⟩, by decide, by decide +kernel⟩
theorem mkX9_readStep : am_MK mX9_readStep 1 := ⟨by decide +kernel, am_gd (i := 1766) (by decide +kernel) (by decide +kernel), lzX9.2, ⟨by decide +kernel, by decide +kernel⟩, by decide, by decide +kernel⟩
theorem mkX9_dials : am_MK mX9_dials 1 := ⟨by decide +kernel, am_gd (i := 1762) (by decide +kernel) (by decide +kernel), lzX9.2, ⟨by decide +kernel, by decide +kernel⟩, by decide, by decide +kernel⟩
theorem mkX9_isSubjectAt : am_MK mX9_isSubjectAt 1 := ⟨by decide +kernel, am_gd (i := 1825) (by decide +kernel) (by decide +kernel), lzX9.2, ⟨by decide +kernel, by decide +kernel⟩, by decide, by decide +kernel⟩
theorem mkX9_isVoiceAt : am_MK mX9_isVoiceAt 1 := ⟨by decide +kernel, am_gd (i := 1803) (by decide +kernel) (by decide +kernel), lzX9.2, ⟨by decide +kernel, by decide +kernel⟩, by decide, by decide +kernel⟩
theorem mkX9_isPersonAt : am_MK mX9_isPersonAt 1 := ⟨by decide +kernel, am_gd (i := 1816) (by decide +kernel) (by decide +kernel), lzX9.2, ⟨by decide +kernel, by decide +kernel⟩, by decide, by decide +kernel⟩
theorem mkX9_isSetAt : am_MK mX9_isSetAt 1 := ⟨by decide +kernel, am_gd (i := 1837) (by decide +kernel) (by decide +kernel), lzX9.2, ⟨by decide +kernel, by decide +kernel⟩, by decide, by decide +kernel⟩
theorem mkX9_ownedBy : am_MK mX9_ownedBy 1 := ⟨by decide +kernel, am_gd (i := 1791) (by decide +kernel) (by decide +kernel), lzX9.2, ⟨by decide +kernel, by decide +kernel⟩, by decide, by decide +kernel⟩
theorem mkX9_voicesBy : am_MK mX9_voicesBy 1 := ⟨by decide +kernel, am_gd (i := 1787) (by decide +kernel) (by decide +kernel), lzX9.2, ⟨by decide +kernel, by decide +kernel⟩, by decide, by decide +kernel⟩
theorem mkX9_sumOf : am_MK mX9_sumOf 1 := ⟨by decide +kernel, am_gd (i := 1795) (by decide +kernel) (by decide +kernel), lzX9.2, ⟨by decide +kernel, by decide +kernel⟩, by decide, by decide +kernel⟩
theorem mkX9_many : am_MK mX9_many 1 := ⟨by decide +kernel, am_gd (i := 1778) (by decide +kernel) (by decide +kernel), lzX9.2, ⟨by decide +kernel, by decide +kernel⟩, by decide, by decide +kernel⟩
theorem mkX9_voice : am_MK mX9_voice 2 := ⟨by decide +kernel, am_gd (i := 1799) (by decide +kernel) (by decide +kernel), lzX9.2, ⟨by decide +kernel, by decide +kernel⟩, by decide, by decide +kernel⟩
theorem mkX9_row : am_MK mX9_row 2 := ⟨by decide +kernel, am_gd (i := 1808) (by decide +kernel) (by decide +kernel), lzX9.2, ⟨by decide +kernel, by decide +kernel⟩, by decide, by decide +kernel⟩
theorem mkX9_person : am_MK mX9_person 2 := ⟨by decide +kernel, am_gd (i := 1812) (by decide +kernel) (by decide +kernel), lzX9.2, ⟨by decide +kernel, by decide +kernel⟩, by decide, by decide +kernel⟩
theorem mkX9_likeOf : am_MK mX9_likeOf 2 := ⟨by decide +kernel, am_gd (i := 1829) (by decide +kernel) (by decide +kernel), lzX9.2, ⟨by decide +kernel, by decide +kernel⟩, by decide, by decide +kernel⟩
theorem mkX9_like : am_MK mX9_like 2 := ⟨by decide +kernel, am_gd (i := 1821) (by decide +kernel) (by decide +kernel), lzX9.2, ⟨by decide +kernel, by decide +kernel⟩, by decide, by decide +kernel⟩
theorem mkX9_set : am_MK mX9_set 2 := ⟨by decide +kernel, am_gd (i := 1833) (by decide +kernel) (by decide +kernel), lzX9.2, ⟨by decide +kernel, by decide +kernel⟩, by decide, by decide +kernel⟩
theorem mkX9_placeOf : am_MK mX9_placeOf 2 := ⟨by decide +kernel, am_gd (i := 1863) (by decide +kernel) (by decide +kernel), lzX9.2, ⟨by decide +kernel, by decide +kernel⟩, by decide, by decide +kernel⟩
theorem mkX9_said : am_MK mX9_said 2 := ⟨by decide +kernel, am_gd (i := 1859) (by decide +kernel) (by decide +kernel), lzX9.2, ⟨by decide +kernel, by decide +kernel⟩, by decide, by decide +kernel⟩
theorem mkX9_heardBy : am_MK mX9_heardBy 2 := ⟨by decide +kernel, am_gd (i := 1855) (by decide +kernel) (by decide +kernel), lzX9.2, ⟨by decide +kernel, by decide +kernel⟩, by decide, by decide +kernel⟩
theorem mkX9_heard : am_MK mX9_heard 2 := ⟨by decide +kernel, am_gd (i := 1851) (by decide +kernel) (by decide +kernel), lzX9.2, ⟨by decide +kernel, by decide +kernel⟩, by decide, by decide +kernel⟩
theorem mkX9_liked : am_MK mX9_liked 2 := ⟨by decide +kernel, am_gd (i := 1867) (by decide +kernel) (by decide +kernel), lzX9.2, ⟨by decide +kernel, by decide +kernel⟩, by decide, by decide +kernel⟩
theorem mkX9_goesHour : am_MK mX9_goesHour 0 := ⟨by decide +kernel, am_gd (i := 1847) (by decide +kernel) (by decide +kernel), lzX9.2, ⟨by decide +kernel, by decide +kernel⟩, by decide, by decide +kernel⟩
theorem mkX9_hour : am_MK mX9_hour 1 := ⟨by decide +kernel, am_gd (i := 1842) (by decide +kernel) (by decide +kernel), lzX9.2, ⟨by decide +kernel, by decide +kernel⟩, by decide, by decide +kernel⟩
theorem mkX9_goesYear : am_MK mX9_goesYear 0 := ⟨by decide +kernel, am_gd (i := 1878) (by decide +kernel) (by decide +kernel), lzX9.2, ⟨by decide +kernel, by decide +kernel⟩, by decide, by decide +kernel⟩
theorem mkX9_year : am_MK mX9_year 1 := ⟨by decide +kernel, am_gd (i := 1874) (by decide +kernel) (by decide +kernel), lzX9.2, ⟨by decide +kernel, by decide +kernel⟩, by decide, by decide +kernel⟩
theorem mkX9_sells : am_MK mX9_sells 3 := ⟨by decide +kernel, am_gd (i := 1887) (by decide +kernel) (by decide +kernel), lzX9.2, ⟨by decide +kernel, by decide +kernel⟩, by decide, by decide +kernel⟩
theorem mkX9_sell : am_MK mX9_sell 3 := ⟨by decide +kernel, am_gd (i := 1882) (by decide +kernel) (by decide +kernel), lzX9.2, ⟨by decide +kernel, by decide +kernel⟩, by decide, by decide +kernel⟩
theorem mkX9_becomes : am_MK mX9_becomes 2 := ⟨by decide +kernel, am_gd (i := 1895) (by decide +kernel) (by decide +kernel), lzX9.2, ⟨by decide +kernel, by decide +kernel⟩, by decide, by decide +kernel⟩
theorem mkX9_give : am_MK mX9_give 2 := ⟨by decide +kernel, am_gd (i := 1891) (by decide +kernel) (by decide +kernel), lzX9.2, ⟨by decide +kernel, by decide +kernel⟩, by decide, by decide +kernel⟩
theorem mkX9_dump : am_MK mX9_dump 1 := ⟨by decide +kernel, am_gd (i := 1902) (by decide +kernel) (by decide +kernel), lzX9.2, ⟨by decide +kernel, by decide +kernel⟩, by decide, by decide +kernel⟩
theorem mkX9_chills : am_MK mX9_chills 2 := ⟨by decide +kernel, am_gd (i := 1910) (by decide +kernel) (by decide +kernel), lzX9.2, ⟨by decide +kernel, by decide +kernel⟩, by decide, by decide +kernel⟩
theorem mkX9_cold : am_MK mX9_cold 2 := ⟨by decide +kernel, am_gd (i := 1906) (by decide +kernel) (by decide +kernel), lzX9.2, ⟨by decide +kernel, by decide +kernel⟩, by decide, by decide +kernel⟩
theorem mkX9_flaw : am_MK mX9_flaw 2 := ⟨by decide +kernel, am_gd (i := 1914) (by decide +kernel) (by decide +kernel), lzX9.2, ⟨by decide +kernel, by decide +kernel⟩, by decide, by decide +kernel⟩
theorem mkX9_please : am_MK mX9_please 3 := ⟨by decide +kernel, am_gd (i := 1918) (by decide +kernel) (by decide +kernel), lzX9.2, ⟨by decide +kernel, by decide +kernel⟩, by decide, by decide +kernel⟩
theorem mkX9_teach : am_MK mX9_teach 2 := ⟨by decide +kernel, am_gd (i := 1923) (by decide +kernel) (by decide +kernel), lzX9.2, ⟨by decide +kernel, by decide +kernel⟩, by decide, by decide +kernel⟩
theorem mkX9_rule : am_MK mX9_rule 1 := ⟨by decide +kernel, am_gd (i := 1927) (by decide +kernel) (by decide +kernel), lzX9.2, ⟨by decide +kernel, by decide +kernel⟩, by decide, by decide +kernel⟩
theorem mkX9_saysIn : am_MK mX9_saysIn 2 := ⟨by decide +kernel, am_gd (i := 1932) (by decide +kernel) (by decide +kernel), lzX9.2, ⟨by decide +kernel, by decide +kernel⟩, by decide, by decide +kernel⟩
theorem mkX9_hearsIn : am_MK mX9_hearsIn 2 := ⟨by decide +kernel, am_gd (i := 1936) (by decide +kernel) (by decide +kernel), lzX9.2, ⟨by decide +kernel, by decide +kernel⟩, by decide, by decide +kernel⟩
theorem mkX9_gladAfter : am_MK mX9_gladAfter 2 := ⟨by decide +kernel, am_gd (i := 1945) (by decide +kernel) (by decide +kernel), lzX9.2, ⟨by decide +kernel, by decide +kernel⟩, by decide, by decide +kernel⟩
theorem mkX9_gladIn : am_MK mX9_gladIn 2 := ⟨by decide +kernel, am_gd (i := 1940) (by decide +kernel) (by decide +kernel), lzX9.2, ⟨by decide +kernel, by decide +kernel⟩, by decide, by decide +kernel⟩
theorem mkX9_gladBy : am_MK mX9_gladBy 2 := ⟨by decide +kernel, am_gd (i := 1949) (by decide +kernel) (by decide +kernel), lzX9.2, ⟨by decide +kernel, by decide +kernel⟩, by decide, by decide +kernel⟩
theorem mkX9_lonelyIn : am_MK mX9_lonelyIn 1 := ⟨by decide +kernel, am_gd (i := 1954) (by decide +kernel) (by decide +kernel), lzX9.2, ⟨by decide +kernel, by decide +kernel⟩, by decide, by decide +kernel⟩
theorem mkX9_diesIn : am_MK mX9_diesIn 1 := ⟨by decide +kernel, am_gd (i := 1958) (by decide +kernel) (by decide +kernel), lzX9.2, ⟨by decide +kernel, by decide +kernel⟩, by decide, by decide +kernel⟩
theorem mkX9_crowdOf : am_MK mX9_crowdOf 1 := ⟨by decide +kernel, am_gd (i := 1966) (by decide +kernel) (by decide +kernel), lzX9.2, ⟨by decide +kernel, by decide +kernel⟩, by decide, by decide +kernel⟩
theorem mkX9_crowd : am_MK mX9_crowd 1 := ⟨by decide +kernel, am_gd (i := 1962) (by decide +kernel) (by decide +kernel), lzX9.2, ⟨by decide +kernel, by decide +kernel⟩, by decide, by decide +kernel⟩
theorem mkX9_worthOf : am_MK mX9_worthOf 2 := ⟨by decide +kernel, am_gd (i := 1974) (by decide +kernel) (by decide +kernel), lzX9.2, ⟨by decide +kernel, by decide +kernel⟩, by decide, by decide +kernel⟩
theorem mkX9_worth : am_MK mX9_worth 2 := ⟨by decide +kernel, am_gd (i := 1970) (by decide +kernel) (by decide +kernel), lzX9.2, ⟨by decide +kernel, by decide +kernel⟩, by decide, by decide +kernel⟩
theorem mkX9_laysWorths : am_MK mX9_laysWorths 0 := ⟨by decide +kernel, am_gd (i := 1990) (by decide +kernel) (by decide +kernel), lzX9.2, ⟨by decide +kernel, by decide +kernel⟩, by decide, by decide +kernel⟩
theorem mkX9_shares : am_MK mX9_shares 4 := ⟨by decide +kernel, am_gd (i := 1994) (by decide +kernel) (by decide +kernel), lzX9.2, ⟨by decide +kernel, by decide +kernel⟩, by decide, by decide +kernel⟩
theorem mkX9_laysBest : am_MK mX9_laysBest 1 := ⟨by decide +kernel, am_gd (i := 1986) (by decide +kernel) (by decide +kernel), lzX9.2, ⟨by decide +kernel, by decide +kernel⟩, by decide, by decide +kernel⟩
theorem mkX9_arePeople : am_MK mX9_arePeople 1 := ⟨by decide +kernel, am_gd (i := 1982) (by decide +kernel) (by decide +kernel), lzX9.2, ⟨by decide +kernel, by decide +kernel⟩, by decide, by decide +kernel⟩
theorem mkX9_best : am_MK mX9_best 1 := ⟨by decide +kernel, am_gd (i := 1978) (by decide +kernel) (by decide +kernel), lzX9.2, ⟨by decide +kernel, by decide +kernel⟩, by decide, by decide +kernel⟩
theorem mkX9_bestSet : am_MK mX9_bestSet 2 := ⟨by decide +kernel, am_gd (i := 1998) (by decide +kernel) (by decide +kernel), lzX9.2, ⟨by decide +kernel, by decide +kernel⟩, by decide, by decide +kernel⟩
theorem mkX9_firstOf : am_MK mX9_firstOf 1 := ⟨by decide +kernel, am_gd (i := 2010) (by decide +kernel) (by decide +kernel), lzX9.2, ⟨by decide +kernel, by decide +kernel⟩, by decide, by decide +kernel⟩
theorem mkX9_pointsTo : am_MK mX9_pointsTo 1 := ⟨by decide +kernel, am_gd (i := 2018) (by decide +kernel) (by decide +kernel), lzX9.2, ⟨by decide +kernel, by decide +kernel⟩, by decide, by decide +kernel⟩
theorem mkX9_goesRing : am_MK mX9_goesRing 1 := ⟨by decide +kernel, am_gd (i := 2022) (by decide +kernel) (by decide +kernel), lzX9.2, ⟨by decide +kernel, by decide +kernel⟩, by decide, by decide +kernel⟩
theorem mkX9_ringFrom : am_MK mX9_ringFrom 1 := ⟨by decide +kernel, am_gd (i := 2014) (by decide +kernel) (by decide +kernel), lzX9.2, ⟨by decide +kernel, by decide +kernel⟩, by decide, by decide +kernel⟩
theorem mkX9_laysTrades : am_MK mX9_laysTrades 0 := ⟨by decide +kernel, am_gd (i := 2006) (by decide +kernel) (by decide +kernel), lzX9.2, ⟨by decide +kernel, by decide +kernel⟩, by decide, by decide +kernel⟩
theorem mkX9_trade : am_MK mX9_trade 1 := ⟨by decide +kernel, am_gd (i := 2002) (by decide +kernel) (by decide +kernel), lzX9.2, ⟨by decide +kernel, by decide +kernel⟩, by decide, by decide +kernel⟩
theorem mkX9_trades : am_MK mX9_trades 0 := ⟨by decide +kernel, am_gd (i := 2026) (by decide +kernel) (by decide +kernel), lzX9.2, ⟨by decide +kernel, by decide +kernel⟩, by decide, by decide +kernel⟩
theorem mkX9_bestOwned : am_MK mX9_bestOwned 2 := ⟨by decide +kernel, am_gd (i := 2034) (by decide +kernel) (by decide +kernel), lzX9.2, ⟨by decide +kernel, by decide +kernel⟩, by decide, by decide +kernel⟩
theorem mkX9_envies : am_MK mX9_envies 2 := ⟨by decide +kernel, am_gd (i := 2030) (by decide +kernel) (by decide +kernel), lzX9.2, ⟨by decide +kernel, by decide +kernel⟩, by decide, by decide +kernel⟩
theorem mkX9_whyNoPick : am_MK mX9_whyNoPick 2 := ⟨by decide +kernel, am_gd (i := 2042) (by decide +kernel) (by decide +kernel), lzX9.2, ⟨by decide +kernel, by decide +kernel⟩, by decide, by decide +kernel⟩
theorem mkX9_pick : am_MK mX9_pick 3 := ⟨by decide +kernel, am_gd (i := 2038) (by decide +kernel) (by decide +kernel), lzX9.2, ⟨by decide +kernel, by decide +kernel⟩, by decide, by decide +kernel⟩
theorem mkX9_whyNotFits : am_MK mX9_whyNotFits 2 := ⟨by decide +kernel, am_gd (i := 2059) (by decide +kernel) (by decide +kernel), lzX9.2, ⟨by decide +kernel, by decide +kernel⟩, by decide, by decide +kernel⟩
theorem mkX9_fitting : am_MK mX9_fitting 2 := ⟨by decide +kernel, am_gd (i := 2063) (by decide +kernel) (by decide +kernel), lzX9.2, ⟨by decide +kernel, by decide +kernel⟩, by decide, by decide +kernel⟩
theorem mkX9_fits : am_MK mX9_fits 2 := ⟨by decide +kernel, am_gd (i := 2055) (by decide +kernel) (by decide +kernel), lzX9.2, ⟨by decide +kernel, by decide +kernel⟩, by decide, by decide +kernel⟩
theorem mkX9_alikeIn : am_MK mX9_alikeIn 2 := ⟨by decide +kernel, am_gd (i := 2071) (by decide +kernel) (by decide +kernel), lzX9.2, ⟨by decide +kernel, by decide +kernel⟩, by decide, by decide +kernel⟩
theorem mkX9_ask : am_MK mX9_ask 2 := ⟨by decide +kernel, am_gd (i := 2067) (by decide +kernel) (by decide +kernel), lzX9.2, ⟨by decide +kernel, by decide +kernel⟩, by decide, by decide +kernel⟩
theorem mkX9_leastLike : am_MK mX9_leastLike 2 := ⟨by decide +kernel, am_gd (i := 2083) (by decide +kernel) (by decide +kernel), lzX9.2, ⟨by decide +kernel, by decide +kernel⟩, by decide, by decide +kernel⟩
theorem mkX9_allLike : am_MK mX9_allLike 2 := ⟨by decide +kernel, am_gd (i := 2088) (by decide +kernel) (by decide +kernel), lzX9.2, ⟨by decide +kernel, by decide +kernel⟩, by decide, by decide +kernel⟩
theorem mkX9_peaceful : am_MK mX9_peaceful 1 := ⟨by decide +kernel, am_gd (i := 2079) (by decide +kernel) (by decide +kernel), lzX9.2, ⟨by decide +kernel, by decide +kernel⟩, by decide, by decide +kernel⟩
theorem mkX9_peace : am_MK mX9_peace 1 := ⟨by decide +kernel, am_gd (i := 2075) (by decide +kernel) (by decide +kernel), lzX9.2, ⟨by decide +kernel, by decide +kernel⟩, by decide, by decide +kernel⟩
theorem mkX9_peaceBy : am_MK mX9_peaceBy 1 := ⟨by decide +kernel, am_gd (i := 2092) (by decide +kernel) (by decide +kernel), lzX9.2, ⟨by decide +kernel, by decide +kernel⟩, by decide, by decide +kernel⟩
theorem mkX9_fansOf : am_MK mX9_fansOf 2 := ⟨by decide +kernel, am_gd (i := 2104) (by decide +kernel) (by decide +kernel), lzX9.2, ⟨by decide +kernel, by decide +kernel⟩, by decide, by decide +kernel⟩
theorem mkX9_popularOf : am_MK mX9_popularOf 1 := ⟨by decide +kernel, am_gd (i := 2100) (by decide +kernel) (by decide +kernel), lzX9.2, ⟨by decide +kernel, by decide +kernel⟩, by decide, by decide +kernel⟩
theorem mkX9_popular : am_MK mX9_popular 1 := ⟨by decide +kernel, am_gd (i := 2096) (by decide +kernel) (by decide +kernel), lzX9.2, ⟨by decide +kernel, by decide +kernel⟩, by decide, by decide +kernel⟩
theorem mkX9_popularBy : am_MK mX9_popularBy 1 := ⟨by decide +kernel, am_gd (i := 2108) (by decide +kernel) (by decide +kernel), lzX9.2, ⟨by decide +kernel, by decide +kernel⟩, by decide, by decide +kernel⟩
theorem mkX9_plays : am_MK mX9_plays 5 := ⟨by decide +kernel, am_gd (i := 2121) (by decide +kernel) (by decide +kernel), lzX9.2, ⟨by decide +kernel, by decide +kernel⟩, by decide, by decide +kernel⟩
theorem mkX9_whyNoGame : am_MK mX9_whyNoGame 4 := ⟨by decide +kernel, am_gd (i := 2116) (by decide +kernel) (by decide +kernel), lzX9.2, ⟨by decide +kernel, by decide +kernel⟩, by decide, by decide +kernel⟩
theorem mkX9_game : am_MK mX9_game 3 := ⟨by decide +kernel, am_gd (i := 2112) (by decide +kernel) (by decide +kernel), lzX9.2, ⟨by decide +kernel, by decide +kernel⟩, by decide, by decide +kernel⟩
theorem mkX9_moveOf : am_MK mX9_moveOf 3 := ⟨by decide +kernel, am_gd (i := 2125) (by decide +kernel) (by decide +kernel), lzX9.2, ⟨by decide +kernel, by decide +kernel⟩, by decide, by decide +kernel⟩
theorem mkX9_power : am_MK mX9_power 2 := ⟨by decide +kernel, am_gd (i := 2133) (by decide +kernel) (by decide +kernel), lzX9.2, ⟨by decide +kernel, by decide +kernel⟩, by decide, by decide +kernel⟩
theorem mkX9_alive : am_MK mX9_alive 2 := ⟨by decide +kernel, am_gd (i := 2129) (by decide +kernel) (by decide +kernel), lzX9.2, ⟨by decide +kernel, by decide +kernel⟩, by decide, by decide +kernel⟩
theorem mkX9_warm : am_MK mX9_warm 1 := ⟨by decide +kernel, am_gd (i := 2144) (by decide +kernel) (by decide +kernel), lzX9.2, ⟨by decide +kernel, by decide +kernel⟩, by decide, by decide +kernel⟩
theorem mkX9_draw : am_MK mX9_draw 1 := ⟨by decide +kernel, am_gd (i := 2180) (by decide +kernel) (by decide +kernel), lzX9.2, ⟨by decide +kernel, by decide +kernel⟩, by decide, by decide +kernel⟩
theorem mkX9_anyHours : am_MK mX9_anyHours 1 := ⟨by decide +kernel, am_gd (i := 2168) (by decide +kernel) (by decide +kernel), lzX9.2, ⟨by decide +kernel, by decide +kernel⟩, by decide, by decide +kernel⟩
theorem mkX9_anyYears : am_MK mX9_anyYears 1 := ⟨by decide +kernel, am_gd (i := 2172) (by decide +kernel) (by decide +kernel), lzX9.2, ⟨by decide +kernel, by decide +kernel⟩, by decide, by decide +kernel⟩
theorem mkX9_isAny : am_MK mX9_isAny 0 := ⟨by decide +kernel, am_gd (i := 2176) (by decide +kernel) (by decide +kernel), lzX9.2, ⟨by decide +kernel, by decide +kernel⟩, by decide, by decide +kernel⟩
theorem mkX9_does : am_MK mX9_does 1 := ⟨by decide +kernel, am_gd (i := 2164) (by decide +kernel) (by decide +kernel), lzX9.2, ⟨by decide +kernel, by decide +kernel⟩, by decide, by decide +kernel⟩
theorem mkX9_isSo : am_MK mX9_isSo 1 := ⟨by decide +kernel, am_gd (i := 2185) (by decide +kernel) (by decide +kernel), lzX9.2, ⟨by decide +kernel, by decide +kernel⟩, by decide, by decide +kernel⟩
theorem mkX9_doOne : am_MK mX9_doOne 1 := ⟨by decide +kernel, am_gd (i := 2160) (by decide +kernel) (by decide +kernel), lzX9.2, ⟨by decide +kernel, by decide +kernel⟩, by decide, by decide +kernel⟩
theorem mkX9_doAll : am_MK mX9_doAll 2 := ⟨by decide +kernel, am_gd (i := 2156) (by decide +kernel) (by decide +kernel), lzX9.2, ⟨by decide +kernel, by decide +kernel⟩, by decide, by decide +kernel⟩
theorem mkX9_runsDials : am_MK mX9_runsDials 1 := ⟨by decide +kernel, am_gd (i := 2152) (by decide +kernel) (by decide +kernel), lzX9.2, ⟨by decide +kernel, by decide +kernel⟩, by decide, by decide +kernel⟩
theorem mkX9_live : am_MK mX9_live 1 := ⟨by decide +kernel, am_gd (i := 2148) (by decide +kernel) (by decide +kernel), lzX9.2, ⟨by decide +kernel, by decide +kernel⟩, by decide, by decide +kernel⟩
theorem mkX9_lived : am_MK mX9_lived 1 := ⟨by decide +kernel, am_gd (i := 2189) (by decide +kernel) (by decide +kernel), lzX9.2, ⟨by decide +kernel, by decide +kernel⟩, by decide, by decide +kernel⟩
theorem mkX9_mean : am_MK mX9_mean 2 := ⟨by decide +kernel, am_gd (i := 2193) (by decide +kernel) (by decide +kernel), lzX9.2, ⟨by decide +kernel, by decide +kernel⟩, by decide, by decide +kernel⟩
theorem mkX9_copy : am_MK mX9_copy 2 := ⟨by decide +kernel, am_gd (i := 1758) (by decide +kernel) (by decide +kernel), lzX9.2, ⟨by decide +kernel, by decide +kernel⟩, by decide, by decide +kernel⟩
theorem mkX9_mark : am_MK mX9_mark 0 := ⟨by decide +kernel, am_gd (i := 2197) (by decide +kernel) (by decide +kernel), lzX9.2, ⟨by decide +kernel, by decide +kernel⟩, by decide, by decide +kernel⟩
theorem mkX9_back : am_MK mX9_back 0 := ⟨by decide +kernel, am_gd (i := 2201) (by decide +kernel) (by decide +kernel), lzX9.2, ⟨by decide +kernel, by decide +kernel⟩, by decide, by decide +kernel⟩
theorem mkJ6_bitCount_0f7a4 : am_MK mJ6_bitCount_0f7a4 1 := ⟨by decide +kernel, am_gd (i := 978) (by decide +kernel) (by decide +kernel), am_gd (i := 179) (by decide +kernel) (by decide +kernel), ⟨by decide +kernel, by decide +kernel⟩, by decide, by decide +kernel⟩
