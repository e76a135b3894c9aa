-- 20: the methods' tables are checked
theorem gk_X0_renew : (List.range gZ_X0_renew).all (fun pc => match gC_X0_renew pc with
  | some e => gOk gM_X0_renew.2.2.2.2.1 gM_X0_renew.2.2.2.1 gM_X0_renew.2.1 pc e
  | none => true) = true := by decide +kernel
theorem gk_X0_hasPlace : (List.range gZ_X0_hasPlace).all (fun pc => match gC_X0_hasPlace pc with
  | some e => gOk gM_X0_hasPlace.2.2.2.2.1 gM_X0_hasPlace.2.2.2.1 gM_X0_hasPlace.2.1 pc e
  | none => true) = true := by decide +kernel
theorem gk_X0_hasPlaces : (List.range gZ_X0_hasPlaces).all (fun pc => match gC_X0_hasPlaces pc with
  | some e => gOk gM_X0_hasPlaces.2.2.2.2.1 gM_X0_hasPlaces.2.2.2.1 gM_X0_hasPlaces.2.1 pc e
  | none => true) = true := by decide +kernel
theorem gk_X0_howManyThings : (List.range gZ_X0_howManyThings).all (fun pc => match gC_X0_howManyThings pc with
  | some e => gOk gM_X0_howManyThings.2.2.2.2.1 gM_X0_howManyThings.2.2.2.1 gM_X0_howManyThings.2.1 pc e
  | none => true) = true := by decide +kernel
theorem gk_X0_isOfLikeThings : (List.range gZ_X0_isOfLikeThings).all (fun pc => match gC_X0_isOfLikeThings pc with
  | some e => gOk gM_X0_isOfLikeThings.2.2.2.2.1 gM_X0_isOfLikeThings.2.2.2.1 gM_X0_isOfLikeThings.2.1 pc e
  | none => true) = true := by decide +kernel
theorem gk_X0_sort : (List.range gZ_X0_sort).all (fun pc => match gC_X0_sort pc with
  | some e => gOk gM_X0_sort.2.2.2.2.1 gM_X0_sort.2.2.2.1 gM_X0_sort.2.1 pc e
  | none => true) = true := by decide +kernel
theorem gk_X0_comesBefore : (List.range gZ_X0_comesBefore).all (fun pc => match gC_X0_comesBefore pc with
  | some e => gOk gM_X0_comesBefore.2.2.2.2.1 gM_X0_comesBefore.2.2.2.1 gM_X0_comesBefore.2.1 pc e
  | none => true) = true := by decide +kernel
theorem gk_X1_become : (List.range gZ_X1_become).all (fun pc => match gC_X1_become pc with
  | some e => gOk gM_X1_become.2.2.2.2.1 gM_X1_become.2.2.2.1 gM_X1_become.2.1 pc e
  | none => true) = true := by decide +kernel
theorem gk_X1_weight : (List.range gZ_X1_weight).all (fun pc => match gC_X1_weight pc with
  | some e => gOk gM_X1_weight.2.2.2.2.1 gM_X1_weight.2.2.2.1 gM_X1_weight.2.1 pc e
  | none => true) = true := by decide +kernel
theorem gk_X1_append : (List.range gZ_X1_append).all (fun pc => match gC_X1_append pc with
  | some e => gOk gM_X1_append.2.2.2.2.1 gM_X1_append.2.2.2.1 gM_X1_append.2.1 pc e
  | none => true) = true := by decide +kernel
theorem gk_X1_removeGreatest : (List.range gZ_X1_removeGreatest).all (fun pc => match gC_X1_removeGreatest pc with
  | some e => gOk gM_X1_removeGreatest.2.2.2.2.1 gM_X1_removeGreatest.2.2.2.1 gM_X1_removeGreatest.2.1 pc e
  | none => true) = true := by decide +kernel
theorem gk_X1_fade : (List.range gZ_X1_fade).all (fun pc => match gC_X1_fade pc with
  | some e => gOk gM_X1_fade.2.2.2.2.1 gM_X1_fade.2.2.2.1 gM_X1_fade.2.1 pc e
  | none => true) = true := by decide +kernel
theorem gk_X1_loadAs : (List.range gZ_X1_loadAs).all (fun pc => match gC_X1_loadAs pc with
  | some e => gOk gM_X1_loadAs.2.2.2.2.1 gM_X1_loadAs.2.2.2.1 gM_X1_loadAs.2.1 pc e
  | none => true) = true := by decide +kernel
theorem gk_X2_settle : (List.range gZ_X2_settle).all (fun pc => match gC_X2_settle pc with
  | some e => gOk gM_X2_settle.2.2.2.2.1 gM_X2_settle.2.2.2.1 gM_X2_settle.2.1 pc e
  | none => true) = true := by decide +kernel
theorem gk_X2_settleFrom : (List.range gZ_X2_settleFrom).all (fun pc => match gC_X2_settleFrom pc with
  | some e => gOk gM_X2_settleFrom.2.2.2.2.1 gM_X2_settleFrom.2.2.2.1 gM_X2_settleFrom.2.1 pc e
  | none => true) = true := by decide +kernel
theorem gk_X3_learn : (List.range gZ_X3_learn).all (fun pc => match gC_X3_learn pc with
  | some e => gOk gM_X3_learn.2.2.2.2.1 gM_X3_learn.2.2.2.1 gM_X3_learn.2.1 pc e
  | none => true) = true := by decide +kernel
theorem gk_X3_rank : (List.range gZ_X3_rank).all (fun pc => match gC_X3_rank pc with
  | some e => gOk gM_X3_rank.2.2.2.2.1 gM_X3_rank.2.2.2.1 gM_X3_rank.2.1 pc e
  | none => true) = true := by decide +kernel
theorem gk_X3_bestFirst : (List.range gZ_X3_bestFirst).all (fun pc => match gC_X3_bestFirst pc with
  | some e => gOk gM_X3_bestFirst.2.2.2.2.1 gM_X3_bestFirst.2.2.2.1 gM_X3_bestFirst.2.1 pc e
  | none => true) = true := by decide +kernel
theorem gk_X3_brokenFrom : (List.range gZ_X3_brokenFrom).all (fun pc => match gC_X3_brokenFrom pc with
  | some e => gOk gM_X3_brokenFrom.2.2.2.2.1 gM_X3_brokenFrom.2.2.2.1 gM_X3_brokenFrom.2.1 pc e
  | none => true) = true := by decide +kernel
theorem gk_X3_countUnbroken : (List.range gZ_X3_countUnbroken).all (fun pc => match gC_X3_countUnbroken pc with
  | some e => gOk gM_X3_countUnbroken.2.2.2.2.1 gM_X3_countUnbroken.2.2.2.1 gM_X3_countUnbroken.2.1 pc e
  | none => true) = true := by decide +kernel
theorem gk_X3_bestQuestion : (List.range gZ_X3_bestQuestion).all (fun pc => match gC_X3_bestQuestion pc with
  | some e => gOk gM_X3_bestQuestion.2.2.2.2.1 gM_X3_bestQuestion.2.2.2.1 gM_X3_bestQuestion.2.1 pc e
  | none => true) = true := by decide +kernel
theorem gk_X3_countUnbrokenWith : (List.range gZ_X3_countUnbrokenWith).all (fun pc => match gC_X3_countUnbrokenWith pc with
  | some e => gOk gM_X3_countUnbrokenWith.2.2.2.2.1 gM_X3_countUnbrokenWith.2.2.2.1 gM_X3_countUnbrokenWith.2.1 pc e
  | none => true) = true := by decide +kernel
theorem gk_X4_become : (List.range gZ_X4_become).all (fun pc => match gC_X4_become pc with
  | some e => gOk gM_X4_become.2.2.2.2.1 gM_X4_become.2.2.2.1 gM_X4_become.2.1 pc e
  | none => true) = true := by decide +kernel
theorem gk_X4_append : (List.range gZ_X4_append).all (fun pc => match gC_X4_append pc with
  | some e => gOk gM_X4_append.2.2.2.2.1 gM_X4_append.2.2.2.1 gM_X4_append.2.1 pc e
  | none => true) = true := by decide +kernel
theorem gk_X5_has : (List.range gZ_X5_has).all (fun pc => match gC_X5_has pc with
  | some e => gOk gM_X5_has.2.2.2.2.1 gM_X5_has.2.2.2.1 gM_X5_has.2.1 pc e
  | none => true) = true := by decide +kernel
theorem gk_X5_tell : (List.range gZ_X5_tell).all (fun pc => match gC_X5_tell pc with
  | some e => gOk gM_X5_tell.2.2.2.2.1 gM_X5_tell.2.2.2.1 gM_X5_tell.2.1 pc e
  | none => true) = true := by decide +kernel
theorem gk_X5_passLents : (List.range gZ_X5_passLents).all (fun pc => match gC_X5_passLents pc with
  | some e => gOk gM_X5_passLents.2.2.2.2.1 gM_X5_passLents.2.2.2.1 gM_X5_passLents.2.1 pc e
  | none => true) = true := by decide +kernel
theorem gk_X5_load : (List.range gZ_X5_load).all (fun pc => match gC_X5_load pc with
  | some e => gOk gM_X5_load.2.2.2.2.1 gM_X5_load.2.2.2.1 gM_X5_load.2.1 pc e
  | none => true) = true := by decide +kernel
theorem gk_X5_isAhead : (List.range gZ_X5_isAhead).all (fun pc => match gC_X5_isAhead pc with
  | some e => gOk gM_X5_isAhead.2.2.2.2.1 gM_X5_isAhead.2.2.2.1 gM_X5_isAhead.2.1 pc e
  | none => true) = true := by decide +kernel
theorem gk_X5_placeOf : (List.range gZ_X5_placeOf).all (fun pc => match gC_X5_placeOf pc with
  | some e => gOk gM_X5_placeOf.2.2.2.2.1 gM_X5_placeOf.2.2.2.1 gM_X5_placeOf.2.1 pc e
  | none => true) = true := by decide +kernel
theorem gk_X5_howManyGoIn : (List.range gZ_X5_howManyGoIn).all (fun pc => match gC_X5_howManyGoIn pc with
  | some e => gOk gM_X5_howManyGoIn.2.2.2.2.1 gM_X5_howManyGoIn.2.2.2.1 gM_X5_howManyGoIn.2.1 pc e
  | none => true) = true := by decide +kernel
theorem gk_X5_allLoads : (List.range gZ_X5_allLoads).all (fun pc => match gC_X5_allLoads pc with
  | some e => gOk gM_X5_allLoads.2.2.2.2.1 gM_X5_allLoads.2.2.2.1 gM_X5_allLoads.2.1 pc e
  | none => true) = true := by decide +kernel
theorem gk_X5_allGriefs : (List.range gZ_X5_allGriefs).all (fun pc => match gC_X5_allGriefs pc with
  | some e => gOk gM_X5_allGriefs.2.2.2.2.1 gM_X5_allGriefs.2.2.2.1 gM_X5_allGriefs.2.1 pc e
  | none => true) = true := by decide +kernel
theorem gk_X6_append : (List.range gZ_X6_append).all (fun pc => match gC_X6_append pc with
  | some e => gOk gM_X6_append.2.2.2.2.1 gM_X6_append.2.2.2.1 gM_X6_append.2.1 pc e
  | none => true) = true := by decide +kernel
theorem gk_X6_possibleKinds : (List.range gZ_X6_possibleKinds).all (fun pc => match gC_X6_possibleKinds pc with
  | some e => gOk gM_X6_possibleKinds.2.2.2.2.1 gM_X6_possibleKinds.2.2.2.1 gM_X6_possibleKinds.2.1 pc e
  | none => true) = true := by decide +kernel
theorem gk_X6_likeliestKind : (List.range gZ_X6_likeliestKind).all (fun pc => match gC_X6_likeliestKind pc with
  | some e => gOk gM_X6_likeliestKind.2.2.2.2.1 gM_X6_likeliestKind.2.2.2.1 gM_X6_likeliestKind.2.1 pc e
  | none => true) = true := by decide +kernel
theorem gk_X6_howManyOf : (List.range gZ_X6_howManyOf).all (fun pc => match gC_X6_howManyOf pc with
  | some e => gOk gM_X6_howManyOf.2.2.2.2.1 gM_X6_howManyOf.2.2.2.1 gM_X6_howManyOf.2.1 pc e
  | none => true) = true := by decide +kernel
theorem gk_X6_howManySo : (List.range gZ_X6_howManySo).all (fun pc => match gC_X6_howManySo pc with
  | some e => gOk gM_X6_howManySo.2.2.2.2.1 gM_X6_howManySo.2.2.2.1 gM_X6_howManySo.2.1 pc e
  | none => true) = true := by decide +kernel
theorem gk_X7_append : (List.range gZ_X7_append).all (fun pc => match gC_X7_append pc with
  | some e => gOk gM_X7_append.2.2.2.2.1 gM_X7_append.2.2.2.1 gM_X7_append.2.1 pc e
  | none => true) = true := by decide +kernel
theorem gk_X7_read : (List.range gZ_X7_read).all (fun pc => match gC_X7_read pc with
  | some e => gOk gM_X7_read.2.2.2.2.1 gM_X7_read.2.2.2.1 gM_X7_read.2.1 pc e
  | none => true) = true := by decide +kernel
theorem gk_X7_readClause : (List.range gZ_X7_readClause).all (fun pc => match gC_X7_readClause pc with
  | some e => gOk gM_X7_readClause.2.2.2.2.1 gM_X7_readClause.2.2.2.1 gM_X7_readClause.2.1 pc e
  | none => true) = true := by decide +kernel
theorem gk_X7_readHouse : (List.range gZ_X7_readHouse).all (fun pc => match gC_X7_readHouse pc with
  | some e => gOk gM_X7_readHouse.2.2.2.2.1 gM_X7_readHouse.2.2.2.1 gM_X7_readHouse.2.1 pc e
  | none => true) = true := by decide +kernel
theorem gk_X7_readOne : (List.range gZ_X7_readOne).all (fun pc => match gC_X7_readOne pc with
  | some e => gOk gM_X7_readOne.2.2.2.2.1 gM_X7_readOne.2.2.2.1 gM_X7_readOne.2.1 pc e
  | none => true) = true := by decide +kernel
theorem gk_X7_readTwo : (List.range gZ_X7_readTwo).all (fun pc => match gC_X7_readTwo pc with
  | some e => gOk gM_X7_readTwo.2.2.2.2.1 gM_X7_readTwo.2.2.2.1 gM_X7_readTwo.2.1 pc e
  | none => true) = true := by decide +kernel
theorem gk_X7_addNumber : (List.range gZ_X7_addNumber).all (fun pc => match gC_X7_addNumber pc with
  | some e => gOk gM_X7_addNumber.2.2.2.2.1 gM_X7_addNumber.2.2.2.1 gM_X7_addNumber.2.1 pc e
  | none => true) = true := by decide +kernel
theorem gk_X7_goOn : (List.range gZ_X7_goOn).all (fun pc => match gC_X7_goOn pc with
  | some e => gOk gM_X7_goOn.2.2.2.2.1 gM_X7_goOn.2.2.2.1 gM_X7_goOn.2.1 pc e
  | none => true) = true := by decide +kernel
theorem gk_X7_sortOf : (List.range gZ_X7_sortOf).all (fun pc => match gC_X7_sortOf pc with
  | some e => gOk gM_X7_sortOf.2.2.2.2.1 gM_X7_sortOf.2.2.2.1 gM_X7_sortOf.2.1 pc e
  | none => true) = true := by decide +kernel
theorem gk_X7_numberHere : (List.range gZ_X7_numberHere).all (fun pc => match gC_X7_numberHere pc with
  | some e => gOk gM_X7_numberHere.2.2.2.2.1 gM_X7_numberHere.2.2.2.1 gM_X7_numberHere.2.1 pc e
  | none => true) = true := by decide +kernel
theorem gk_X7_wordHere : (List.range gZ_X7_wordHere).all (fun pc => match gC_X7_wordHere pc with
  | some e => gOk gM_X7_wordHere.2.2.2.2.1 gM_X7_wordHere.2.2.2.1 gM_X7_wordHere.2.1 pc e
  | none => true) = true := by decide +kernel
theorem gk_X7_isSpelledHere : (List.range gZ_X7_isSpelledHere).all (fun pc => match gC_X7_isSpelledHere pc with
  | some e => gOk gM_X7_isSpelledHere.2.2.2.2.1 gM_X7_isSpelledHere.2.2.2.1 gM_X7_isSpelledHere.2.1 pc e
  | none => true) = true := by decide +kernel
theorem gk_X7_spelling : (List.range gZ_X7_spelling).all (fun pc => match gC_X7_spelling pc with
  | some e => gOk gM_X7_spelling.2.2.2.2.1 gM_X7_spelling.2.2.2.1 gM_X7_spelling.2.1 pc e
  | none => true) = true := by decide +kernel
theorem gk_X8_remember : (List.range gZ_X8_remember).all (fun pc => match gC_X8_remember pc with
  | some e => gOk gM_X8_remember.2.2.2.2.1 gM_X8_remember.2.2.2.1 gM_X8_remember.2.1 pc e
  | none => true) = true := by decide +kernel
theorem gk_X8_restore : (List.range gZ_X8_restore).all (fun pc => match gC_X8_restore pc with
  | some e => gOk gM_X8_restore.2.2.2.2.1 gM_X8_restore.2.2.2.1 gM_X8_restore.2.1 pc e
  | none => true) = true := by decide +kernel
theorem gk_X9_write : (List.range gZ_X9_write).all (fun pc => match gC_X9_write pc with
  | some e => gOk gM_X9_write.2.2.2.2.1 gM_X9_write.2.2.2.1 gM_X9_write.2.1 pc e
  | none => true) = true := by decide +kernel
theorem gk_X9_erase : (List.range gZ_X9_erase).all (fun pc => match gC_X9_erase pc with
  | some e => gOk gM_X9_erase.2.2.2.2.1 gM_X9_erase.2.2.2.1 gM_X9_erase.2.1 pc e
  | none => true) = true := by decide +kernel
theorem gk_X9_fault : (List.range gZ_X9_fault).all (fun pc => match gC_X9_fault pc with
  | some e => gOk gM_X9_fault.2.2.2.2.1 gM_X9_fault.2.2.2.1 gM_X9_fault.2.1 pc e
  | none => true) = true := by decide +kernel
theorem gk_X9_house : (List.range gZ_X9_house).all (fun pc => match gC_X9_house pc with
  | some e => gOk gM_X9_house.2.2.2.2.1 gM_X9_house.2.2.2.1 gM_X9_house.2.1 pc e
  | none => true) = true := by decide +kernel
theorem gk_X9_person : (List.range gZ_X9_person).all (fun pc => match gC_X9_person pc with
  | some e => gOk gM_X9_person.2.2.2.2.1 gM_X9_person.2.2.2.1 gM_X9_person.2.1 pc e
  | none => true) = true := by decide +kernel
theorem gk_X9_grief : (List.range gZ_X9_grief).all (fun pc => match gC_X9_grief pc with
  | some e => gOk gM_X9_grief.2.2.2.2.1 gM_X9_grief.2.2.2.1 gM_X9_grief.2.1 pc e
  | none => true) = true := by decide +kernel
theorem gk_X9_as : (List.range gZ_X9_as).all (fun pc => match gC_X9_as pc with
  | some e => gOk gM_X9_as.2.2.2.2.1 gM_X9_as.2.2.2.1 gM_X9_as.2.1 pc e
  | none => true) = true := by decide +kernel
theorem gk_X9_pair : (List.range gZ_X9_pair).all (fun pc => match gC_X9_pair pc with
  | some e => gOk gM_X9_pair.2.2.2.2.1 gM_X9_pair.2.2.2.1 gM_X9_pair.2.1 pc e
  | none => true) = true := by decide +kernel
theorem gk_X9_unpair : (List.range gZ_X9_unpair).all (fun pc => match gC_X9_unpair pc with
  | some e => gOk gM_X9_unpair.2.2.2.2.1 gM_X9_unpair.2.2.2.1 gM_X9_unpair.2.1 pc e
  | none => true) = true := by decide +kernel
theorem gk_X9_lent : (List.range gZ_X9_lent).all (fun pc => match gC_X9_lent pc with
  | some e => gOk gM_X9_lent.2.2.2.2.1 gM_X9_lent.2.2.2.1 gM_X9_lent.2.1 pc e
  | none => true) = true := by decide +kernel
theorem gk_X9_grieve : (List.range gZ_X9_grieve).all (fun pc => match gC_X9_grieve pc with
  | some e => gOk gM_X9_grieve.2.2.2.2.1 gM_X9_grieve.2.2.2.1 gM_X9_grieve.2.1 pc e
  | none => true) = true := by decide +kernel
theorem gk_X9_comfort : (List.range gZ_X9_comfort).all (fun pc => match gC_X9_comfort pc with
  | some e => gOk gM_X9_comfort.2.2.2.2.1 gM_X9_comfort.2.2.2.1 gM_X9_comfort.2.1 pc e
  | none => true) = true := by decide +kernel
theorem gk_X9_undo : (List.range gZ_X9_undo).all (fun pc => match gC_X9_undo pc with
  | some e => gOk gM_X9_undo.2.2.2.2.1 gM_X9_undo.2.2.2.1 gM_X9_undo.2.1 pc e
  | none => true) = true := by decide +kernel
theorem gk_X9_keep : (List.range gZ_X9_keep).all (fun pc => match gC_X9_keep pc with
  | some e => gOk gM_X9_keep.2.2.2.2.1 gM_X9_keep.2.2.2.1 gM_X9_keep.2.1 pc e
  | none => true) = true := by decide +kernel
theorem gk_X9_back : (List.range gZ_X9_back).all (fun pc => match gC_X9_back pc with
  | some e => gOk gM_X9_back.2.2.2.2.1 gM_X9_back.2.2.2.1 gM_X9_back.2.1 pc e
  | none => true) = true := by decide +kernel
theorem gk_X9_behind : (List.range gZ_X9_behind).all (fun pc => match gC_X9_behind pc with
  | some e => gOk gM_X9_behind.2.2.2.2.1 gM_X9_behind.2.2.2.1 gM_X9_behind.2.1 pc e
  | none => true) = true := by decide +kernel
theorem gk_X9_enters : (List.range gZ_X9_enters).all (fun pc => match gC_X9_enters pc with
  | some e => gOk gM_X9_enters.2.2.2.2.1 gM_X9_enters.2.2.2.1 gM_X9_enters.2.1 pc e
  | none => true) = true := by decide +kernel
theorem gk_X9_ahead : (List.range gZ_X9_ahead).all (fun pc => match gC_X9_ahead pc with
  | some e => gOk gM_X9_ahead.2.2.2.2.1 gM_X9_ahead.2.2.2.1 gM_X9_ahead.2.1 pc e
  | none => true) = true := by decide +kernel
theorem gk_X9_wrong : (List.range gZ_X9_wrong).all (fun pc => match gC_X9_wrong pc with
  | some e => gOk gM_X9_wrong.2.2.2.2.1 gM_X9_wrong.2.2.2.1 gM_X9_wrong.2.1 pc e
  | none => true) = true := by decide +kernel
theorem gk_X9_ranked : (List.range gZ_X9_ranked).all (fun pc => match gC_X9_ranked pc with
  | some e => gOk gM_X9_ranked.2.2.2.2.1 gM_X9_ranked.2.2.2.1 gM_X9_ranked.2.1 pc e
  | none => true) = true := by decide +kernel
theorem gk_X9_lines : (List.range gZ_X9_lines).all (fun pc => match gC_X9_lines pc with
  | some e => gOk gM_X9_lines.2.2.2.2.1 gM_X9_lines.2.2.2.1 gM_X9_lines.2.1 pc e
  | none => true) = true := by decide +kernel
theorem gk_X9_next : (List.range gZ_X9_next).all (fun pc => match gC_X9_next pc with
  | some e => gOk gM_X9_next.2.2.2.2.1 gM_X9_next.2.2.2.1 gM_X9_next.2.1 pc e
  | none => true) = true := by decide +kernel
theorem gk_X9_rooms : (List.range gZ_X9_rooms).all (fun pc => match gC_X9_rooms pc with
  | some e => gOk gM_X9_rooms.2.2.2.2.1 gM_X9_rooms.2.2.2.1 gM_X9_rooms.2.1 pc e
  | none => true) = true := by decide +kernel
theorem gk_X9_misread : (List.range gZ_X9_misread).all (fun pc => match gC_X9_misread pc with
  | some e => gOk gM_X9_misread.2.2.2.2.1 gM_X9_misread.2.2.2.1 gM_X9_misread.2.1 pc e
  | none => true) = true := by decide +kernel
theorem gk_X9_seen : (List.range gZ_X9_seen).all (fun pc => match gC_X9_seen pc with
  | some e => gOk gM_X9_seen.2.2.2.2.1 gM_X9_seen.2.2.2.1 gM_X9_seen.2.1 pc e
  | none => true) = true := by decide +kernel
theorem gk_X9_forget : (List.range gZ_X9_forget).all (fun pc => match gC_X9_forget pc with
  | some e => gOk gM_X9_forget.2.2.2.2.1 gM_X9_forget.2.2.2.1 gM_X9_forget.2.1 pc e
  | none => true) = true := by decide +kernel
theorem gk_X9_kinds : (List.range gZ_X9_kinds).all (fun pc => match gC_X9_kinds pc with
  | some e => gOk gM_X9_kinds.2.2.2.2.1 gM_X9_kinds.2.2.2.1 gM_X9_kinds.2.1 pc e
  | none => true) = true := by decide +kernel
theorem gk_X9_drawer : (List.range gZ_X9_drawer).all (fun pc => match gC_X9_drawer pc with
  | some e => gOk gM_X9_drawer.2.2.2.2.1 gM_X9_drawer.2.2.2.1 gM_X9_drawer.2.1 pc e
  | none => true) = true := by decide +kernel
theorem gk_X9_put : (List.range gZ_X9_put).all (fun pc => match gC_X9_put pc with
  | some e => gOk gM_X9_put.2.2.2.2.1 gM_X9_put.2.2.2.1 gM_X9_put.2.1 pc e
  | none => true) = true := by decide +kernel
theorem gk_X9_take : (List.range gZ_X9_take).all (fun pc => match gC_X9_take pc with
  | some e => gOk gM_X9_take.2.2.2.2.1 gM_X9_take.2.2.2.1 gM_X9_take.2.1 pc e
  | none => true) = true := by decide +kernel
theorem gk_X9_tidy : (List.range gZ_X9_tidy).all (fun pc => match gC_X9_tidy pc with
  | some e => gOk gM_X9_tidy.2.2.2.2.1 gM_X9_tidy.2.2.2.1 gM_X9_tidy.2.1 pc e
  | none => true) = true := by decide +kernel
theorem gk_X9_copy : (List.range gZ_X9_copy).all (fun pc => match gC_X9_copy pc with
  | some e => gOk gM_X9_copy.2.2.2.2.1 gM_X9_copy.2.2.2.1 gM_X9_copy.2.1 pc e
  | none => true) = true := by decide +kernel
theorem gk_X9_drop : (List.range gZ_X9_drop).all (fun pc => match gC_X9_drop pc with
  | some e => gOk gM_X9_drop.2.2.2.2.1 gM_X9_drop.2.2.2.1 gM_X9_drop.2.1 pc e
  | none => true) = true := by decide +kernel
theorem gk_X9_count : (List.range gZ_X9_count).all (fun pc => match gC_X9_count pc with
  | some e => gOk gM_X9_count.2.2.2.2.1 gM_X9_count.2.2.2.1 gM_X9_count.2.1 pc e
  | none => true) = true := by decide +kernel
theorem gk_X9_doClause : (List.range gZ_X9_doClause).all (fun pc => match gC_X9_doClause pc with
  | some e => gOk gM_X9_doClause.2.2.2.2.1 gM_X9_doClause.2.2.2.1 gM_X9_doClause.2.1 pc e
  | none => true) = true := by decide +kernel
theorem gk_X9_beginAsTold : (List.range gZ_X9_beginAsTold).all (fun pc => match gC_X9_beginAsTold pc with
  | some e => gOk gM_X9_beginAsTold.2.2.2.2.1 gM_X9_beginAsTold.2.2.2.1 gM_X9_beginAsTold.2.1 pc e
  | none => true) = true := by decide +kernel
theorem gk_X9_areTwo : (List.range gZ_X9_areTwo).all (fun pc => match gC_X9_areTwo pc with
  | some e => gOk gM_X9_areTwo.2.2.2.2.1 gM_X9_areTwo.2.2.2.1 gM_X9_areTwo.2.1 pc e
  | none => true) = true := by decide +kernel
theorem gk_X9_drawersThere : (List.range gZ_X9_drawersThere).all (fun pc => match gC_X9_drawersThere pc with
  | some e => gOk gM_X9_drawersThere.2.2.2.2.1 gM_X9_drawersThere.2.2.2.1 gM_X9_drawersThere.2.1 pc e
  | none => true) = true := by decide +kernel
theorem gk_X9_isWithin : (List.range gZ_X9_isWithin).all (fun pc => match gC_X9_isWithin pc with
  | some e => gOk gM_X9_isWithin.2.2.2.2.1 gM_X9_isWithin.2.2.2.1 gM_X9_isWithin.2.1 pc e
  | none => true) = true := by decide +kernel
theorem gk_X9_isDrawer : (List.range gZ_X9_isDrawer).all (fun pc => match gC_X9_isDrawer pc with
  | some e => gOk gM_X9_isDrawer.2.2.2.2.1 gM_X9_isDrawer.2.2.2.1 gM_X9_isDrawer.2.1 pc e
  | none => true) = true := by decide +kernel
theorem gk_X9_canBePut : (List.range gZ_X9_canBePut).all (fun pc => match gC_X9_canBePut pc with
  | some e => gOk gM_X9_canBePut.2.2.2.2.1 gM_X9_canBePut.2.2.2.1 gM_X9_canBePut.2.1 pc e
  | none => true) = true := by decide +kernel
theorem gk_X9_isSuch : (List.range gZ_X9_isSuch).all (fun pc => match gC_X9_isSuch pc with
  | some e => gOk gM_X9_isSuch.2.2.2.2.1 gM_X9_isSuch.2.2.2.1 gM_X9_isSuch.2.1 pc e
  | none => true) = true := by decide +kernel
theorem gk_X9_stepOf : (List.range gZ_X9_stepOf).all (fun pc => match gC_X9_stepOf pc with
  | some e => gOk gM_X9_stepOf.2.2.2.2.1 gM_X9_stepOf.2.2.2.1 gM_X9_stepOf.2.1 pc e
  | none => true) = true := by decide +kernel
theorem gk_X9_readingsAsGreater : (List.range gZ_X9_readingsAsGreater).all (fun pc => match gC_X9_readingsAsGreater pc with
  | some e => gOk gM_X9_readingsAsGreater.2.2.2.2.1 gM_X9_readingsAsGreater.2.2.2.1 gM_X9_readingsAsGreater.2.1 pc e
  | none => true) = true := by decide +kernel
theorem gk_X9_readingsOff : (List.range gZ_X9_readingsOff).all (fun pc => match gC_X9_readingsOff pc with
  | some e => gOk gM_X9_readingsOff.2.2.2.2.1 gM_X9_readingsOff.2.2.2.1 gM_X9_readingsOff.2.1 pc e
  | none => true) = true := by decide +kernel
theorem gk_X9_commonDivisor : (List.range gZ_X9_commonDivisor).all (fun pc => match gC_X9_commonDivisor pc with
  | some e => gOk gM_X9_commonDivisor.2.2.2.2.1 gM_X9_commonDivisor.2.2.2.1 gM_X9_commonDivisor.2.1 pc e
  | none => true) = true := by decide +kernel
theorem gk_X10_in : (List.range gZ_X10_in).all (fun pc => match gC_X10_in pc with
  | some e => gOk gM_X10_in.2.2.2.2.1 gM_X10_in.2.2.2.1 gM_X10_in.2.1 pc e
  | none => true) = true := by decide +kernel
theorem gk_X10_write : (List.range gZ_X10_write).all (fun pc => match gC_X10_write pc with
  | some e => gOk gM_X10_write.2.2.2.2.1 gM_X10_write.2.2.2.1 gM_X10_write.2.1 pc e
  | none => true) = true := by decide +kernel
theorem gk_X10_erase : (List.range gZ_X10_erase).all (fun pc => match gC_X10_erase pc with
  | some e => gOk gM_X10_erase.2.2.2.2.1 gM_X10_erase.2.2.2.1 gM_X10_erase.2.1 pc e
  | none => true) = true := by decide +kernel
theorem gk_X10_isLetter : (List.range gZ_X10_isLetter).all (fun pc => match gC_X10_isLetter pc with
  | some e => gOk gM_X10_isLetter.2.2.2.2.1 gM_X10_isLetter.2.2.2.1 gM_X10_isLetter.2.1 pc e
  | none => true) = true := by decide +kernel
theorem gk_X10_isDigit : (List.range gZ_X10_isDigit).all (fun pc => match gC_X10_isDigit pc with
  | some e => gOk gM_X10_isDigit.2.2.2.2.1 gM_X10_isDigit.2.2.2.1 gM_X10_isDigit.2.1 pc e
  | none => true) = true := by decide +kernel
theorem gk_X10_nextToken : (List.range gZ_X10_nextToken).all (fun pc => match gC_X10_nextToken pc with
  | some e => gOk gM_X10_nextToken.2.2.2.2.1 gM_X10_nextToken.2.2.2.1 gM_X10_nextToken.2.1 pc e
  | none => true) = true := by decide +kernel
theorem gk_X10_isWord : (List.range gZ_X10_isWord).all (fun pc => match gC_X10_isWord pc with
  | some e => gOk gM_X10_isWord.2.2.2.2.1 gM_X10_isWord.2.2.2.1 gM_X10_isWord.2.1 pc e
  | none => true) = true := by decide +kernel
theorem gk_X10_number : (List.range gZ_X10_number).all (fun pc => match gC_X10_number pc with
  | some e => gOk gM_X10_number.2.2.2.2.1 gM_X10_number.2.2.2.1 gM_X10_number.2.1 pc e
  | none => true) = true := by decide +kernel
theorem gk_X10_kindHere : (List.range gZ_X10_kindHere).all (fun pc => match gC_X10_kindHere pc with
  | some e => gOk gM_X10_kindHere.2.2.2.2.1 gM_X10_kindHere.2.2.2.1 gM_X10_kindHere.2.1 pc e
  | none => true) = true := by decide +kernel
theorem gk_X10_readsPerson : (List.range gZ_X10_readsPerson).all (fun pc => match gC_X10_readsPerson pc with
  | some e => gOk gM_X10_readsPerson.2.2.2.2.1 gM_X10_readsPerson.2.2.2.1 gM_X10_readsPerson.2.1 pc e
  | none => true) = true := by decide +kernel
theorem gk_X10_readsPair : (List.range gZ_X10_readsPair).all (fun pc => match gC_X10_readsPair pc with
  | some e => gOk gM_X10_readsPair.2.2.2.2.1 gM_X10_readsPair.2.2.2.1 gM_X10_readsPair.2.1 pc e
  | none => true) = true := by decide +kernel
theorem gk_X10_readsHouse : (List.range gZ_X10_readsHouse).all (fun pc => match gC_X10_readsHouse pc with
  | some e => gOk gM_X10_readsHouse.2.2.2.2.1 gM_X10_readsHouse.2.2.2.1 gM_X10_readsHouse.2.1 pc e
  | none => true) = true := by decide +kernel
theorem gk_X10_readsClause : (List.range gZ_X10_readsClause).all (fun pc => match gC_X10_readsClause pc with
  | some e => gOk gM_X10_readsClause.2.2.2.2.1 gM_X10_readsClause.2.2.2.1 gM_X10_readsClause.2.1 pc e
  | none => true) = true := by decide +kernel
theorem gk_X10_reads : (List.range gZ_X10_reads).all (fun pc => match gC_X10_reads pc with
  | some e => gOk gM_X10_reads.2.2.2.2.1 gM_X10_reads.2.2.2.1 gM_X10_reads.2.1 pc e
  | none => true) = true := by decide +kernel
theorem gk_X10_fault : (List.range gZ_X10_fault).all (fun pc => match gC_X10_fault pc with
  | some e => gOk gM_X10_fault.2.2.2.2.1 gM_X10_fault.2.2.2.1 gM_X10_fault.2.1 pc e
  | none => true) = true := by decide +kernel
theorem gk_X10_copyRow : (List.range gZ_X10_copyRow).all (fun pc => match gC_X10_copyRow pc with
  | some e => gOk gM_X10_copyRow.2.2.2.2.1 gM_X10_copyRow.2.2.2.1 gM_X10_copyRow.2.1 pc e
  | none => true) = true := by decide +kernel
theorem gk_X10_house : (List.range gZ_X10_house).all (fun pc => match gC_X10_house pc with
  | some e => gOk gM_X10_house.2.2.2.2.1 gM_X10_house.2.2.2.1 gM_X10_house.2.1 pc e
  | none => true) = true := by decide +kernel
theorem gk_X10_isPerson : (List.range gZ_X10_isPerson).all (fun pc => match gC_X10_isPerson pc with
  | some e => gOk gM_X10_isPerson.2.2.2.2.1 gM_X10_isPerson.2.2.2.1 gM_X10_isPerson.2.1 pc e
  | none => true) = true := by decide +kernel
theorem gk_X10_sumOf : (List.range gZ_X10_sumOf).all (fun pc => match gC_X10_sumOf pc with
  | some e => gOk gM_X10_sumOf.2.2.2.2.1 gM_X10_sumOf.2.2.2.1 gM_X10_sumOf.2.1 pc e
  | none => true) = true := by decide +kernel
theorem gk_X10_greatestOf : (List.range gZ_X10_greatestOf).all (fun pc => match gC_X10_greatestOf pc with
  | some e => gOk gM_X10_greatestOf.2.2.2.2.1 gM_X10_greatestOf.2.2.2.1 gM_X10_greatestOf.2.1 pc e
  | none => true) = true := by decide +kernel
theorem gk_X10_loadBy : (List.range gZ_X10_loadBy).all (fun pc => match gC_X10_loadBy pc with
  | some e => gOk gM_X10_loadBy.2.2.2.2.1 gM_X10_loadBy.2.2.2.1 gM_X10_loadBy.2.1 pc e
  | none => true) = true := by decide +kernel
theorem gk_X10_load : (List.range gZ_X10_load).all (fun pc => match gC_X10_load pc with
  | some e => gOk gM_X10_load.2.2.2.2.1 gM_X10_load.2.2.2.1 gM_X10_load.2.1 pc e
  | none => true) = true := by decide +kernel
theorem gk_X10_fades : (List.range gZ_X10_fades).all (fun pc => match gC_X10_fades pc with
  | some e => gOk gM_X10_fades.2.2.2.2.1 gM_X10_fades.2.2.2.1 gM_X10_fades.2.1 pc e
  | none => true) = true := by decide +kernel
theorem gk_X10_stepOf : (List.range gZ_X10_stepOf).all (fun pc => match gC_X10_stepOf pc with
  | some e => gOk gM_X10_stepOf.2.2.2.2.1 gM_X10_stepOf.2.2.2.1 gM_X10_stepOf.2.1 pc e
  | none => true) = true := by decide +kernel
theorem gk_X10_fade : (List.range gZ_X10_fade).all (fun pc => match gC_X10_fade pc with
  | some e => gOk gM_X10_fade.2.2.2.2.1 gM_X10_fade.2.2.2.1 gM_X10_fade.2.1 pc e
  | none => true) = true := by decide +kernel
theorem gk_X10_passes : (List.range gZ_X10_passes).all (fun pc => match gC_X10_passes pc with
  | some e => gOk gM_X10_passes.2.2.2.2.1 gM_X10_passes.2.2.2.1 gM_X10_passes.2.1 pc e
  | none => true) = true := by decide +kernel
theorem gk_X10_isAhead : (List.range gZ_X10_isAhead).all (fun pc => match gC_X10_isAhead pc with
  | some e => gOk gM_X10_isAhead.2.2.2.2.1 gM_X10_isAhead.2.2.2.1 gM_X10_isAhead.2.1 pc e
  | none => true) = true := by decide +kernel
theorem gk_X10_placeOf : (List.range gZ_X10_placeOf).all (fun pc => match gC_X10_placeOf pc with
  | some e => gOk gM_X10_placeOf.2.2.2.2.1 gM_X10_placeOf.2.2.2.1 gM_X10_placeOf.2.1 pc e
  | none => true) = true := by decide +kernel
theorem gk_X10_person : (List.range gZ_X10_person).all (fun pc => match gC_X10_person pc with
  | some e => gOk gM_X10_person.2.2.2.2.1 gM_X10_person.2.2.2.1 gM_X10_person.2.1 pc e
  | none => true) = true := by decide +kernel
theorem gk_X10_grief : (List.range gZ_X10_grief).all (fun pc => match gC_X10_grief pc with
  | some e => gOk gM_X10_grief.2.2.2.2.1 gM_X10_grief.2.2.2.1 gM_X10_grief.2.1 pc e
  | none => true) = true := by decide +kernel
theorem gk_X10_as : (List.range gZ_X10_as).all (fun pc => match gC_X10_as pc with
  | some e => gOk gM_X10_as.2.2.2.2.1 gM_X10_as.2.2.2.1 gM_X10_as.2.1 pc e
  | none => true) = true := by decide +kernel
theorem gk_X10_areTwo : (List.range gZ_X10_areTwo).all (fun pc => match gC_X10_areTwo pc with
  | some e => gOk gM_X10_areTwo.2.2.2.2.1 gM_X10_areTwo.2.2.2.1 gM_X10_areTwo.2.1 pc e
  | none => true) = true := by decide +kernel
theorem gk_X10_pair : (List.range gZ_X10_pair).all (fun pc => match gC_X10_pair pc with
  | some e => gOk gM_X10_pair.2.2.2.2.1 gM_X10_pair.2.2.2.1 gM_X10_pair.2.1 pc e
  | none => true) = true := by decide +kernel
theorem gk_X10_unpair : (List.range gZ_X10_unpair).all (fun pc => match gC_X10_unpair pc with
  | some e => gOk gM_X10_unpair.2.2.2.2.1 gM_X10_unpair.2.2.2.1 gM_X10_unpair.2.1 pc e
  | none => true) = true := by decide +kernel
theorem gk_X10_keepPast : (List.range gZ_X10_keepPast).all (fun pc => match gC_X10_keepPast pc with
  | some e => gOk gM_X10_keepPast.2.2.2.2.1 gM_X10_keepPast.2.2.2.1 gM_X10_keepPast.2.1 pc e
  | none => true) = true := by decide +kernel
theorem gk_X10_lent : (List.range gZ_X10_lent).all (fun pc => match gC_X10_lent pc with
  | some e => gOk gM_X10_lent.2.2.2.2.1 gM_X10_lent.2.2.2.1 gM_X10_lent.2.1 pc e
  | none => true) = true := by decide +kernel
theorem gk_X10_grieve : (List.range gZ_X10_grieve).all (fun pc => match gC_X10_grieve pc with
  | some e => gOk gM_X10_grieve.2.2.2.2.1 gM_X10_grieve.2.2.2.1 gM_X10_grieve.2.1 pc e
  | none => true) = true := by decide +kernel
theorem gk_X10_comfort : (List.range gZ_X10_comfort).all (fun pc => match gC_X10_comfort pc with
  | some e => gOk gM_X10_comfort.2.2.2.2.1 gM_X10_comfort.2.2.2.1 gM_X10_comfort.2.1 pc e
  | none => true) = true := by decide +kernel
theorem gk_X10_undo : (List.range gZ_X10_undo).all (fun pc => match gC_X10_undo pc with
  | some e => gOk gM_X10_undo.2.2.2.2.1 gM_X10_undo.2.2.2.1 gM_X10_undo.2.1 pc e
  | none => true) = true := by decide +kernel
theorem gk_X10_keep : (List.range gZ_X10_keep).all (fun pc => match gC_X10_keep pc with
  | some e => gOk gM_X10_keep.2.2.2.2.1 gM_X10_keep.2.2.2.1 gM_X10_keep.2.1 pc e
  | none => true) = true := by decide +kernel
theorem gk_X10_back : (List.range gZ_X10_back).all (fun pc => match gC_X10_back pc with
  | some e => gOk gM_X10_back.2.2.2.2.1 gM_X10_back.2.2.2.1 gM_X10_back.2.1 pc e
  | none => true) = true := by decide +kernel
theorem gk_X10_layTried : (List.range gZ_X10_layTried).all (fun pc => match gC_X10_layTried pc with
  | some e => gOk gM_X10_layTried.2.2.2.2.1 gM_X10_layTried.2.2.2.1 gM_X10_layTried.2.1 pc e
  | none => true) = true := by decide +kernel
theorem gk_X10_behind : (List.range gZ_X10_behind).all (fun pc => match gC_X10_behind pc with
  | some e => gOk gM_X10_behind.2.2.2.2.1 gM_X10_behind.2.2.2.1 gM_X10_behind.2.1 pc e
  | none => true) = true := by decide +kernel
theorem gk_X10_enters : (List.range gZ_X10_enters).all (fun pc => match gC_X10_enters pc with
  | some e => gOk gM_X10_enters.2.2.2.2.1 gM_X10_enters.2.2.2.1 gM_X10_enters.2.1 pc e
  | none => true) = true := by decide +kernel
theorem gk_X10_ahead : (List.range gZ_X10_ahead).all (fun pc => match gC_X10_ahead pc with
  | some e => gOk gM_X10_ahead.2.2.2.2.1 gM_X10_ahead.2.2.2.1 gM_X10_ahead.2.1 pc e
  | none => true) = true := by decide +kernel
theorem gk_X10_wrong : (List.range gZ_X10_wrong).all (fun pc => match gC_X10_wrong pc with
  | some e => gOk gM_X10_wrong.2.2.2.2.1 gM_X10_wrong.2.2.2.1 gM_X10_wrong.2.1 pc e
  | none => true) = true := by decide +kernel
theorem gk_X10_layOrder : (List.range gZ_X10_layOrder).all (fun pc => match gC_X10_layOrder pc with
  | some e => gOk gM_X10_layOrder.2.2.2.2.1 gM_X10_layOrder.2.2.2.1 gM_X10_layOrder.2.1 pc e
  | none => true) = true := by decide +kernel
theorem gk_X10_nextOrder : (List.range gZ_X10_nextOrder).all (fun pc => match gC_X10_nextOrder pc with
  | some e => gOk gM_X10_nextOrder.2.2.2.2.1 gM_X10_nextOrder.2.2.2.1 gM_X10_nextOrder.2.1 pc e
  | none => true) = true := by decide +kernel
theorem gk_X10_change : (List.range gZ_X10_change).all (fun pc => match gC_X10_change pc with
  | some e => gOk gM_X10_change.2.2.2.2.1 gM_X10_change.2.2.2.1 gM_X10_change.2.1 pc e
  | none => true) = true := by decide +kernel
theorem gk_X10_broken : (List.range gZ_X10_broken).all (fun pc => match gC_X10_broken pc with
  | some e => gOk gM_X10_broken.2.2.2.2.1 gM_X10_broken.2.2.2.1 gM_X10_broken.2.1 pc e
  | none => true) = true := by decide +kernel
theorem gk_X10_ranked : (List.range gZ_X10_ranked).all (fun pc => match gC_X10_ranked pc with
  | some e => gOk gM_X10_ranked.2.2.2.2.1 gM_X10_ranked.2.2.2.1 gM_X10_ranked.2.1 pc e
  | none => true) = true := by decide +kernel
theorem gk_X10_countLines : (List.range gZ_X10_countLines).all (fun pc => match gC_X10_countLines pc with
  | some e => gOk gM_X10_countLines.2.2.2.2.1 gM_X10_countLines.2.2.2.1 gM_X10_countLines.2.1 pc e
  | none => true) = true := by decide +kernel
theorem gk_X10_lines : (List.range gZ_X10_lines).all (fun pc => match gC_X10_lines pc with
  | some e => gOk gM_X10_lines.2.2.2.2.1 gM_X10_lines.2.2.2.1 gM_X10_lines.2.1 pc e
  | none => true) = true := by decide +kernel
theorem gk_X10_next : (List.range gZ_X10_next).all (fun pc => match gC_X10_next pc with
  | some e => gOk gM_X10_next.2.2.2.2.1 gM_X10_next.2.2.2.1 gM_X10_next.2.1 pc e
  | none => true) = true := by decide +kernel
theorem gk_X10_fits : (List.range gZ_X10_fits).all (fun pc => match gC_X10_fits pc with
  | some e => gOk gM_X10_fits.2.2.2.2.1 gM_X10_fits.2.2.2.1 gM_X10_fits.2.1 pc e
  | none => true) = true := by decide +kernel
theorem gk_X10_rooms : (List.range gZ_X10_rooms).all (fun pc => match gC_X10_rooms pc with
  | some e => gOk gM_X10_rooms.2.2.2.2.1 gM_X10_rooms.2.2.2.1 gM_X10_rooms.2.1 pc e
  | none => true) = true := by decide +kernel
theorem gk_X10_misread : (List.range gZ_X10_misread).all (fun pc => match gC_X10_misread pc with
  | some e => gOk gM_X10_misread.2.2.2.2.1 gM_X10_misread.2.2.2.1 gM_X10_misread.2.1 pc e
  | none => true) = true := by decide +kernel
theorem gk_X10_seen : (List.range gZ_X10_seen).all (fun pc => match gC_X10_seen pc with
  | some e => gOk gM_X10_seen.2.2.2.2.1 gM_X10_seen.2.2.2.1 gM_X10_seen.2.1 pc e
  | none => true) = true := by decide +kernel
theorem gk_X10_forget : (List.range gZ_X10_forget).all (fun pc => match gC_X10_forget pc with
  | some e => gOk gM_X10_forget.2.2.2.2.1 gM_X10_forget.2.2.2.1 gM_X10_forget.2.1 pc e
  | none => true) = true := by decide +kernel
theorem gk_X10_stepBy : (List.range gZ_X10_stepBy).all (fun pc => match gC_X10_stepBy pc with
  | some e => gOk gM_X10_stepBy.2.2.2.2.1 gM_X10_stepBy.2.2.2.1 gM_X10_stepBy.2.1 pc e
  | none => true) = true := by decide +kernel
theorem gk_X10_kinds : (List.range gZ_X10_kinds).all (fun pc => match gC_X10_kinds pc with
  | some e => gOk gM_X10_kinds.2.2.2.2.1 gM_X10_kinds.2.2.2.1 gM_X10_kinds.2.1 pc e
  | none => true) = true := by decide +kernel
theorem gk_X10_isDrawer : (List.range gZ_X10_isDrawer).all (fun pc => match gC_X10_isDrawer pc with
  | some e => gOk gM_X10_isDrawer.2.2.2.2.1 gM_X10_isDrawer.2.2.2.1 gM_X10_isDrawer.2.1 pc e
  | none => true) = true := by decide +kernel
theorem gk_X10_drawer : (List.range gZ_X10_drawer).all (fun pc => match gC_X10_drawer pc with
  | some e => gOk gM_X10_drawer.2.2.2.2.1 gM_X10_drawer.2.2.2.1 gM_X10_drawer.2.1 pc e
  | none => true) = true := by decide +kernel
theorem gk_X10_noPlace : (List.range gZ_X10_noPlace).all (fun pc => match gC_X10_noPlace pc with
  | some e => gOk gM_X10_noPlace.2.2.2.2.1 gM_X10_noPlace.2.2.2.1 gM_X10_noPlace.2.1 pc e
  | none => true) = true := by decide +kernel
theorem gk_X10_put : (List.range gZ_X10_put).all (fun pc => match gC_X10_put pc with
  | some e => gOk gM_X10_put.2.2.2.2.1 gM_X10_put.2.2.2.1 gM_X10_put.2.1 pc e
  | none => true) = true := by decide +kernel
theorem gk_X10_take : (List.range gZ_X10_take).all (fun pc => match gC_X10_take pc with
  | some e => gOk gM_X10_take.2.2.2.2.1 gM_X10_take.2.2.2.1 gM_X10_take.2.1 pc e
  | none => true) = true := by decide +kernel
theorem gk_X10_isBehind : (List.range gZ_X10_isBehind).all (fun pc => match gC_X10_isBehind pc with
  | some e => gOk gM_X10_isBehind.2.2.2.2.1 gM_X10_isBehind.2.2.2.1 gM_X10_isBehind.2.1 pc e
  | none => true) = true := by decide +kernel
theorem gk_X10_tidy : (List.range gZ_X10_tidy).all (fun pc => match gC_X10_tidy pc with
  | some e => gOk gM_X10_tidy.2.2.2.2.1 gM_X10_tidy.2.2.2.1 gM_X10_tidy.2.1 pc e
  | none => true) = true := by decide +kernel
theorem gk_X10_isSpan : (List.range gZ_X10_isSpan).all (fun pc => match gC_X10_isSpan pc with
  | some e => gOk gM_X10_isSpan.2.2.2.2.1 gM_X10_isSpan.2.2.2.1 gM_X10_isSpan.2.1 pc e
  | none => true) = true := by decide +kernel
theorem gk_X10_copy : (List.range gZ_X10_copy).all (fun pc => match gC_X10_copy pc with
  | some e => gOk gM_X10_copy.2.2.2.2.1 gM_X10_copy.2.2.2.1 gM_X10_copy.2.1 pc e
  | none => true) = true := by decide +kernel
theorem gk_X10_drop : (List.range gZ_X10_drop).all (fun pc => match gC_X10_drop pc with
  | some e => gOk gM_X10_drop.2.2.2.2.1 gM_X10_drop.2.2.2.1 gM_X10_drop.2.1 pc e
  | none => true) = true := by decide +kernel
theorem gk_X10_goIn : (List.range gZ_X10_goIn).all (fun pc => match gC_X10_goIn pc with
  | some e => gOk gM_X10_goIn.2.2.2.2.1 gM_X10_goIn.2.2.2.1 gM_X10_goIn.2.1 pc e
  | none => true) = true := by decide +kernel
theorem gk_X10_allLoads : (List.range gZ_X10_allLoads).all (fun pc => match gC_X10_allLoads pc with
  | some e => gOk gM_X10_allLoads.2.2.2.2.1 gM_X10_allLoads.2.2.2.1 gM_X10_allLoads.2.1 pc e
  | none => true) = true := by decide +kernel
theorem gk_X10_allGriefs : (List.range gZ_X10_allGriefs).all (fun pc => match gC_X10_allGriefs pc with
  | some e => gOk gM_X10_allGriefs.2.2.2.2.1 gM_X10_allGriefs.2.2.2.1 gM_X10_allGriefs.2.1 pc e
  | none => true) = true := by decide +kernel
theorem gk_X10_drawersThere : (List.range gZ_X10_drawersThere).all (fun pc => match gC_X10_drawersThere pc with
  | some e => gOk gM_X10_drawersThere.2.2.2.2.1 gM_X10_drawersThere.2.2.2.1 gM_X10_drawersThere.2.1 pc e
  | none => true) = true := by decide +kernel
theorem gk_X10_count : (List.range gZ_X10_count).all (fun pc => match gC_X10_count pc with
  | some e => gOk gM_X10_count.2.2.2.2.1 gM_X10_count.2.2.2.1 gM_X10_count.2.1 pc e
  | none => true) = true := by decide +kernel
