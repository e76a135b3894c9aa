-- 22: every method's code table is checked
theorem gco_X0_renew : gCodeOk gM_X0_renew := gCodeOk_of (Z := gZ_X0_renew) (fun pc ee h => cond_lt h) gk_X0_renew
theorem gco_X0_hasPlace : gCodeOk gM_X0_hasPlace := gCodeOk_of (Z := gZ_X0_hasPlace) (fun pc ee h => cond_lt h) gk_X0_hasPlace
theorem gco_X0_hasPlaces : gCodeOk gM_X0_hasPlaces := gCodeOk_of (Z := gZ_X0_hasPlaces) (fun pc ee h => cond_lt h) gk_X0_hasPlaces
theorem gco_X0_howManyThings : gCodeOk gM_X0_howManyThings := gCodeOk_of (Z := gZ_X0_howManyThings) (fun pc ee h => cond_lt h) gk_X0_howManyThings
theorem gco_X0_isOfLikeThings : gCodeOk gM_X0_isOfLikeThings := gCodeOk_of (Z := gZ_X0_isOfLikeThings) (fun pc ee h => cond_lt h) gk_X0_isOfLikeThings
theorem gco_X0_sort : gCodeOk gM_X0_sort := gCodeOk_of (Z := gZ_X0_sort) (fun pc ee h => cond_lt h) gk_X0_sort
theorem gco_X0_comesBefore : gCodeOk gM_X0_comesBefore := gCodeOk_of (Z := gZ_X0_comesBefore) (fun pc ee h => cond_lt h) gk_X0_comesBefore
theorem gco_X1_become : gCodeOk gM_X1_become := gCodeOk_of (Z := gZ_X1_become) (fun pc ee h => cond_lt h) gk_X1_become
theorem gco_X1_weight : gCodeOk gM_X1_weight := gCodeOk_of (Z := gZ_X1_weight) (fun pc ee h => cond_lt h) gk_X1_weight
theorem gco_X1_append : gCodeOk gM_X1_append := gCodeOk_of (Z := gZ_X1_append) (fun pc ee h => cond_lt h) gk_X1_append
theorem gco_X1_removeGreatest : gCodeOk gM_X1_removeGreatest := gCodeOk_of (Z := gZ_X1_removeGreatest) (fun pc ee h => cond_lt h) gk_X1_removeGreatest
theorem gco_X1_fade : gCodeOk gM_X1_fade := gCodeOk_of (Z := gZ_X1_fade) (fun pc ee h => cond_lt h) gk_X1_fade
theorem gco_X1_loadAs : gCodeOk gM_X1_loadAs := gCodeOk_of (Z := gZ_X1_loadAs) (fun pc ee h => cond_lt h) gk_X1_loadAs
theorem gco_X2_settle : gCodeOk gM_X2_settle := gCodeOk_of (Z := gZ_X2_settle) (fun pc ee h => cond_lt h) gk_X2_settle
theorem gco_X2_settleFrom : gCodeOk gM_X2_settleFrom := gCodeOk_of (Z := gZ_X2_settleFrom) (fun pc ee h => cond_lt h) gk_X2_settleFrom
theorem gco_X3_learn : gCodeOk gM_X3_learn := gCodeOk_of (Z := gZ_X3_learn) (fun pc ee h => cond_lt h) gk_X3_learn
theorem gco_X3_rank : gCodeOk gM_X3_rank := gCodeOk_of (Z := gZ_X3_rank) (fun pc ee h => cond_lt h) gk_X3_rank
theorem gco_X3_bestFirst : gCodeOk gM_X3_bestFirst := gCodeOk_of (Z := gZ_X3_bestFirst) (fun pc ee h => cond_lt h) gk_X3_bestFirst
theorem gco_X3_brokenFrom : gCodeOk gM_X3_brokenFrom := gCodeOk_of (Z := gZ_X3_brokenFrom) (fun pc ee h => cond_lt h) gk_X3_brokenFrom
theorem gco_X3_countUnbroken : gCodeOk gM_X3_countUnbroken := gCodeOk_of (Z := gZ_X3_countUnbroken) (fun pc ee h => cond_lt h) gk_X3_countUnbroken
theorem gco_X3_bestQuestion : gCodeOk gM_X3_bestQuestion := gCodeOk_of (Z := gZ_X3_bestQuestion) (fun pc ee h => cond_lt h) gk_X3_bestQuestion
theorem gco_X3_countUnbrokenWith : gCodeOk gM_X3_countUnbrokenWith := gCodeOk_of (Z := gZ_X3_countUnbrokenWith) (fun pc ee h => cond_lt h) gk_X3_countUnbrokenWith
theorem gco_X4_become : gCodeOk gM_X4_become := gCodeOk_of (Z := gZ_X4_become) (fun pc ee h => cond_lt h) gk_X4_become
theorem gco_X4_append : gCodeOk gM_X4_append := gCodeOk_of (Z := gZ_X4_append) (fun pc ee h => cond_lt h) gk_X4_append
theorem gco_X5_has : gCodeOk gM_X5_has := gCodeOk_of (Z := gZ_X5_has) (fun pc ee h => cond_lt h) gk_X5_has
theorem gco_X5_tell : gCodeOk gM_X5_tell := gCodeOk_of (Z := gZ_X5_tell) (fun pc ee h => cond_lt h) gk_X5_tell
theorem gco_X5_passLents : gCodeOk gM_X5_passLents := gCodeOk_of (Z := gZ_X5_passLents) (fun pc ee h => cond_lt h) gk_X5_passLents
theorem gco_X5_load : gCodeOk gM_X5_load := gCodeOk_of (Z := gZ_X5_load) (fun pc ee h => cond_lt h) gk_X5_load
theorem gco_X5_isAhead : gCodeOk gM_X5_isAhead := gCodeOk_of (Z := gZ_X5_isAhead) (fun pc ee h => cond_lt h) gk_X5_isAhead
theorem gco_X5_placeOf : gCodeOk gM_X5_placeOf := gCodeOk_of (Z := gZ_X5_placeOf) (fun pc ee h => cond_lt h) gk_X5_placeOf
theorem gco_X5_howManyGoIn : gCodeOk gM_X5_howManyGoIn := gCodeOk_of (Z := gZ_X5_howManyGoIn) (fun pc ee h => cond_lt h) gk_X5_howManyGoIn
theorem gco_X5_allLoads : gCodeOk gM_X5_allLoads := gCodeOk_of (Z := gZ_X5_allLoads) (fun pc ee h => cond_lt h) gk_X5_allLoads
theorem gco_X5_allGriefs : gCodeOk gM_X5_allGriefs := gCodeOk_of (Z := gZ_X5_allGriefs) (fun pc ee h => cond_lt h) gk_X5_allGriefs
theorem gco_X6_append : gCodeOk gM_X6_append := gCodeOk_of (Z := gZ_X6_append) (fun pc ee h => cond_lt h) gk_X6_append
theorem gco_X6_possibleKinds : gCodeOk gM_X6_possibleKinds := gCodeOk_of (Z := gZ_X6_possibleKinds) (fun pc ee h => cond_lt h) gk_X6_possibleKinds
theorem gco_X6_likeliestKind : gCodeOk gM_X6_likeliestKind := gCodeOk_of (Z := gZ_X6_likeliestKind) (fun pc ee h => cond_lt h) gk_X6_likeliestKind
theorem gco_X6_howManyOf : gCodeOk gM_X6_howManyOf := gCodeOk_of (Z := gZ_X6_howManyOf) (fun pc ee h => cond_lt h) gk_X6_howManyOf
theorem gco_X6_howManySo : gCodeOk gM_X6_howManySo := gCodeOk_of (Z := gZ_X6_howManySo) (fun pc ee h => cond_lt h) gk_X6_howManySo
theorem gco_X7_append : gCodeOk gM_X7_append := gCodeOk_of (Z := gZ_X7_append) (fun pc ee h => cond_lt h) gk_X7_append
theorem gco_X7_read : gCodeOk gM_X7_read := gCodeOk_of (Z := gZ_X7_read) (fun pc ee h => cond_lt h) gk_X7_read
theorem gco_X7_readClause : gCodeOk gM_X7_readClause := gCodeOk_of (Z := gZ_X7_readClause) (fun pc ee h => cond_lt h) gk_X7_readClause
theorem gco_X7_readHouse : gCodeOk gM_X7_readHouse := gCodeOk_of (Z := gZ_X7_readHouse) (fun pc ee h => cond_lt h) gk_X7_readHouse
theorem gco_X7_readOne : gCodeOk gM_X7_readOne := gCodeOk_of (Z := gZ_X7_readOne) (fun pc ee h => cond_lt h) gk_X7_readOne
theorem gco_X7_readTwo : gCodeOk gM_X7_readTwo := gCodeOk_of (Z := gZ_X7_readTwo) (fun pc ee h => cond_lt h) gk_X7_readTwo
theorem gco_X7_addNumber : gCodeOk gM_X7_addNumber := gCodeOk_of (Z := gZ_X7_addNumber) (fun pc ee h => cond_lt h) gk_X7_addNumber
theorem gco_X7_goOn : gCodeOk gM_X7_goOn := gCodeOk_of (Z := gZ_X7_goOn) (fun pc ee h => cond_lt h) gk_X7_goOn
theorem gco_X7_sortOf : gCodeOk gM_X7_sortOf := gCodeOk_of (Z := gZ_X7_sortOf) (fun pc ee h => cond_lt h) gk_X7_sortOf
theorem gco_X7_numberHere : gCodeOk gM_X7_numberHere := gCodeOk_of (Z := gZ_X7_numberHere) (fun pc ee h => cond_lt h) gk_X7_numberHere
theorem gco_X7_wordHere : gCodeOk gM_X7_wordHere := gCodeOk_of (Z := gZ_X7_wordHere) (fun pc ee h => cond_lt h) gk_X7_wordHere
theorem gco_X7_isSpelledHere : gCodeOk gM_X7_isSpelledHere := gCodeOk_of (Z := gZ_X7_isSpelledHere) (fun pc ee h => cond_lt h) gk_X7_isSpelledHere
theorem gco_X7_spelling : gCodeOk gM_X7_spelling := gCodeOk_of (Z := gZ_X7_spelling) (fun pc ee h => cond_lt h) gk_X7_spelling
theorem gco_X8_remember : gCodeOk gM_X8_remember := gCodeOk_of (Z := gZ_X8_remember) (fun pc ee h => cond_lt h) gk_X8_remember
theorem gco_X8_restore : gCodeOk gM_X8_restore := gCodeOk_of (Z := gZ_X8_restore) (fun pc ee h => cond_lt h) gk_X8_restore
theorem gco_X9_write : gCodeOk gM_X9_write := gCodeOk_of (Z := gZ_X9_write) (fun pc ee h => cond_lt h) gk_X9_write
theorem gco_X9_erase : gCodeOk gM_X9_erase := gCodeOk_of (Z := gZ_X9_erase) (fun pc ee h => cond_lt h) gk_X9_erase
theorem gco_X9_fault : gCodeOk gM_X9_fault := gCodeOk_of (Z := gZ_X9_fault) (fun pc ee h => cond_lt h) gk_X9_fault
theorem gco_X9_house : gCodeOk gM_X9_house := gCodeOk_of (Z := gZ_X9_house) (fun pc ee h => cond_lt h) gk_X9_house
theorem gco_X9_person : gCodeOk gM_X9_person := gCodeOk_of (Z := gZ_X9_person) (fun pc ee h => cond_lt h) gk_X9_person
theorem gco_X9_grief : gCodeOk gM_X9_grief := gCodeOk_of (Z := gZ_X9_grief) (fun pc ee h => cond_lt h) gk_X9_grief
theorem gco_X9_as : gCodeOk gM_X9_as := gCodeOk_of (Z := gZ_X9_as) (fun pc ee h => cond_lt h) gk_X9_as
theorem gco_X9_pair : gCodeOk gM_X9_pair := gCodeOk_of (Z := gZ_X9_pair) (fun pc ee h => cond_lt h) gk_X9_pair
theorem gco_X9_unpair : gCodeOk gM_X9_unpair := gCodeOk_of (Z := gZ_X9_unpair) (fun pc ee h => cond_lt h) gk_X9_unpair
theorem gco_X9_lent : gCodeOk gM_X9_lent := gCodeOk_of (Z := gZ_X9_lent) (fun pc ee h => cond_lt h) gk_X9_lent
theorem gco_X9_grieve : gCodeOk gM_X9_grieve := gCodeOk_of (Z := gZ_X9_grieve) (fun pc ee h => cond_lt h) gk_X9_grieve
theorem gco_X9_comfort : gCodeOk gM_X9_comfort := gCodeOk_of (Z := gZ_X9_comfort) (fun pc ee h => cond_lt h) gk_X9_comfort
theorem gco_X9_undo : gCodeOk gM_X9_undo := gCodeOk_of (Z := gZ_X9_undo) (fun pc ee h => cond_lt h) gk_X9_undo
theorem gco_X9_keep : gCodeOk gM_X9_keep := gCodeOk_of (Z := gZ_X9_keep) (fun pc ee h => cond_lt h) gk_X9_keep
theorem gco_X9_back : gCodeOk gM_X9_back := gCodeOk_of (Z := gZ_X9_back) (fun pc ee h => cond_lt h) gk_X9_back
theorem gco_X9_behind : gCodeOk gM_X9_behind := gCodeOk_of (Z := gZ_X9_behind) (fun pc ee h => cond_lt h) gk_X9_behind
theorem gco_X9_enters : gCodeOk gM_X9_enters := gCodeOk_of (Z := gZ_X9_enters) (fun pc ee h => cond_lt h) gk_X9_enters
theorem gco_X9_ahead : gCodeOk gM_X9_ahead := gCodeOk_of (Z := gZ_X9_ahead) (fun pc ee h => cond_lt h) gk_X9_ahead
theorem gco_X9_wrong : gCodeOk gM_X9_wrong := gCodeOk_of (Z := gZ_X9_wrong) (fun pc ee h => cond_lt h) gk_X9_wrong
theorem gco_X9_ranked : gCodeOk gM_X9_ranked := gCodeOk_of (Z := gZ_X9_ranked) (fun pc ee h => cond_lt h) gk_X9_ranked
theorem gco_X9_lines : gCodeOk gM_X9_lines := gCodeOk_of (Z := gZ_X9_lines) (fun pc ee h => cond_lt h) gk_X9_lines
theorem gco_X9_next : gCodeOk gM_X9_next := gCodeOk_of (Z := gZ_X9_next) (fun pc ee h => cond_lt h) gk_X9_next
theorem gco_X9_rooms : gCodeOk gM_X9_rooms := gCodeOk_of (Z := gZ_X9_rooms) (fun pc ee h => cond_lt h) gk_X9_rooms
theorem gco_X9_misread : gCodeOk gM_X9_misread := gCodeOk_of (Z := gZ_X9_misread) (fun pc ee h => cond_lt h) gk_X9_misread
theorem gco_X9_seen : gCodeOk gM_X9_seen := gCodeOk_of (Z := gZ_X9_seen) (fun pc ee h => cond_lt h) gk_X9_seen
theorem gco_X9_forget : gCodeOk gM_X9_forget := gCodeOk_of (Z := gZ_X9_forget) (fun pc ee h => cond_lt h) gk_X9_forget
theorem gco_X9_kinds : gCodeOk gM_X9_kinds := gCodeOk_of (Z := gZ_X9_kinds) (fun pc ee h => cond_lt h) gk_X9_kinds
theorem gco_X9_drawer : gCodeOk gM_X9_drawer := gCodeOk_of (Z := gZ_X9_drawer) (fun pc ee h => cond_lt h) gk_X9_drawer
theorem gco_X9_put : gCodeOk gM_X9_put := gCodeOk_of (Z := gZ_X9_put) (fun pc ee h => cond_lt h) gk_X9_put
theorem gco_X9_take : gCodeOk gM_X9_take := gCodeOk_of (Z := gZ_X9_take) (fun pc ee h => cond_lt h) gk_X9_take
theorem gco_X9_tidy : gCodeOk gM_X9_tidy := gCodeOk_of (Z := gZ_X9_tidy) (fun pc ee h => cond_lt h) gk_X9_tidy
theorem gco_X9_copy : gCodeOk gM_X9_copy := gCodeOk_of (Z := gZ_X9_copy) (fun pc ee h => cond_lt h) gk_X9_copy
theorem gco_X9_drop : gCodeOk gM_X9_drop := gCodeOk_of (Z := gZ_X9_drop) (fun pc ee h => cond_lt h) gk_X9_drop
theorem gco_X9_count : gCodeOk gM_X9_count := gCodeOk_of (Z := gZ_X9_count) (fun pc ee h => cond_lt h) gk_X9_count
theorem gco_X9_doClause : gCodeOk gM_X9_doClause := gCodeOk_of (Z := gZ_X9_doClause) (fun pc ee h => cond_lt h) gk_X9_doClause
theorem gco_X9_beginAsTold : gCodeOk gM_X9_beginAsTold := gCodeOk_of (Z := gZ_X9_beginAsTold) (fun pc ee h => cond_lt h) gk_X9_beginAsTold
theorem gco_X9_areTwo : gCodeOk gM_X9_areTwo := gCodeOk_of (Z := gZ_X9_areTwo) (fun pc ee h => cond_lt h) gk_X9_areTwo
theorem gco_X9_drawersThere : gCodeOk gM_X9_drawersThere := gCodeOk_of (Z := gZ_X9_drawersThere) (fun pc ee h => cond_lt h) gk_X9_drawersThere
theorem gco_X9_isWithin : gCodeOk gM_X9_isWithin := gCodeOk_of (Z := gZ_X9_isWithin) (fun pc ee h => cond_lt h) gk_X9_isWithin
theorem gco_X9_isDrawer : gCodeOk gM_X9_isDrawer := gCodeOk_of (Z := gZ_X9_isDrawer) (fun pc ee h => cond_lt h) gk_X9_isDrawer
theorem gco_X9_canBePut : gCodeOk gM_X9_canBePut := gCodeOk_of (Z := gZ_X9_canBePut) (fun pc ee h => cond_lt h) gk_X9_canBePut
theorem gco_X9_isSuch : gCodeOk gM_X9_isSuch := gCodeOk_of (Z := gZ_X9_isSuch) (fun pc ee h => cond_lt h) gk_X9_isSuch
theorem gco_X9_stepOf : gCodeOk gM_X9_stepOf := gCodeOk_of (Z := gZ_X9_stepOf) (fun pc ee h => cond_lt h) gk_X9_stepOf
theorem gco_X9_readingsAsGreater : gCodeOk gM_X9_readingsAsGreater := gCodeOk_of (Z := gZ_X9_readingsAsGreater) (fun pc ee h => cond_lt h) gk_X9_readingsAsGreater
theorem gco_X9_readingsOff : gCodeOk gM_X9_readingsOff := gCodeOk_of (Z := gZ_X9_readingsOff) (fun pc ee h => cond_lt h) gk_X9_readingsOff
theorem gco_X9_commonDivisor : gCodeOk gM_X9_commonDivisor := gCodeOk_of (Z := gZ_X9_commonDivisor) (fun pc ee h => cond_lt h) gk_X9_commonDivisor
theorem gco_X10_in : gCodeOk gM_X10_in := gCodeOk_of (Z := gZ_X10_in) (fun pc ee h => cond_lt h) gk_X10_in
theorem gco_X10_write : gCodeOk gM_X10_write := gCodeOk_of (Z := gZ_X10_write) (fun pc ee h => cond_lt h) gk_X10_write
theorem gco_X10_erase : gCodeOk gM_X10_erase := gCodeOk_of (Z := gZ_X10_erase) (fun pc ee h => cond_lt h) gk_X10_erase
theorem gco_X10_isLetter : gCodeOk gM_X10_isLetter := gCodeOk_of (Z := gZ_X10_isLetter) (fun pc ee h => cond_lt h) gk_X10_isLetter
theorem gco_X10_isDigit : gCodeOk gM_X10_isDigit := gCodeOk_of (Z := gZ_X10_isDigit) (fun pc ee h => cond_lt h) gk_X10_isDigit
theorem gco_X10_nextToken : gCodeOk gM_X10_nextToken := gCodeOk_of (Z := gZ_X10_nextToken) (fun pc ee h => cond_lt h) gk_X10_nextToken
theorem gco_X10_isWord : gCodeOk gM_X10_isWord := gCodeOk_of (Z := gZ_X10_isWord) (fun pc ee h => cond_lt h) gk_X10_isWord
theorem gco_X10_number : gCodeOk gM_X10_number := gCodeOk_of (Z := gZ_X10_number) (fun pc ee h => cond_lt h) gk_X10_number
theorem gco_X10_kindHere : gCodeOk gM_X10_kindHere := gCodeOk_of (Z := gZ_X10_kindHere) (fun pc ee h => cond_lt h) gk_X10_kindHere
theorem gco_X10_readsPerson : gCodeOk gM_X10_readsPerson := gCodeOk_of (Z := gZ_X10_readsPerson) (fun pc ee h => cond_lt h) gk_X10_readsPerson
theorem gco_X10_readsPair : gCodeOk gM_X10_readsPair := gCodeOk_of (Z := gZ_X10_readsPair) (fun pc ee h => cond_lt h) gk_X10_readsPair
theorem gco_X10_readsHouse : gCodeOk gM_X10_readsHouse := gCodeOk_of (Z := gZ_X10_readsHouse) (fun pc ee h => cond_lt h) gk_X10_readsHouse
theorem gco_X10_readsClause : gCodeOk gM_X10_readsClause := gCodeOk_of (Z := gZ_X10_readsClause) (fun pc ee h => cond_lt h) gk_X10_readsClause
theorem gco_X10_reads : gCodeOk gM_X10_reads := gCodeOk_of (Z := gZ_X10_reads) (fun pc ee h => cond_lt h) gk_X10_reads
theorem gco_X10_fault : gCodeOk gM_X10_fault := gCodeOk_of (Z := gZ_X10_fault) (fun pc ee h => cond_lt h) gk_X10_fault
theorem gco_X10_copyRow : gCodeOk gM_X10_copyRow := gCodeOk_of (Z := gZ_X10_copyRow) (fun pc ee h => cond_lt h) gk_X10_copyRow
theorem gco_X10_house : gCodeOk gM_X10_house := gCodeOk_of (Z := gZ_X10_house) (fun pc ee h => cond_lt h) gk_X10_house
theorem gco_X10_isPerson : gCodeOk gM_X10_isPerson := gCodeOk_of (Z := gZ_X10_isPerson) (fun pc ee h => cond_lt h) gk_X10_isPerson
theorem gco_X10_sumOf : gCodeOk gM_X10_sumOf := gCodeOk_of (Z := gZ_X10_sumOf) (fun pc ee h => cond_lt h) gk_X10_sumOf
theorem gco_X10_greatestOf : gCodeOk gM_X10_greatestOf := gCodeOk_of (Z := gZ_X10_greatestOf) (fun pc ee h => cond_lt h) gk_X10_greatestOf
theorem gco_X10_loadBy : gCodeOk gM_X10_loadBy := gCodeOk_of (Z := gZ_X10_loadBy) (fun pc ee h => cond_lt h) gk_X10_loadBy
theorem gco_X10_load : gCodeOk gM_X10_load := gCodeOk_of (Z := gZ_X10_load) (fun pc ee h => cond_lt h) gk_X10_load
theorem gco_X10_fades : gCodeOk gM_X10_fades := gCodeOk_of (Z := gZ_X10_fades) (fun pc ee h => cond_lt h) gk_X10_fades
theorem gco_X10_stepOf : gCodeOk gM_X10_stepOf := gCodeOk_of (Z := gZ_X10_stepOf) (fun pc ee h => cond_lt h) gk_X10_stepOf
theorem gco_X10_fade : gCodeOk gM_X10_fade := gCodeOk_of (Z := gZ_X10_fade) (fun pc ee h => cond_lt h) gk_X10_fade
theorem gco_X10_passes : gCodeOk gM_X10_passes := gCodeOk_of (Z := gZ_X10_passes) (fun pc ee h => cond_lt h) gk_X10_passes
theorem gco_X10_isAhead : gCodeOk gM_X10_isAhead := gCodeOk_of (Z := gZ_X10_isAhead) (fun pc ee h => cond_lt h) gk_X10_isAhead
theorem gco_X10_placeOf : gCodeOk gM_X10_placeOf := gCodeOk_of (Z := gZ_X10_placeOf) (fun pc ee h => cond_lt h) gk_X10_placeOf
theorem gco_X10_person : gCodeOk gM_X10_person := gCodeOk_of (Z := gZ_X10_person) (fun pc ee h => cond_lt h) gk_X10_person
theorem gco_X10_grief : gCodeOk gM_X10_grief := gCodeOk_of (Z := gZ_X10_grief) (fun pc ee h => cond_lt h) gk_X10_grief
theorem gco_X10_as : gCodeOk gM_X10_as := gCodeOk_of (Z := gZ_X10_as) (fun pc ee h => cond_lt h) gk_X10_as
theorem gco_X10_areTwo : gCodeOk gM_X10_areTwo := gCodeOk_of (Z := gZ_X10_areTwo) (fun pc ee h => cond_lt h) gk_X10_areTwo
theorem gco_X10_pair : gCodeOk gM_X10_pair := gCodeOk_of (Z := gZ_X10_pair) (fun pc ee h => cond_lt h) gk_X10_pair
theorem gco_X10_unpair : gCodeOk gM_X10_unpair := gCodeOk_of (Z := gZ_X10_unpair) (fun pc ee h => cond_lt h) gk_X10_unpair
theorem gco_X10_keepPast : gCodeOk gM_X10_keepPast := gCodeOk_of (Z := gZ_X10_keepPast) (fun pc ee h => cond_lt h) gk_X10_keepPast
theorem gco_X10_lent : gCodeOk gM_X10_lent := gCodeOk_of (Z := gZ_X10_lent) (fun pc ee h => cond_lt h) gk_X10_lent
theorem gco_X10_grieve : gCodeOk gM_X10_grieve := gCodeOk_of (Z := gZ_X10_grieve) (fun pc ee h => cond_lt h) gk_X10_grieve
theorem gco_X10_comfort : gCodeOk gM_X10_comfort := gCodeOk_of (Z := gZ_X10_comfort) (fun pc ee h => cond_lt h) gk_X10_comfort
theorem gco_X10_undo : gCodeOk gM_X10_undo := gCodeOk_of (Z := gZ_X10_undo) (fun pc ee h => cond_lt h) gk_X10_undo
theorem gco_X10_keep : gCodeOk gM_X10_keep := gCodeOk_of (Z := gZ_X10_keep) (fun pc ee h => cond_lt h) gk_X10_keep
theorem gco_X10_back : gCodeOk gM_X10_back := gCodeOk_of (Z := gZ_X10_back) (fun pc ee h => cond_lt h) gk_X10_back
theorem gco_X10_layTried : gCodeOk gM_X10_layTried := gCodeOk_of (Z := gZ_X10_layTried) (fun pc ee h => cond_lt h) gk_X10_layTried
theorem gco_X10_behind : gCodeOk gM_X10_behind := gCodeOk_of (Z := gZ_X10_behind) (fun pc ee h => cond_lt h) gk_X10_behind
theorem gco_X10_enters : gCodeOk gM_X10_enters := gCodeOk_of (Z := gZ_X10_enters) (fun pc ee h => cond_lt h) gk_X10_enters
theorem gco_X10_ahead : gCodeOk gM_X10_ahead := gCodeOk_of (Z := gZ_X10_ahead) (fun pc ee h => cond_lt h) gk_X10_ahead
theorem gco_X10_wrong : gCodeOk gM_X10_wrong := gCodeOk_of (Z := gZ_X10_wrong) (fun pc ee h => cond_lt h) gk_X10_wrong
theorem gco_X10_layOrder : gCodeOk gM_X10_layOrder := gCodeOk_of (Z := gZ_X10_layOrder) (fun pc ee h => cond_lt h) gk_X10_layOrder
theorem gco_X10_nextOrder : gCodeOk gM_X10_nextOrder := gCodeOk_of (Z := gZ_X10_nextOrder) (fun pc ee h => cond_lt h) gk_X10_nextOrder
theorem gco_X10_change : gCodeOk gM_X10_change := gCodeOk_of (Z := gZ_X10_change) (fun pc ee h => cond_lt h) gk_X10_change
theorem gco_X10_broken : gCodeOk gM_X10_broken := gCodeOk_of (Z := gZ_X10_broken) (fun pc ee h => cond_lt h) gk_X10_broken
theorem gco_X10_ranked : gCodeOk gM_X10_ranked := gCodeOk_of (Z := gZ_X10_ranked) (fun pc ee h => cond_lt h) gk_X10_ranked
theorem gco_X10_countLines : gCodeOk gM_X10_countLines := gCodeOk_of (Z := gZ_X10_countLines) (fun pc ee h => cond_lt h) gk_X10_countLines
theorem gco_X10_lines : gCodeOk gM_X10_lines := gCodeOk_of (Z := gZ_X10_lines) (fun pc ee h => cond_lt h) gk_X10_lines
theorem gco_X10_next : gCodeOk gM_X10_next := gCodeOk_of (Z := gZ_X10_next) (fun pc ee h => cond_lt h) gk_X10_next
theorem gco_X10_fits : gCodeOk gM_X10_fits := gCodeOk_of (Z := gZ_X10_fits) (fun pc ee h => cond_lt h) gk_X10_fits
theorem gco_X10_rooms : gCodeOk gM_X10_rooms := gCodeOk_of (Z := gZ_X10_rooms) (fun pc ee h => cond_lt h) gk_X10_rooms
theorem gco_X10_misread : gCodeOk gM_X10_misread := gCodeOk_of (Z := gZ_X10_misread) (fun pc ee h => cond_lt h) gk_X10_misread
theorem gco_X10_seen : gCodeOk gM_X10_seen := gCodeOk_of (Z := gZ_X10_seen) (fun pc ee h => cond_lt h) gk_X10_seen
theorem gco_X10_forget : gCodeOk gM_X10_forget := gCodeOk_of (Z := gZ_X10_forget) (fun pc ee h => cond_lt h) gk_X10_forget
theorem gco_X10_stepBy : gCodeOk gM_X10_stepBy := gCodeOk_of (Z := gZ_X10_stepBy) (fun pc ee h => cond_lt h) gk_X10_stepBy
theorem gco_X10_kinds : gCodeOk gM_X10_kinds := gCodeOk_of (Z := gZ_X10_kinds) (fun pc ee h => cond_lt h) gk_X10_kinds
theorem gco_X10_isDrawer : gCodeOk gM_X10_isDrawer := gCodeOk_of (Z := gZ_X10_isDrawer) (fun pc ee h => cond_lt h) gk_X10_isDrawer
theorem gco_X10_drawer : gCodeOk gM_X10_drawer := gCodeOk_of (Z := gZ_X10_drawer) (fun pc ee h => cond_lt h) gk_X10_drawer
theorem gco_X10_noPlace : gCodeOk gM_X10_noPlace := gCodeOk_of (Z := gZ_X10_noPlace) (fun pc ee h => cond_lt h) gk_X10_noPlace
theorem gco_X10_put : gCodeOk gM_X10_put := gCodeOk_of (Z := gZ_X10_put) (fun pc ee h => cond_lt h) gk_X10_put
theorem gco_X10_take : gCodeOk gM_X10_take := gCodeOk_of (Z := gZ_X10_take) (fun pc ee h => cond_lt h) gk_X10_take
theorem gco_X10_isBehind : gCodeOk gM_X10_isBehind := gCodeOk_of (Z := gZ_X10_isBehind) (fun pc ee h => cond_lt h) gk_X10_isBehind
theorem gco_X10_tidy : gCodeOk gM_X10_tidy := gCodeOk_of (Z := gZ_X10_tidy) (fun pc ee h => cond_lt h) gk_X10_tidy
theorem gco_X10_isSpan : gCodeOk gM_X10_isSpan := gCodeOk_of (Z := gZ_X10_isSpan) (fun pc ee h => cond_lt h) gk_X10_isSpan
theorem gco_X10_copy : gCodeOk gM_X10_copy := gCodeOk_of (Z := gZ_X10_copy) (fun pc ee h => cond_lt h) gk_X10_copy
theorem gco_X10_drop : gCodeOk gM_X10_drop := gCodeOk_of (Z := gZ_X10_drop) (fun pc ee h => cond_lt h) gk_X10_drop
theorem gco_X10_goIn : gCodeOk gM_X10_goIn := gCodeOk_of (Z := gZ_X10_goIn) (fun pc ee h => cond_lt h) gk_X10_goIn
theorem gco_X10_allLoads : gCodeOk gM_X10_allLoads := gCodeOk_of (Z := gZ_X10_allLoads) (fun pc ee h => cond_lt h) gk_X10_allLoads
theorem gco_X10_allGriefs : gCodeOk gM_X10_allGriefs := gCodeOk_of (Z := gZ_X10_allGriefs) (fun pc ee h => cond_lt h) gk_X10_allGriefs
theorem gco_X10_drawersThere : gCodeOk gM_X10_drawersThere := gCodeOk_of (Z := gZ_X10_drawersThere) (fun pc ee h => cond_lt h) gk_X10_drawersThere
theorem gco_X10_count : gCodeOk gM_X10_count := gCodeOk_of (Z := gZ_X10_count) (fun pc ee h => cond_lt h) gk_X10_count
theorem gMi_all : ∀ k : Nat, k < 175 → ∀ q, gMi k = some q → gCodeOk q := by
  intro k hk q h
  match k, hk, h with
  | 0, _, h => cases h; exact gco_X0_renew
  | 1, _, h => cases h; exact gco_X0_hasPlace
  | 2, _, h => cases h; exact gco_X0_hasPlaces
  | 3, _, h => cases h; exact gco_X0_howManyThings
  | 4, _, h => cases h; exact gco_X0_isOfLikeThings
  | 5, _, h => cases h; exact gco_X0_sort
  | 6, _, h => cases h; exact gco_X0_comesBefore
  | 7, _, h => cases h; exact gco_X1_become
  | 8, _, h => cases h; exact gco_X1_weight
  | 9, _, h => cases h; exact gco_X1_append
  | 10, _, h => cases h; exact gco_X1_removeGreatest
  | 11, _, h => cases h; exact gco_X1_fade
  | 12, _, h => cases h; exact gco_X1_loadAs
  | 13, _, h => cases h; exact gco_X2_settle
  | 14, _, h => cases h; exact gco_X2_settleFrom
  | 15, _, h => cases h; exact gco_X3_learn
  | 16, _, h => cases h; exact gco_X3_rank
  | 17, _, h => cases h; exact gco_X3_bestFirst
  | 18, _, h => cases h; exact gco_X3_brokenFrom
  | 19, _, h => cases h; exact gco_X3_countUnbroken
  | 20, _, h => cases h; exact gco_X3_bestQuestion
  | 21, _, h => cases h; exact gco_X3_countUnbrokenWith
  | 22, _, h => cases h; exact gco_X4_become
  | 23, _, h => cases h; exact gco_X4_append
  | 24, _, h => cases h; exact gco_X5_has
  | 25, _, h => cases h; exact gco_X5_tell
  | 26, _, h => cases h; exact gco_X5_passLents
  | 27, _, h => cases h; exact gco_X5_load
  | 28, _, h => cases h; exact gco_X5_isAhead
  | 29, _, h => cases h; exact gco_X5_placeOf
  | 30, _, h => cases h; exact gco_X5_howManyGoIn
  | 31, _, h => cases h; exact gco_X5_allLoads
  | 32, _, h => cases h; exact gco_X5_allGriefs
  | 33, _, h => cases h; exact gco_X6_append
  | 34, _, h => cases h; exact gco_X6_possibleKinds
  | 35, _, h => cases h; exact gco_X6_likeliestKind
  | 36, _, h => cases h; exact gco_X6_howManyOf
  | 37, _, h => cases h; exact gco_X6_howManySo
  | 38, _, h => cases h; exact gco_X7_append
  | 39, _, h => cases h; exact gco_X7_read
  | 40, _, h => cases h; exact gco_X7_readClause
  | 41, _, h => cases h; exact gco_X7_readHouse
  | 42, _, h => cases h; exact gco_X7_readOne
  | 43, _, h => cases h; exact gco_X7_readTwo
  | 44, _, h => cases h; exact gco_X7_addNumber
  | 45, _, h => cases h; exact gco_X7_goOn
  | 46, _, h => cases h; exact gco_X7_sortOf
  | 47, _, h => cases h; exact gco_X7_numberHere
  | 48, _, h => cases h; exact gco_X7_wordHere
  | 49, _, h => cases h; exact gco_X7_isSpelledHere
  | 50, _, h => cases h; exact gco_X7_spelling
  | 51, _, h => cases h; exact gco_X8_remember
  | 52, _, h => cases h; exact gco_X8_restore
  | 53, _, h => cases h; exact gco_X9_write
  | 54, _, h => cases h; exact gco_X9_erase
  | 55, _, h => cases h; exact gco_X9_fault
  | 56, _, h => cases h; exact gco_X9_house
  | 57, _, h => cases h; exact gco_X9_person
  | 58, _, h => cases h; exact gco_X9_grief
  | 59, _, h => cases h; exact gco_X9_as
  | 60, _, h => cases h; exact gco_X9_pair
  | 61, _, h => cases h; exact gco_X9_unpair
  | 62, _, h => cases h; exact gco_X9_lent
  | 63, _, h => cases h; exact gco_X9_grieve
  | 64, _, h => cases h; exact gco_X9_comfort
  | 65, _, h => cases h; exact gco_X9_undo
  | 66, _, h => cases h; exact gco_X9_keep
  | 67, _, h => cases h; exact gco_X9_back
  | 68, _, h => cases h; exact gco_X9_behind
  | 69, _, h => cases h; exact gco_X9_enters
  | 70, _, h => cases h; exact gco_X9_ahead
  | 71, _, h => cases h; exact gco_X9_wrong
  | 72, _, h => cases h; exact gco_X9_ranked
  | 73, _, h => cases h; exact gco_X9_lines
  | 74, _, h => cases h; exact gco_X9_next
  | 75, _, h => cases h; exact gco_X9_rooms
  | 76, _, h => cases h; exact gco_X9_misread
  | 77, _, h => cases h; exact gco_X9_seen
  | 78, _, h => cases h; exact gco_X9_forget
  | 79, _, h => cases h; exact gco_X9_kinds
  | 80, _, h => cases h; exact gco_X9_drawer
  | 81, _, h => cases h; exact gco_X9_put
  | 82, _, h => cases h; exact gco_X9_take
  | 83, _, h => cases h; exact gco_X9_tidy
  | 84, _, h => cases h; exact gco_X9_copy
  | 85, _, h => cases h; exact gco_X9_drop
  | 86, _, h => cases h; exact gco_X9_count
  | 87, _, h => cases h; exact gco_X9_doClause
  | 88, _, h => cases h; exact gco_X9_beginAsTold
  | 89, _, h => cases h; exact gco_X9_areTwo
  | 90, _, h => cases h; exact gco_X9_drawersThere
  | 91, _, h => cases h; exact gco_X9_isWithin
  | 92, _, h => cases h; exact gco_X9_isDrawer
  | 93, _, h => cases h; exact gco_X9_canBePut
  | 94, _, h => cases h; exact gco_X9_isSuch
  | 95, _, h => cases h; exact gco_X9_stepOf
  | 96, _, h => cases h; exact gco_X9_readingsAsGreater
  | 97, _, h => cases h; exact gco_X9_readingsOff
  | 98, _, h => cases h; exact gco_X9_commonDivisor
  | 99, _, h => cases h; exact gco_X10_in
  | 100, _, h => cases h; exact gco_X10_write
  | 101, _, h => cases h; exact gco_X10_erase
  | 102, _, h => cases h; exact gco_X10_isLetter
  | 103, _, h => cases h; exact gco_X10_isDigit
  | 104, _, h => cases h; exact gco_X10_nextToken
  | 105, _, h => cases h; exact gco_X10_isWord
  | 106, _, h => cases h; exact gco_X10_number
  | 107, _, h => cases h; exact gco_X10_kindHere
  | 108, _, h => cases h; exact gco_X10_readsPerson
  | 109, _, h => cases h; exact gco_X10_readsPair
  | 110, _, h => cases h; exact gco_X10_readsHouse
  | 111, _, h => cases h; exact gco_X10_readsClause
  | 112, _, h => cases h; exact gco_X10_reads
  | 113, _, h => cases h; exact gco_X10_fault
  | 114, _, h => cases h; exact gco_X10_copyRow
  | 115, _, h => cases h; exact gco_X10_house
  | 116, _, h => cases h; exact gco_X10_isPerson
  | 117, _, h => cases h; exact gco_X10_sumOf
  | 118, _, h => cases h; exact gco_X10_greatestOf
  | 119, _, h => cases h; exact gco_X10_loadBy
  | 120, _, h => cases h; exact gco_X10_load
  | 121, _, h => cases h; exact gco_X10_fades
  | 122, _, h => cases h; exact gco_X10_stepOf
  | 123, _, h => cases h; exact gco_X10_fade
  | 124, _, h => cases h; exact gco_X10_passes
  | 125, _, h => cases h; exact gco_X10_isAhead
  | 126, _, h => cases h; exact gco_X10_placeOf
  | 127, _, h => cases h; exact gco_X10_person
  | 128, _, h => cases h; exact gco_X10_grief
  | 129, _, h => cases h; exact gco_X10_as
  | 130, _, h => cases h; exact gco_X10_areTwo
  | 131, _, h => cases h; exact gco_X10_pair
  | 132, _, h => cases h; exact gco_X10_unpair
  | 133, _, h => cases h; exact gco_X10_keepPast
  | 134, _, h => cases h; exact gco_X10_lent
  | 135, _, h => cases h; exact gco_X10_grieve
  | 136, _, h => cases h; exact gco_X10_comfort
  | 137, _, h => cases h; exact gco_X10_undo
  | 138, _, h => cases h; exact gco_X10_keep
  | 139, _, h => cases h; exact gco_X10_back
  | 140, _, h => cases h; exact gco_X10_layTried
  | 141, _, h => cases h; exact gco_X10_behind
  | 142, _, h => cases h; exact gco_X10_enters
  | 143, _, h => cases h; exact gco_X10_ahead
  | 144, _, h => cases h; exact gco_X10_wrong
  | 145, _, h => cases h; exact gco_X10_layOrder
  | 146, _, h => cases h; exact gco_X10_nextOrder
  | 147, _, h => cases h; exact gco_X10_change
  | 148, _, h => cases h; exact gco_X10_broken
  | 149, _, h => cases h; exact gco_X10_ranked
  | 150, _, h => cases h; exact gco_X10_countLines
  | 151, _, h => cases h; exact gco_X10_lines
  | 152, _, h => cases h; exact gco_X10_next
  | 153, _, h => cases h; exact gco_X10_fits
  | 154, _, h => cases h; exact gco_X10_rooms
  | 155, _, h => cases h; exact gco_X10_misread
  | 156, _, h => cases h; exact gco_X10_seen
  | 157, _, h => cases h; exact gco_X10_forget
  | 158, _, h => cases h; exact gco_X10_stepBy
  | 159, _, h => cases h; exact gco_X10_kinds
  | 160, _, h => cases h; exact gco_X10_isDrawer
  | 161, _, h => cases h; exact gco_X10_drawer
  | 162, _, h => cases h; exact gco_X10_noPlace
  | 163, _, h => cases h; exact gco_X10_put
  | 164, _, h => cases h; exact gco_X10_take
  | 165, _, h => cases h; exact gco_X10_isBehind
  | 166, _, h => cases h; exact gco_X10_tidy
  | 167, _, h => cases h; exact gco_X10_isSpan
  | 168, _, h => cases h; exact gco_X10_copy
  | 169, _, h => cases h; exact gco_X10_drop
  | 170, _, h => cases h; exact gco_X10_goIn
  | 171, _, h => cases h; exact gco_X10_allLoads
  | 172, _, h => cases h; exact gco_X10_allGriefs
  | 173, _, h => cases h; exact gco_X10_drawersThere
  | 174, _, h => cases h; exact gco_X10_count
  | k + 175, hk, _ => exact absurd hk (by omega)
theorem gMi_code (k : Nat) (q : gMI) (h : gMi k = some q) : gCodeOk q := gMi_all k (gMi_lt h) q h
