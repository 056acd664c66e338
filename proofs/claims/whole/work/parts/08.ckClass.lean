theorem ck_Main_init : mj_ck 9 cX11_init (none) true bl_Main_init = true := by decide +kernel
theorem ck_Main_feed : mj_ck 9 cX11_feed (some .int) false bl_Main_feed = true := by decide +kernel
theorem ck_Main_end : mj_ck 9 cX11_end (some .boolean) false bl_Main_end = true := by decide +kernel
theorem ck_Main_holt : mj_ck 9 cX11_holt (some .int) false bl_Main_holt = true := by decide +kernel
theorem ck_Main_law : mj_ck 9 cX11_law (some .int) false bl_Main_law = true := by decide +kernel
theorem ck_Main_fault : mj_ck 9 cX11_fault (some .int) false bl_Main_fault = true := by decide +kernel
theorem ck_Main_bed : mj_ck 9 cX11_bed (some .int) false bl_Main_bed = true := by decide +kernel
theorem ck_Main_basket : mj_ck 9 cX11_basket (some .int) false bl_Main_basket = true := by decide +kernel
theorem ck_Main_run : mj_ck 9 cX11_run (some .int) false bl_Main_run = true := by decide +kernel
theorem ck_Main_over : mj_ck 9 cX11_over (some .boolean) false bl_Main_over = true := by decide +kernel
theorem ck_Main_sound : mj_ck 9 cX11_sound (some .boolean) false bl_Main_sound = true := by decide +kernel
theorem ck_Main_store : mj_ck 9 cX11_store (some .int) false bl_Main_store = true := by decide +kernel
theorem ck_Main_hand : mj_ck 9 cX11_hand (some .int) false bl_Main_hand = true := by decide +kernel
theorem ck_Main_order : mj_ck 9 cX11_order (some .int) false bl_Main_order = true := by decide +kernel
theorem ck_Main_years : mj_ck 9 cX11_years (some .int) false bl_Main_years = true := by decide +kernel
theorem ck_Main_cut : mj_ck 9 cX11_cut (some .int) false bl_Main_cut = true := by decide +kernel
theorem ck_Main_buy : mj_ck 9 cX11_buy (some .int) false bl_Main_buy = true := by decide +kernel
theorem ck_Main_sell : mj_ck 9 cX11_sell (some .int) false bl_Main_sell = true := by decide +kernel
theorem ck_Main_take : mj_ck 9 cX11_take (some .int) false bl_Main_take = true := by decide +kernel
theorem ck_Main_drop : mj_ck 9 cX11_drop (none) false bl_Main_drop = true := by decide +kernel
theorem ck_Main_drain : mj_ck 9 cX11_drain (some .int) false bl_Main_drain = true := by decide +kernel
theorem ck_Main_hire : mj_ck 9 cX11_hire (some .int) false bl_Main_hire = true := by decide +kernel
theorem ck_Main_teach : mj_ck 9 cX11_teach (some .int) false bl_Main_teach = true := by decide +kernel
theorem ck_Main_make : mj_ck 9 cX11_make (some .int) false bl_Main_make = true := by decide +kernel
theorem ck_Main_gain : mj_ck 9 cX11_gain (some .int) false bl_Main_gain = true := by decide +kernel
theorem ck_Main_cuts : mj_ck 9 cX11_cuts (some .int) false bl_Main_cuts = true := by decide +kernel
theorem ck_Main_worth : mj_ck 9 cX11_worth (some .int) false bl_Main_worth = true := by decide +kernel
theorem ck_Main_fills : mj_ck 9 cX11_fills (some .int) false bl_Main_fills = true := by decide +kernel
theorem ck_Main_pieces : mj_ck 9 cX11_pieces (some .int) false bl_Main_pieces = true := by decide +kernel
theorem ck_Main_rod : mj_ck 9 cX11_rod (some .int) false bl_Main_rod = true := by decide +kernel
theorem ck_Main_found : mj_ck 9 cX11_found (some .int) false bl_Main_found = true := by decide +kernel
theorem ck_Main_look : mj_ck 9 cX11_look (some .int) false bl_Main_look = true := by decide +kernel
theorem ck_Main_team : mj_ck 9 cX11_team (some .int) false bl_Main_team = true := by decide +kernel
theorem ck_Main_pairs : mj_ck 9 cX11_pairs (some .int) false bl_Main_pairs = true := by decide +kernel
theorem ck_Main_change : mj_ck 9 cX11_change (some .int) false bl_Main_change = true := by decide +kernel
theorem ck_Main_share : mj_ck 9 cX11_share (some .int) false bl_Main_share = true := by decide +kernel
theorem ck_Main_price : mj_ck 9 cX11_price (some .int) false bl_Main_price = true := by decide +kernel
theorem ck_Main_rests : mj_ck 9 cX11_rests (some .int) false bl_Main_rests = true := by decide +kernel
theorem ck_Main_odds : mj_ck 9 cX11_odds (some .int) false bl_Main_odds = true := by decide +kernel
theorem ck_Main_most : mj_ck 9 cX11_most (some .int) false bl_Main_most = true := by decide +kernel
theorem ck_Main_open : mj_ck 9 cX11_open (some .int) false bl_Main_open = true := by decide +kernel
theorem ck_Main_twins : mj_ck 9 cX11_twins (some .int) false bl_Main_twins = true := by decide +kernel
theorem ck_Main_sort : mj_ck 9 cX11_sort (some .int) false bl_Main_sort = true := by decide +kernel
theorem ck_Main_lengths : mj_ck 9 cX11_lengths (some .int) false bl_Main_lengths = true := by decide +kernel
theorem ck_Main_ahead : mj_ck 9 cX11_ahead (some .int) false bl_Main_ahead = true := by decide +kernel
theorem ck_Main_trial : mj_ck 9 cX11_trial (some .int) false bl_Main_trial = true := by decide +kernel
theorem ck_Main_span : mj_ck 9 cX11_span (some .int) false bl_Main_span = true := by decide +kernel
theorem ck_Main_led : mj_ck 9 cX11_led (some .int) false bl_Main_led = true := by decide +kernel
theorem ck_Main_log : mj_ck 9 cX11_log (some .int) false bl_Main_log = true := by decide +kernel
theorem ck_Main_seed : mj_ck 9 cX11_seed (some .int) false bl_Main_seed = true := by decide +kernel
theorem ck_Main_undo : mj_ck 9 cX11_undo (some .boolean) false bl_Main_undo = true := by decide +kernel
theorem ck_Main_image : mj_ck 9 cX11_image (none) false bl_Main_image = true := by decide +kernel
theorem ck_Main_back : mj_ck 9 cX11_back (some .boolean) false bl_Main_back = true := by decide +kernel
theorem ck_Main_count : mj_ck 9 cX11_count (some .int) false bl_Main_count = true := by decide +kernel
theorem ck_Main_needBed : mj_ck 9 cX11_needBed (none) false bl_Main_needBed = true := by decide +kernel
theorem ck_Main_needBasket : mj_ck 9 cX11_needBasket (none) false bl_Main_needBasket = true := by decide +kernel
theorem ck_Main_needHand : mj_ck 9 cX11_needHand (none) false bl_Main_needHand = true := by decide +kernel
theorem ck_Main_needOrder : mj_ck 9 cX11_needOrder (none) false bl_Main_needOrder = true := by decide +kernel
theorem ck_Main_needFeet : mj_ck 9 cX11_needFeet (none) false bl_Main_needFeet = true := by decide +kernel
theorem ck_Main_needIndex : mj_ck 9 cX11_needIndex (none) false bl_Main_needIndex = true := by decide +kernel
theorem ck_Main_needWithin : mj_ck 9 cX11_needWithin (none) false bl_Main_needWithin = true := by decide +kernel
theorem ck_Main_needTape : mj_ck 9 cX11_needTape (none) false bl_Main_needTape = true := by decide +kernel
theorem ck_Main_needPossible : mj_ck 9 cX11_needPossible (none) false bl_Main_needPossible = true := by decide +kernel
theorem ck_Main_remember : mj_ck 9 cX11_remember (none) false bl_Main_remember = true := by decide +kernel
theorem ck_Main_restBit : mj_ck 9 cX11_restBit (some .int) false bl_Main_restBit = true := by decide +kernel
theorem ck_Main_chanceOf : mj_ck 9 cX11_chanceOf (some .long) false bl_Main_chanceOf = true := by decide +kernel
theorem ck_Main_firstGreatest : mj_ck 9 cX11_firstGreatest (some .int) false bl_Main_firstGreatest = true := by decide +kernel
theorem ck_Baskets_init : mj_ck 0 cX0_init (none) true bl_Baskets_init = true := by decide +kernel
theorem ck_Baskets_copy : mj_ck 0 cX0_copy (none) false bl_Baskets_copy = true := by decide +kernel
theorem ck_Baskets_beginWeave : mj_ck 0 cX0_beginWeave (none) false bl_Baskets_beginWeave = true := by decide +kernel
theorem ck_Baskets_addRun : mj_ck 0 cX0_addRun (none) false bl_Baskets_addRun = true := by decide +kernel
theorem ck_Baskets_runOf : mj_ck 0 cX0_runOf (some .int) false bl_Baskets_runOf = true := by decide +kernel
theorem ck_Baskets_passesOver : mj_ck 0 cX0_passesOver (some .boolean) false bl_Baskets_passesOver = true := by decide +kernel
theorem ck_Baskets_needOf : mj_ck 0 cX0_needOf (some .int) false bl_Baskets_needOf = true := by decide +kernel
theorem ck_Baskets_againOf : mj_ck 0 cX0_againOf (some .int) false bl_Baskets_againOf = true := by decide +kernel
theorem ck_Baskets_isAlikeAfter : mj_ck 0 cX0_isAlikeAfter (some .boolean) false bl_Baskets_isAlikeAfter = true := by decide +kernel
theorem ck_Baskets_looseOf : mj_ck 0 cX0_looseOf (some .int) false bl_Baskets_looseOf = true := by decide +kernel
theorem ck_Baskets_floatOf : mj_ck 0 cX0_floatOf (some .int) false bl_Baskets_floatOf = true := by decide +kernel
theorem ck_Baskets_dropOf : mj_ck 0 cX0_dropOf (some .int) false bl_Baskets_dropOf = true := by decide +kernel
theorem ck_Baskets_longestAlike : mj_ck 0 cX0_longestAlike (some .int) false bl_Baskets_longestAlike = true := by decide +kernel
theorem ck_Baskets_blindOf : mj_ck 0 cX0_blindOf (some .int) false bl_Baskets_blindOf = true := by decide +kernel
theorem ck_Baskets_isBlind : mj_ck 0 cX0_isBlind (some .boolean) false bl_Baskets_isBlind = true := by decide +kernel
theorem ck_Baskets_fitOf : mj_ck 0 cX0_fitOf (some .int) false bl_Baskets_fitOf = true := by decide +kernel
theorem ck_Baskets_bestPrice : mj_ck 0 cX0_bestPrice (some .int) false bl_Baskets_bestPrice = true := by decide +kernel
theorem ck_Baskets_buyersAt : mj_ck 0 cX0_buyersAt (some .int) false bl_Baskets_buyersAt = true := by decide +kernel
theorem ck_Beds_init : mj_ck 1 cX1_init (none) true bl_Beds_init = true := by decide +kernel
theorem ck_Beds_copy : mj_ck 1 cX1_copy (none) false bl_Beds_copy = true := by decide +kernel
theorem ck_Beds_add : mj_ck 1 cX1_add (none) false bl_Beds_add = true := by decide +kernel
theorem ck_Beds_grow : mj_ck 1 cX1_grow (none) false bl_Beds_grow = true := by decide +kernel
theorem ck_Beds_stoolsAhead : mj_ck 1 cX1_stoolsAhead (some .int) false bl_Beds_stoolsAhead = true := by decide +kernel
theorem ck_Beds_partOf : mj_ck 1 cX1_partOf (some .int) false bl_Beds_partOf = true := by decide +kernel
theorem ck_Beds_feetCut : mj_ck 1 cX1_feetCut (some .int) false bl_Beds_feetCut = true := by decide +kernel
theorem ck_Beds_bestCuts : mj_ck 1 cX1_bestCuts (some .int) false bl_Beds_bestCuts = true := by decide +kernel
theorem ck_Beds_twinPairs : mj_ck 1 cX1_twinPairs (some .int) false bl_Beds_twinPairs = true := by decide +kernel
theorem ck_Beds_ofSort : mj_ck 1 cX1_ofSort (some .int) false bl_Beds_ofSort = true := by decide +kernel
theorem ck_Hands_init : mj_ck 2 cX2_init (none) true bl_Hands_init = true := by decide +kernel
theorem ck_Hands_copy : mj_ck 2 cX2_copy (none) false bl_Hands_copy = true := by decide +kernel
theorem ck_Hands_add : mj_ck 2 cX2_add (none) false bl_Hands_add = true := by decide +kernel
theorem ck_Holt_init : mj_ck 3 cX3_init (none) true bl_Holt_init = true := by decide +kernel
theorem ck_Holt_copy : mj_ck 3 cX3_copy (none) false bl_Holt_copy = true := by decide +kernel
theorem ck_Holt_earn : mj_ck 3 cX3_earn (none) false bl_Holt_earn = true := by decide +kernel
theorem ck_Holt_passYears : mj_ck 3 cX3_passYears (some .int) false bl_Holt_passYears = true := by decide +kernel
theorem ck_Holt_passYear : mj_ck 3 cX3_passYear (some .int) false bl_Holt_passYear = true := by decide +kernel
theorem ck_Holt_draw : mj_ck 3 cX3_draw (some .int) false bl_Holt_draw = true := by decide +kernel
theorem ck_Holt_payHands : mj_ck 3 cX3_payHands (some .int) false bl_Holt_payHands = true := by decide +kernel
theorem ck_Holt_makeOrders : mj_ck 3 cX3_makeOrders (some .int) false bl_Holt_makeOrders = true := by decide +kernel
theorem ck_Holt_rodsFor : mj_ck 3 cX3_rodsFor (some .int) false bl_Holt_rodsFor = true := by decide +kernel
theorem ck_Holt_feetFor : mj_ck 3 cX3_feetFor (some .int) false bl_Holt_feetFor = true := by decide +kernel
theorem ck_Holt_payFor : mj_ck 3 cX3_payFor (some .int) false bl_Holt_payFor = true := by decide +kernel
theorem ck_Holt_canMake : mj_ck 3 cX3_canMake (some .boolean) false bl_Holt_canMake = true := by decide +kernel
theorem ck_Holt_makeUp : mj_ck 3 cX3_makeUp (none) false bl_Holt_makeUp = true := by decide +kernel
theorem ck_Holt_canMakeBits : mj_ck 3 cX3_canMakeBits (some .int) false bl_Holt_canMakeBits = true := by decide +kernel
theorem ck_Holt_bestFills : mj_ck 3 cX3_bestFills (some .int) false bl_Holt_bestFills = true := by decide +kernel
theorem ck_Holt_payOf : mj_ck 3 cX3_payOf (some .int) false bl_Holt_payOf = true := by decide +kernel
theorem ck_Holt_canFill : mj_ck 3 cX3_canFill (some .boolean) false bl_Holt_canFill = true := by decide +kernel
theorem ck_HoltText_read : mj_ck 11 cX4_read (some .boolean) false bl_HoltText_read = true := by decide +kernel
theorem ck_HoltText_readLine : mj_ck 11 cX4_readLine (none) false bl_HoltText_readLine = true := by decide +kernel
theorem ck_HoltText_readBed : mj_ck 11 cX4_readBed (none) false bl_HoltText_readBed = true := by decide +kernel
theorem ck_HoltText_readSort : mj_ck 11 cX4_readSort (some .int) false bl_HoltText_readSort = true := by decide +kernel
theorem ck_HoltText_readBasket : mj_ck 11 cX4_readBasket (none) false bl_HoltText_readBasket = true := by decide +kernel
theorem ck_HoltText_readHand : mj_ck 11 cX4_readHand (none) false bl_HoltText_readHand = true := by decide +kernel
theorem ck_HoltText_readOrder : mj_ck 11 cX4_readOrder (none) false bl_HoltText_readOrder = true := by decide +kernel
theorem ck_Law_init : mj_ck 4 cX5_init (none) true bl_Law_init = true := by decide +kernel
theorem ck_Law_clear : mj_ck 4 cX5_clear (none) false bl_Law_clear = true := by decide +kernel
theorem ck_Law_copy : mj_ck 4 cX5_copy (none) false bl_Law_copy = true := by decide +kernel
theorem ck_Law_emit : mj_ck 4 cX5_emit (none) false bl_Law_emit = true := by decide +kernel
theorem ck_Law_endLine : mj_ck 4 cX5_endLine (none) false bl_Law_endLine = true := by decide +kernel
theorem ck_Law_reachOf : mj_ck 4 cX5_reachOf (some .int) false bl_Law_reachOf = true := by decide +kernel
theorem ck_Law_yieldOf : mj_ck 4 cX5_yieldOf (some .int) false bl_Law_yieldOf = true := by decide +kernel
theorem ck_Law_costOf : mj_ck 4 cX5_costOf (some .int) false bl_Law_costOf = true := by decide +kernel
theorem ck_Law_sumOf : mj_ck 4 cX5_sumOf (some .int) false bl_Law_sumOf = true := by decide +kernel
theorem ck_Law_holds : mj_ck 4 cX5_holds (some .boolean) false bl_Law_holds = true := by decide +kernel
theorem ck_Law_reckon : mj_ck 4 cX5_reckon (some .int) false bl_Law_reckon = true := by decide +kernel
theorem ck_Law_valueOf : mj_ck 4 cX5_valueOf (some .int) false bl_Law_valueOf = true := by decide +kernel
theorem ck_Law_joined : mj_ck 4 cX5_joined (some .int) false bl_Law_joined = true := by decide +kernel
theorem ck_LawText_read : mj_ck 12 cX6_read (some .boolean) false bl_LawText_read = true := by decide +kernel
theorem ck_LawText_readKind : mj_ck 12 cX6_readKind (some .int) false bl_LawText_readKind = true := by decide +kernel
theorem ck_LawText_readAny : mj_ck 12 cX6_readAny (none) false bl_LawText_readAny = true := by decide +kernel
theorem ck_LawText_readAll : mj_ck 12 cX6_readAll (none) false bl_LawText_readAll = true := by decide +kernel
theorem ck_LawText_readAtom : mj_ck 12 cX6_readAtom (none) false bl_LawText_readAtom = true := by decide +kernel
theorem ck_LawText_readComparison : mj_ck 12 cX6_readComparison (none) false bl_LawText_readComparison = true := by decide +kernel
theorem ck_LawText_readSum : mj_ck 12 cX6_readSum (none) false bl_LawText_readSum = true := by decide +kernel
theorem ck_LawText_readPart : mj_ck 12 cX6_readPart (some .int) false bl_LawText_readPart = true := by decide +kernel
theorem ck_Log_init : mj_ck 5 cX7_init (none) true bl_Log_init = true := by decide +kernel
theorem ck_Log_copy : mj_ck 5 cX7_copy (none) false bl_Log_copy = true := by decide +kernel
theorem ck_Log_add : mj_ck 5 cX7_add (none) false bl_Log_add = true := by decide +kernel
theorem ck_Log_cellOf : mj_ck 5 cX7_cellOf (some .int) false bl_Log_cellOf = true := by decide +kernel
theorem ck_Log_isCut : mj_ck 5 cX7_isCut (some .boolean) false bl_Log_isCut = true := by decide +kernel
theorem ck_Log_cutsOf : mj_ck 5 cX7_cutsOf (some .int) false bl_Log_cutsOf = true := by decide +kernel
theorem ck_Log_latestCut : mj_ck 5 cX7_latestCut (some .int) false bl_Log_latestCut = true := by decide +kernel
theorem ck_Orders_init : mj_ck 6 cX8_init (none) true bl_Orders_init = true := by decide +kernel
theorem ck_Orders_copy : mj_ck 6 cX8_copy (none) false bl_Orders_copy = true := by decide +kernel
theorem ck_Orders_add : mj_ck 6 cX8_add (none) false bl_Orders_add = true := by decide +kernel
theorem ck_Orders_isOpen : mj_ck 6 cX8_isOpen (some .boolean) false bl_Orders_isOpen = true := by decide +kernel
theorem ck_Orders_shut : mj_ck 6 cX8_shut (none) false bl_Orders_shut = true := by decide +kernel
theorem ck_Tape_init : mj_ck 7 cX9_init (none) true bl_Tape_init = true := by decide +kernel
theorem ck_Tape_push : mj_ck 7 cX9_push (none) false bl_Tape_push = true := by decide +kernel
theorem ck_Tape_start : mj_ck 7 cX9_start (none) false bl_Tape_start = true := by decide +kernel
theorem ck_Tape_failed : mj_ck 7 cX9_failed (some .boolean) false bl_Tape_failed = true := by decide +kernel
theorem ck_Tape_fail : mj_ck 7 cX9_fail (none) false bl_Tape_fail = true := by decide +kernel
theorem ck_Tape_lineComes : mj_ck 7 cX9_lineComes (some .boolean) false bl_Tape_lineComes = true := by decide +kernel
theorem ck_Tape_isSign : mj_ck 7 cX9_isSign (some .boolean) false bl_Tape_isSign = true := by decide +kernel
theorem ck_Tape_takeSign : mj_ck 7 cX9_takeSign (some .boolean) false bl_Tape_takeSign = true := by decide +kernel
theorem ck_Tape_isWord : mj_ck 7 cX9_isWord (some .boolean) false bl_Tape_isWord = true := by decide +kernel
theorem ck_Tape_takeWord : mj_ck 7 cX9_takeWord (some .boolean) false bl_Tape_takeWord = true := by decide +kernel
theorem ck_Tape_needWord : mj_ck 7 cX9_needWord (none) false bl_Tape_needWord = true := by decide +kernel
theorem ck_Tape_isNumber : mj_ck 7 cX9_isNumber (some .boolean) false bl_Tape_isNumber = true := by decide +kernel
theorem ck_Tape_takeNumber : mj_ck 7 cX9_takeNumber (some .int) false bl_Tape_takeNumber = true := by decide +kernel
theorem ck_Tape_isDigit : mj_ck 7 cX9_isDigit (some .boolean) false bl_Tape_isDigit = true := by decide +kernel
theorem ck_Tape_moveTo : mj_ck 7 cX9_moveTo (none) false bl_Tape_moveTo = true := by decide +kernel
theorem ck_Ways_init : mj_ck 8 cX10_init (none) true bl_Ways_init = true := by decide +kernel
theorem ck_Ways_takePieces : mj_ck 8 cX10_takePieces (some .boolean) false bl_Ways_takePieces = true := by decide +kernel
theorem ck_Ways_takeSeen : mj_ck 8 cX10_takeSeen (some .boolean) false bl_Ways_takeSeen = true := by decide +kernel
theorem ck_Ways_takeTelling : mj_ck 8 cX10_takeTelling (some .boolean) false bl_Ways_takeTelling = true := by decide +kernel
theorem ck_Ways_beginTrying : mj_ck 8 cX10_beginTrying (none) false bl_Ways_beginTrying = true := by decide +kernel
theorem ck_Ways_keepTried : mj_ck 8 cX10_keepTried (none) false bl_Ways_keepTried = true := by decide +kernel
theorem ck_Ways_fewestRods : mj_ck 8 cX10_fewestRods (some .int) false bl_Ways_fewestRods = true := by decide +kernel
theorem ck_Ways_tryRods : mj_ck 8 cX10_tryRods (none) false bl_Ways_tryRods = true := by decide +kernel
theorem ck_Ways_bestTeam : mj_ck 8 cX10_bestTeam (some .int) false bl_Ways_bestTeam = true := by decide +kernel
theorem ck_Ways_tryTeam : mj_ck 8 cX10_tryTeam (none) false bl_Ways_tryTeam = true := by decide +kernel
theorem ck_Ways_bestPairs : mj_ck 8 cX10_bestPairs (some .int) false bl_Ways_bestPairs = true := by decide +kernel
theorem ck_Ways_tryPairs : mj_ck 8 cX10_tryPairs (none) false bl_Ways_tryPairs = true := by decide +kernel
theorem ck_Ways_findWeaves : mj_ck 8 cX10_findWeaves (none) false bl_Ways_findWeaves = true := by decide +kernel
theorem ck_Ways_keepIfSeen : mj_ck 8 cX10_keepIfSeen (none) false bl_Ways_keepIfSeen = true := by decide +kernel
theorem ck_Ways_isOver : mj_ck 8 cX10_isOver (some .boolean) false bl_Ways_isOver = true := by decide +kernel
theorem ck_Ways_placeToLook : mj_ck 8 cX10_placeToLook (some .int) false bl_Ways_placeToLook = true := by decide +kernel
theorem ck_Ways_greaterPart : mj_ck 8 cX10_greaterPart (some .int) false bl_Ways_greaterPart = true := by decide +kernel
theorem ck_Ways_steps : mj_ck 8 cX10_steps (some .int) false bl_Ways_steps = true := by decide +kernel
theorem ck_Ways_nearest : mj_ck 8 cX10_nearest (some .int) false bl_Ways_nearest = true := by decide +kernel
theorem ck_Ways_giveBundles : mj_ck 8 cX10_giveBundles (none) false bl_Ways_giveBundles = true := by decide +kernel
theorem ck_Ways_nextToGive : mj_ck 8 cX10_nextToGive (some .int) false bl_Ways_nextToGive = true := by decide +kernel
theorem ck_JInt_bitCount : mj_ck 14 cJ6_bitCount_0f7a4 (some .int) false bl_JInt_bitCount = true := by decide +kernel
