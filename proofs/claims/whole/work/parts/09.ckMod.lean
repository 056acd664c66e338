theorem ck_Mod_init : mj_ck 10 cX12_init (none) true bl_Mod_init = true := by decide +kernel
theorem ck_Mod_thrown : mj_ck 10 cX12_thrown (some .int) false bl_Mod_thrown = true := by decide +kernel
theorem ck_Mod_isIn : mj_ck 10 cX12_isIn (some .boolean) false bl_Mod_isIn = true := by decide +kernel
theorem ck_Mod_lesser : mj_ck 10 cX12_lesser (some .int) false bl_Mod_lesser = true := by decide +kernel
theorem ck_Mod_greater : mj_ck 10 cX12_greater (some .int) false bl_Mod_greater = true := by decide +kernel
theorem ck_Mod_isOf : mj_ck 10 cX12_isOf (some .boolean) false bl_Mod_isOf = true := by decide +kernel
theorem ck_Mod_bits : mj_ck 10 cX12_bits (some .int) false bl_Mod_bits = true := by decide +kernel
theorem ck_Mod_ofBed : mj_ck 10 cX12_ofBed (some .int) false bl_Mod_ofBed = true := by decide +kernel
theorem ck_Mod_ofBasket : mj_ck 10 cX12_ofBasket (some .int) false bl_Mod_ofBasket = true := by decide +kernel
theorem ck_Mod_skill : mj_ck 10 cX12_skill (some .int) false bl_Mod_skill = true := by decide +kernel
theorem ck_Mod_wage : mj_ck 10 cX12_wage (some .int) false bl_Mod_wage = true := by decide +kernel
theorem ck_Mod_ofOrder : mj_ck 10 cX12_ofOrder (some .int) false bl_Mod_ofOrder = true := by decide +kernel
theorem ck_Mod_stored : mj_ck 10 cX12_stored (some .int) false bl_Mod_stored = true := by decide +kernel
theorem ck_Mod_isBed : mj_ck 10 cX12_isBed (some .boolean) false bl_Mod_isBed = true := by decide +kernel
theorem ck_Mod_isBasket : mj_ck 10 cX12_isBasket (some .boolean) false bl_Mod_isBasket = true := by decide +kernel
theorem ck_Mod_isHand : mj_ck 10 cX12_isHand (some .boolean) false bl_Mod_isHand = true := by decide +kernel
theorem ck_Mod_isOrder : mj_ck 10 cX12_isOrder (some .boolean) false bl_Mod_isOrder = true := by decide +kernel
theorem ck_Mod_feed : mj_ck 10 cX12_feed (some .int) false bl_Mod_feed = true := by decide +kernel
theorem ck_Mod_end : mj_ck 10 cX12_end (some .boolean) false bl_Mod_end = true := by decide +kernel
theorem ck_Mod_letter : mj_ck 10 cX12_letter (some .int) false bl_Mod_letter = true := by decide +kernel
theorem ck_Mod_skip : mj_ck 10 cX12_skip (none) false bl_Mod_skip = true := by decide +kernel
theorem ck_Mod_isSign : mj_ck 10 cX12_isSign (some .boolean) false bl_Mod_isSign = true := by decide +kernel
theorem ck_Mod_has : mj_ck 10 cX12_has (some .boolean) false bl_Mod_has = true := by decide +kernel
theorem ck_Mod_wrong : mj_ck 10 cX12_wrong (none) false bl_Mod_wrong = true := by decide +kernel
theorem ck_Mod_here : mj_ck 10 cX12_here (some .int) false bl_Mod_here = true := by decide +kernel
theorem ck_Mod_figures : mj_ck 10 cX12_figures (some .int) false bl_Mod_figures = true := by decide +kernel
theorem ck_Mod_after : mj_ck 10 cX12_after (some .int) false bl_Mod_after = true := by decide +kernel
theorem ck_Mod_expects : mj_ck 10 cX12_expects (some .boolean) false bl_Mod_expects = true := by decide +kernel
theorem ck_Mod_sortWord : mj_ck 10 cX12_sortWord (some .int) false bl_Mod_sortWord = true := by decide +kernel
theorem ck_Mod_bedLine : mj_ck 10 cX12_bedLine (none) false bl_Mod_bedLine = true := by decide +kernel
theorem ck_Mod_isFigure : mj_ck 10 cX12_isFigure (some .boolean) false bl_Mod_isFigure = true := by decide +kernel
theorem ck_Mod_basketLine : mj_ck 10 cX12_basketLine (none) false bl_Mod_basketLine = true := by decide +kernel
theorem ck_Mod_rodsLine : mj_ck 10 cX12_rodsLine (none) false bl_Mod_rodsLine = true := by decide +kernel
theorem ck_Mod_handLine : mj_ck 10 cX12_handLine (none) false bl_Mod_handLine = true := by decide +kernel
theorem ck_Mod_hires : mj_ck 10 cX12_hires (none) false bl_Mod_hires = true := by decide +kernel
theorem ck_Mod_orderLine : mj_ck 10 cX12_orderLine (none) false bl_Mod_orderLine = true := by decide +kernel
theorem ck_Mod_takes : mj_ck 10 cX12_takes (none) false bl_Mod_takes = true := by decide +kernel
theorem ck_Mod_tells : mj_ck 10 cX12_tells (none) false bl_Mod_tells = true := by decide +kernel
theorem ck_Mod_holtLine : mj_ck 10 cX12_holtLine (none) false bl_Mod_holtLine = true := by decide +kernel
theorem ck_Mod_begins : mj_ck 10 cX12_begins (none) false bl_Mod_begins = true := by decide +kernel
theorem ck_Mod_read : mj_ck 10 cX12_read (some .int) false bl_Mod_read = true := by decide +kernel
theorem ck_Mod_putsAside : mj_ck 10 cX12_putsAside (none) false bl_Mod_putsAside = true := by decide +kernel
theorem ck_Mod_comesBack : mj_ck 10 cX12_comesBack (none) false bl_Mod_comesBack = true := by decide +kernel
theorem ck_Mod_holt : mj_ck 10 cX12_holt (some .int) false bl_Mod_holt = true := by decide +kernel
theorem ck_Mod_part : mj_ck 10 cX12_part (some .int) false bl_Mod_part = true := by decide +kernel
theorem ck_Mod_sum : mj_ck 10 cX12_sum (some .int) false bl_Mod_sum = true := by decide +kernel
theorem ck_Mod_plain : mj_ck 10 cX12_plain (some .boolean) false bl_Mod_plain = true := by decide +kernel
theorem ck_Mod_atom : mj_ck 10 cX12_atom (some .boolean) false bl_Mod_atom = true := by decide +kernel
theorem ck_Mod_every : mj_ck 10 cX12_every (some .boolean) false bl_Mod_every = true := by decide +kernel
theorem ck_Mod_some : mj_ck 10 cX12_some (some .boolean) false bl_Mod_some = true := by decide +kernel
theorem ck_Mod_lawLine : mj_ck 10 cX12_lawLine (none) false bl_Mod_lawLine = true := by decide +kernel
theorem ck_Mod_law : mj_ck 10 cX12_law (some .int) false bl_Mod_law = true := by decide +kernel
theorem ck_Mod_fault : mj_ck 10 cX12_fault (some .int) false bl_Mod_fault = true := by decide +kernel
theorem ck_Mod_asks : mj_ck 10 cX12_asks (none) false bl_Mod_asks = true := by decide +kernel
theorem ck_Mod_reachOf : mj_ck 10 cX12_reachOf (some .int) false bl_Mod_reachOf = true := by decide +kernel
theorem ck_Mod_yieldOf : mj_ck 10 cX12_yieldOf (some .int) false bl_Mod_yieldOf = true := by decide +kernel
theorem ck_Mod_period : mj_ck 10 cX12_period (some .int) false bl_Mod_period = true := by decide +kernel
theorem ck_Mod_isOver : mj_ck 10 cX12_isOver (some .boolean) false bl_Mod_isOver = true := by decide +kernel
theorem ck_Mod_comesAgain : mj_ck 10 cX12_comesAgain (some .boolean) false bl_Mod_comesAgain = true := by decide +kernel
theorem ck_Mod_againOf : mj_ck 10 cX12_againOf (some .int) false bl_Mod_againOf = true := by decide +kernel
theorem ck_Mod_needOf : mj_ck 10 cX12_needOf (some .int) false bl_Mod_needOf = true := by decide +kernel
theorem ck_Mod_rodsOf : mj_ck 10 cX12_rodsOf (some .int) false bl_Mod_rodsOf = true := by decide +kernel
theorem ck_Mod_feetOf : mj_ck 10 cX12_feetOf (some .int) false bl_Mod_feetOf = true := by decide +kernel
theorem ck_Mod_paysOf : mj_ck 10 cX12_paysOf (some .int) false bl_Mod_paysOf = true := by decide +kernel
theorem ck_Mod_hasRods : mj_ck 10 cX12_hasRods (some .boolean) false bl_Mod_hasRods = true := by decide +kernel
theorem ck_Mod_draw : mj_ck 10 cX12_draw (some .int) false bl_Mod_draw = true := by decide +kernel
theorem ck_Mod_logs : mj_ck 10 cX12_logs (none) false bl_Mod_logs = true := by decide +kernel
theorem ck_Mod_makes : mj_ck 10 cX12_makes (none) false bl_Mod_makes = true := by decide +kernel
theorem ck_Mod_ages : mj_ck 10 cX12_ages (none) false bl_Mod_ages = true := by decide +kernel
theorem ck_Mod_passes : mj_ck 10 cX12_passes (some .int) false bl_Mod_passes = true := by decide +kernel
theorem ck_Mod_goes : mj_ck 10 cX12_goes (some .int) false bl_Mod_goes = true := by decide +kernel
theorem ck_Mod_stoolsOfAll : mj_ck 10 cX12_stoolsOfAll (some .int) false bl_Mod_stoolsOfAll = true := by decide +kernel
theorem ck_Mod_openOnes : mj_ck 10 cX12_openOnes (some .int) false bl_Mod_openOnes = true := by decide +kernel
theorem ck_Mod_bed : mj_ck 10 cX12_bed (some .int) false bl_Mod_bed = true := by decide +kernel
theorem ck_Mod_looseBy : mj_ck 10 cX12_looseBy (some .int) false bl_Mod_looseBy = true := by decide +kernel
theorem ck_Mod_loose : mj_ck 10 cX12_loose (some .int) false bl_Mod_loose = true := by decide +kernel
theorem ck_Mod_floatOf : mj_ck 10 cX12_floatOf (some .int) false bl_Mod_floatOf = true := by decide +kernel
theorem ck_Mod_isSame : mj_ck 10 cX12_isSame (some .boolean) false bl_Mod_isSame = true := by decide +kernel
theorem ck_Mod_dropOf : mj_ck 10 cX12_dropOf (some .int) false bl_Mod_dropOf = true := by decide +kernel
theorem ck_Mod_blindOf : mj_ck 10 cX12_blindOf (some .int) false bl_Mod_blindOf = true := by decide +kernel
theorem ck_Mod_fitOf : mj_ck 10 cX12_fitOf (some .int) false bl_Mod_fitOf = true := by decide +kernel
theorem ck_Mod_changeOf : mj_ck 10 cX12_changeOf (some .int) false bl_Mod_changeOf = true := by decide +kernel
theorem ck_Mod_nearest : mj_ck 10 cX12_nearest (some .int) false bl_Mod_nearest = true := by decide +kernel
theorem ck_Mod_basket : mj_ck 10 cX12_basket (some .int) false bl_Mod_basket = true := by decide +kernel
theorem ck_Mod_run : mj_ck 10 cX12_run (some .int) false bl_Mod_run = true := by decide +kernel
theorem ck_Mod_over : mj_ck 10 cX12_over (some .boolean) false bl_Mod_over = true := by decide +kernel
theorem ck_Mod_sound : mj_ck 10 cX12_sound (some .boolean) false bl_Mod_sound = true := by decide +kernel
theorem ck_Mod_store : mj_ck 10 cX12_store (some .int) false bl_Mod_store = true := by decide +kernel
theorem ck_Mod_hand : mj_ck 10 cX12_hand (some .int) false bl_Mod_hand = true := by decide +kernel
theorem ck_Mod_order : mj_ck 10 cX12_order (some .int) false bl_Mod_order = true := by decide +kernel
theorem ck_Mod_remembers : mj_ck 10 cX12_remembers (none) false bl_Mod_remembers = true := by decide +kernel
theorem ck_Mod_sets : mj_ck 10 cX12_sets (some .int) false bl_Mod_sets = true := by decide +kernel
theorem ck_Mod_years : mj_ck 10 cX12_years (some .int) false bl_Mod_years = true := by decide +kernel
theorem ck_Mod_cut : mj_ck 10 cX12_cut (some .int) false bl_Mod_cut = true := by decide +kernel
theorem ck_Mod_buy : mj_ck 10 cX12_buy (some .int) false bl_Mod_buy = true := by decide +kernel
theorem ck_Mod_sell : mj_ck 10 cX12_sell (some .int) false bl_Mod_sell = true := by decide +kernel
theorem ck_Mod_take : mj_ck 10 cX12_take (some .int) false bl_Mod_take = true := by decide +kernel
theorem ck_Mod_drop : mj_ck 10 cX12_drop (none) false bl_Mod_drop = true := by decide +kernel
theorem ck_Mod_drain : mj_ck 10 cX12_drain (some .int) false bl_Mod_drain = true := by decide +kernel
theorem ck_Mod_hire : mj_ck 10 cX12_hire (some .int) false bl_Mod_hire = true := by decide +kernel
theorem ck_Mod_teach : mj_ck 10 cX12_teach (some .int) false bl_Mod_teach = true := by decide +kernel
theorem ck_Mod_make : mj_ck 10 cX12_make (some .int) false bl_Mod_make = true := by decide +kernel
theorem ck_Mod_gainBy : mj_ck 10 cX12_gainBy (some .int) false bl_Mod_gainBy = true := by decide +kernel
theorem ck_Mod_cutsOf : mj_ck 10 cX12_cutsOf (some .int) false bl_Mod_cutsOf = true := by decide +kernel
theorem ck_Mod_gain : mj_ck 10 cX12_gain (some .int) false bl_Mod_gain = true := by decide +kernel
theorem ck_Mod_cuts : mj_ck 10 cX12_cuts (some .int) false bl_Mod_cuts = true := by decide +kernel
theorem ck_Mod_filled : mj_ck 10 cX12_filled (some .int) false bl_Mod_filled = true := by decide +kernel
theorem ck_Mod_mostFilled : mj_ck 10 cX12_mostFilled (some .int) false bl_Mod_mostFilled = true := by decide +kernel
theorem ck_Mod_worth : mj_ck 10 cX12_worth (some .int) false bl_Mod_worth = true := by decide +kernel
theorem ck_Mod_fills : mj_ck 10 cX12_fills (some .int) false bl_Mod_fills = true := by decide +kernel
theorem ck_Mod_packs : mj_ck 10 cX12_packs (some .boolean) false bl_Mod_packs = true := by decide +kernel
theorem ck_Mod_rodsFor : mj_ck 10 cX12_rodsFor (some .int) false bl_Mod_rodsFor = true := by decide +kernel
theorem ck_Mod_pieceMany : mj_ck 10 cX12_pieceMany (some .int) false bl_Mod_pieceMany = true := by decide +kernel
theorem ck_Mod_pieces : mj_ck 10 cX12_pieces (some .int) false bl_Mod_pieces = true := by decide +kernel
theorem ck_Mod_rod : mj_ck 10 cX12_rod (some .int) false bl_Mod_rod = true := by decide +kernel
theorem ck_Mod_isWeave : mj_ck 10 cX12_isWeave (some .boolean) false bl_Mod_isWeave = true := by decide +kernel
theorem ck_Mod_isPassed : mj_ck 10 cX12_isPassed (some .boolean) false bl_Mod_isPassed = true := by decide +kernel
theorem ck_Mod_sees : mj_ck 10 cX12_sees (some .boolean) false bl_Mod_sees = true := by decide +kernel
theorem ck_Mod_seenMany : mj_ck 10 cX12_seenMany (some .int) false bl_Mod_seenMany = true := by decide +kernel
theorem ck_Mod_found : mj_ck 10 cX12_found (some .int) false bl_Mod_found = true := by decide +kernel
theorem ck_Mod_look : mj_ck 10 cX12_look (some .int) false bl_Mod_look = true := by decide +kernel
theorem ck_Mod_worksBy : mj_ck 10 cX12_worksBy (some .int) false bl_Mod_worksBy = true := by decide +kernel
theorem ck_Mod_allTeams : mj_ck 10 cX12_allTeams (none) false bl_Mod_allTeams = true := by decide +kernel
theorem ck_Mod_team : mj_ck 10 cX12_team (some .int) false bl_Mod_team = true := by decide +kernel
theorem ck_Mod_lowest : mj_ck 10 cX12_lowest (some .int) false bl_Mod_lowest = true := by decide +kernel
theorem ck_Mod_both : mj_ck 10 cX12_both (some .int) false bl_Mod_both = true := by decide +kernel
theorem ck_Mod_allBest : mj_ck 10 cX12_allBest (none) false bl_Mod_allBest = true := by decide +kernel
theorem ck_Mod_pairs : mj_ck 10 cX12_pairs (some .int) false bl_Mod_pairs = true := by decide +kernel
theorem ck_Mod_change : mj_ck 10 cX12_change (some .int) false bl_Mod_change = true := by decide +kernel
theorem ck_Mod_share : mj_ck 10 cX12_share (some .int) false bl_Mod_share = true := by decide +kernel
theorem ck_Mod_earned : mj_ck 10 cX12_earned (some .int) false bl_Mod_earned = true := by decide +kernel
theorem ck_Mod_price : mj_ck 10 cX12_price (some .int) false bl_Mod_price = true := by decide +kernel
theorem ck_Mod_heHas : mj_ck 10 cX12_heHas (some .int) false bl_Mod_heHas = true := by decide +kernel
theorem ck_Mod_riverHas : mj_ck 10 cX12_riverHas (some .int) false bl_Mod_riverHas = true := by decide +kernel
theorem ck_Mod_rests : mj_ck 10 cX12_rests (some .int) false bl_Mod_rests = true := by decide +kernel
theorem ck_Mod_odds : mj_ck 10 cX12_odds (some .int) false bl_Mod_odds = true := by decide +kernel
theorem ck_Mod_valueOf : mj_ck 10 cX12_valueOf (some .int) false bl_Mod_valueOf = true := by decide +kernel
theorem ck_Mod_most : mj_ck 10 cX12_most (some .int) false bl_Mod_most = true := by decide +kernel
theorem ck_Mod_open : mj_ck 10 cX12_open (some .int) false bl_Mod_open = true := by decide +kernel
theorem ck_Mod_twins : mj_ck 10 cX12_twins (some .int) false bl_Mod_twins = true := by decide +kernel
theorem ck_Mod_sort : mj_ck 10 cX12_sort (some .int) false bl_Mod_sort = true := by decide +kernel
theorem ck_Mod_lengths : mj_ck 10 cX12_lengths (some .int) false bl_Mod_lengths = true := by decide +kernel
theorem ck_Mod_ahead : mj_ck 10 cX12_ahead (some .int) false bl_Mod_ahead = true := by decide +kernel
theorem ck_Mod_trial : mj_ck 10 cX12_trial (some .int) false bl_Mod_trial = true := by decide +kernel
theorem ck_Mod_span : mj_ck 10 cX12_span (some .int) false bl_Mod_span = true := by decide +kernel
theorem ck_Mod_logged : mj_ck 10 cX12_logged (some .int) false bl_Mod_logged = true := by decide +kernel
theorem ck_Mod_led : mj_ck 10 cX12_led (some .int) false bl_Mod_led = true := by decide +kernel
theorem ck_Mod_log : mj_ck 10 cX12_log (some .int) false bl_Mod_log = true := by decide +kernel
theorem ck_Mod_seed : mj_ck 10 cX12_seed (some .int) false bl_Mod_seed = true := by decide +kernel
theorem ck_Mod_undo : mj_ck 10 cX12_undo (some .boolean) false bl_Mod_undo = true := by decide +kernel
theorem ck_Mod_image : mj_ck 10 cX12_image (none) false bl_Mod_image = true := by decide +kernel
theorem ck_Mod_back : mj_ck 10 cX12_back (some .boolean) false bl_Mod_back = true := by decide +kernel
theorem ck_Mod_count : mj_ck 10 cX12_count (some .int) false bl_Mod_count = true := by decide +kernel
